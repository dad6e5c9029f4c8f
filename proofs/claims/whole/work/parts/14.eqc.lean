/-! THE EQUATIONS of the class (by program) -/
set_option maxRecDepth 100000 in
theorem e_Acts_clear (σ : zH)  : f_Acts_clear σ  =
  some (zset σ 160 1 0, 0) := (zsem_eq _ _ _ _ _ _).trans rfl
set_option maxRecDepth 100000 in
theorem e_Acts_keep (σ : zH) (k1 : Nat) : f_Acts_keep σ k1 =
  if (σ 160 1) < 4 then
    if (zin (σ 160 1) 4 && zio 8 (σ 161 (Int.toNat (σ 160 1)))) = true then
      (f_Stream_copyFrom σ (Int.toNat (σ 161 (Int.toNat (σ 160 1)))) k1).bind fun r1 =>
      some (zset r1.1 160 1 (w32 ((r1.1 160 1) + 1)), 0)
    else none
  else
    (f_Acts_forgetOldest σ).bind fun r2 =>
    if (zin (r2.1 160 1) 4 && zio 8 (r2.1 161 (Int.toNat (r2.1 160 1)))) = true then
      (f_Stream_copyFrom r2.1 (Int.toNat (r2.1 161 (Int.toNat (r2.1 160 1)))) k1).bind fun r3 =>
      some (zset r3.1 160 1 (w32 ((r3.1 160 1) + 1)), 0)
    else none := (zsem_eq _ _ _ _ _ _).trans rfl
set_option maxRecDepth 100000 in
theorem e_Acts_forgetOldest (σ : zH)  : f_Acts_forgetOldest σ  =
  if (zin 0 4 && zio 8 (σ 161 0)) = true then
    f_Acts_forgetOldest_9 σ (Int.toNat (σ 161 0)) 1
  else none := (zsem_eq _ _ _ _ _ _).trans rfl
set_option maxRecDepth 100000 in
theorem e_Acts_forgetOldest_9 (σ : zH) (k1 : Nat) (x2 : Int) : f_Acts_forgetOldest_9 σ k1 x2 =
  if 4 ≤ x2 then
    some (zset (zset σ 161 3 (Int.ofNat k1)) 160 1 3, 0)
  else
    if (zin x2 4 && zio 8 (σ 161 (Int.toNat x2))) = true then
      if zin (w32 (x2 - 1)) 4 = true then
        f_Acts_forgetOldest_9 (zset σ 161 (Int.toNat (w32 (x2 - 1))) (Int.ofNat (Int.toNat (σ 161 (Int.toNat x2))))) k1 (w32 (x2 + 1))
      else none
    else none := (zsem_eq _ _ _ _ _ _).trans rfl
set_option maxRecDepth 100000 in
theorem e_Acts_giveBack (σ : zH) (k1 : Nat) : f_Acts_giveBack σ k1 =
  if ¬ (σ 160 1) = 0 then
    if (zin ((zset σ 160 1 (w32 ((σ 160 1) - 1))) 160 1) 4 && zio 8 ((zset σ 160 1 (w32 ((σ 160 1) - 1))) 161 (Int.toNat ((zset σ 160 1 (w32 ((σ 160 1) - 1))) 160 1)))) = true then
      (f_Stream_copyFrom (zset σ 160 1 (w32 ((σ 160 1) - 1))) k1 (Int.toNat ((zset σ 160 1 (w32 ((σ 160 1) - 1))) 161 (Int.toNat ((zset σ 160 1 (w32 ((σ 160 1) - 1))) 160 1))))).bind fun r1 =>
      some (r1.1, 1)
    else none
  else
    some (σ, 0) := (zsem_eq _ _ _ _ _ _).trans rfl
set_option maxRecDepth 100000 in
theorem e_Country_clear (σ : zH) (k0 : Nat) : f_Country_clear σ k0 =
  some (zset (zset (zset (zset (zset (zset (zset σ (k0 + 32) 3 0) k0 13 0) k0 14 0) k0 15 0) k0 16 0) k0 17 0) k0 18 0, 0) := (zsem_eq _ _ _ _ _ _).trans rfl
set_option maxRecDepth 100000 in
theorem e_Country_copyFrom (σ : zH) (k0 : Nat) (k1 : Nat) : f_Country_copyFrom σ k0 k1 =
  (f_Names_copyFrom σ (k0 + 32) (k1 + 32)).bind fun r1 =>
  some (zset (zset (zset (zset (zset (zset (zcp (zcp (zcp (zcp (zcp (zcp (zcp (zcp (zcp (zcp (zcp (zcp r1.1 (k1 + 2) 0 (k0 + 2) 0 10) (k1 + 3) 0 (k0 + 3) 0 8) (k1 + 4) 0 (k0 + 4) 0 8) (k1 + 5) 0 (k0 + 5) 0 8) (k1 + 6) 0 (k0 + 6) 0 8) (k1 + 7) 0 (k0 + 7) 0 96) (k1 + 8) 0 (k0 + 8) 0 6) (k1 + 9) 0 (k0 + 9) 0 6) (k1 + 10) 0 (k0 + 10) 0 60) (k1 + 11) 0 (k0 + 11) 0 6) (k1 + 12) 0 (k0 + 12) 0 6) (k1 + 13) 0 (k0 + 13) 0 6) k0 13 ((zcp (zcp (zcp (zcp (zcp (zcp (zcp (zcp (zcp (zcp (zcp (zcp r1.1 (k1 + 2) 0 (k0 + 2) 0 10) (k1 + 3) 0 (k0 + 3) 0 8) (k1 + 4) 0 (k0 + 4) 0 8) (k1 + 5) 0 (k0 + 5) 0 8) (k1 + 6) 0 (k0 + 6) 0 8) (k1 + 7) 0 (k0 + 7) 0 96) (k1 + 8) 0 (k0 + 8) 0 6) (k1 + 9) 0 (k0 + 9) 0 6) (k1 + 10) 0 (k0 + 10) 0 60) (k1 + 11) 0 (k0 + 11) 0 6) (k1 + 12) 0 (k0 + 12) 0 6) (k1 + 13) 0 (k0 + 13) 0 6) k1 13)) k0 14 ((zset (zcp (zcp (zcp (zcp (zcp (zcp (zcp (zcp (zcp (zcp (zcp (zcp r1.1 (k1 + 2) 0 (k0 + 2) 0 10) (k1 + 3) 0 (k0 + 3) 0 8) (k1 + 4) 0 (k0 + 4) 0 8) (k1 + 5) 0 (k0 + 5) 0 8) (k1 + 6) 0 (k0 + 6) 0 8) (k1 + 7) 0 (k0 + 7) 0 96) (k1 + 8) 0 (k0 + 8) 0 6) (k1 + 9) 0 (k0 + 9) 0 6) (k1 + 10) 0 (k0 + 10) 0 60) (k1 + 11) 0 (k0 + 11) 0 6) (k1 + 12) 0 (k0 + 12) 0 6) (k1 + 13) 0 (k0 + 13) 0 6) k0 13 ((zcp (zcp (zcp (zcp (zcp (zcp (zcp (zcp (zcp (zcp (zcp (zcp r1.1 (k1 + 2) 0 (k0 + 2) 0 10) (k1 + 3) 0 (k0 + 3) 0 8) (k1 + 4) 0 (k0 + 4) 0 8) (k1 + 5) 0 (k0 + 5) 0 8) (k1 + 6) 0 (k0 + 6) 0 8) (k1 + 7) 0 (k0 + 7) 0 96) (k1 + 8) 0 (k0 + 8) 0 6) (k1 + 9) 0 (k0 + 9) 0 6) (k1 + 10) 0 (k0 + 10) 0 60) (k1 + 11) 0 (k0 + 11) 0 6) (k1 + 12) 0 (k0 + 12) 0 6) (k1 + 13) 0 (k0 + 13) 0 6) k1 13)) k1 14)) k0 15 ((zset (zset (zcp (zcp (zcp (zcp (zcp (zcp (zcp (zcp (zcp (zcp (zcp (zcp r1.1 (k1 + 2) 0 (k0 + 2) 0 10) (k1 + 3) 0 (k0 + 3) 0 8) (k1 + 4) 0 (k0 + 4) 0 8) (k1 + 5) 0 (k0 + 5) 0 8) (k1 + 6) 0 (k0 + 6) 0 8) (k1 + 7) 0 (k0 + 7) 0 96) (k1 + 8) 0 (k0 + 8) 0 6) (k1 + 9) 0 (k0 + 9) 0 6) (k1 + 10) 0 (k0 + 10) 0 60) (k1 + 11) 0 (k0 + 11) 0 6) (k1 + 12) 0 (k0 + 12) 0 6) (k1 + 13) 0 (k0 + 13) 0 6) k0 13 ((zcp (zcp (zcp (zcp (zcp (zcp (zcp (zcp (zcp (zcp (zcp (zcp r1.1 (k1 + 2) 0 (k0 + 2) 0 10) (k1 + 3) 0 (k0 + 3) 0 8) (k1 + 4) 0 (k0 + 4) 0 8) (k1 + 5) 0 (k0 + 5) 0 8) (k1 + 6) 0 (k0 + 6) 0 8) (k1 + 7) 0 (k0 + 7) 0 96) (k1 + 8) 0 (k0 + 8) 0 6) (k1 + 9) 0 (k0 + 9) 0 6) (k1 + 10) 0 (k0 + 10) 0 60) (k1 + 11) 0 (k0 + 11) 0 6) (k1 + 12) 0 (k0 + 12) 0 6) (k1 + 13) 0 (k0 + 13) 0 6) k1 13)) k0 14 ((zset (zcp (zcp (zcp (zcp (zcp (zcp (zcp (zcp (zcp (zcp (zcp (zcp r1.1 (k1 + 2) 0 (k0 + 2) 0 10) (k1 + 3) 0 (k0 + 3) 0 8) (k1 + 4) 0 (k0 + 4) 0 8) (k1 + 5) 0 (k0 + 5) 0 8) (k1 + 6) 0 (k0 + 6) 0 8) (k1 + 7) 0 (k0 + 7) 0 96) (k1 + 8) 0 (k0 + 8) 0 6) (k1 + 9) 0 (k0 + 9) 0 6) (k1 + 10) 0 (k0 + 10) 0 60) (k1 + 11) 0 (k0 + 11) 0 6) (k1 + 12) 0 (k0 + 12) 0 6) (k1 + 13) 0 (k0 + 13) 0 6) k0 13 ((zcp (zcp (zcp (zcp (zcp (zcp (zcp (zcp (zcp (zcp (zcp (zcp r1.1 (k1 + 2) 0 (k0 + 2) 0 10) (k1 + 3) 0 (k0 + 3) 0 8) (k1 + 4) 0 (k0 + 4) 0 8) (k1 + 5) 0 (k0 + 5) 0 8) (k1 + 6) 0 (k0 + 6) 0 8) (k1 + 7) 0 (k0 + 7) 0 96) (k1 + 8) 0 (k0 + 8) 0 6) (k1 + 9) 0 (k0 + 9) 0 6) (k1 + 10) 0 (k0 + 10) 0 60) (k1 + 11) 0 (k0 + 11) 0 6) (k1 + 12) 0 (k0 + 12) 0 6) (k1 + 13) 0 (k0 + 13) 0 6) k1 13)) k1 14)) k1 15)) k0 16 ((zset (zset (zset (zcp (zcp (zcp (zcp (zcp (zcp (zcp (zcp (zcp (zcp (zcp (zcp r1.1 (k1 + 2) 0 (k0 + 2) 0 10) (k1 + 3) 0 (k0 + 3) 0 8) (k1 + 4) 0 (k0 + 4) 0 8) (k1 + 5) 0 (k0 + 5) 0 8) (k1 + 6) 0 (k0 + 6) 0 8) (k1 + 7) 0 (k0 + 7) 0 96) (k1 + 8) 0 (k0 + 8) 0 6) (k1 + 9) 0 (k0 + 9) 0 6) (k1 + 10) 0 (k0 + 10) 0 60) (k1 + 11) 0 (k0 + 11) 0 6) (k1 + 12) 0 (k0 + 12) 0 6) (k1 + 13) 0 (k0 + 13) 0 6) k0 13 ((zcp (zcp (zcp (zcp (zcp (zcp (zcp (zcp (zcp (zcp (zcp (zcp r1.1 (k1 + 2) 0 (k0 + 2) 0 10) (k1 + 3) 0 (k0 + 3) 0 8) (k1 + 4) 0 (k0 + 4) 0 8) (k1 + 5) 0 (k0 + 5) 0 8) (k1 + 6) 0 (k0 + 6) 0 8) (k1 + 7) 0 (k0 + 7) 0 96) (k1 + 8) 0 (k0 + 8) 0 6) (k1 + 9) 0 (k0 + 9) 0 6) (k1 + 10) 0 (k0 + 10) 0 60) (k1 + 11) 0 (k0 + 11) 0 6) (k1 + 12) 0 (k0 + 12) 0 6) (k1 + 13) 0 (k0 + 13) 0 6) k1 13)) k0 14 ((zset (zcp (zcp (zcp (zcp (zcp (zcp (zcp (zcp (zcp (zcp (zcp (zcp r1.1 (k1 + 2) 0 (k0 + 2) 0 10) (k1 + 3) 0 (k0 + 3) 0 8) (k1 + 4) 0 (k0 + 4) 0 8) (k1 + 5) 0 (k0 + 5) 0 8) (k1 + 6) 0 (k0 + 6) 0 8) (k1 + 7) 0 (k0 + 7) 0 96) (k1 + 8) 0 (k0 + 8) 0 6) (k1 + 9) 0 (k0 + 9) 0 6) (k1 + 10) 0 (k0 + 10) 0 60) (k1 + 11) 0 (k0 + 11) 0 6) (k1 + 12) 0 (k0 + 12) 0 6) (k1 + 13) 0 (k0 + 13) 0 6) k0 13 ((zcp (zcp (zcp (zcp (zcp (zcp (zcp (zcp (zcp (zcp (zcp (zcp r1.1 (k1 + 2) 0 (k0 + 2) 0 10) (k1 + 3) 0 (k0 + 3) 0 8) (k1 + 4) 0 (k0 + 4) 0 8) (k1 + 5) 0 (k0 + 5) 0 8) (k1 + 6) 0 (k0 + 6) 0 8) (k1 + 7) 0 (k0 + 7) 0 96) (k1 + 8) 0 (k0 + 8) 0 6) (k1 + 9) 0 (k0 + 9) 0 6) (k1 + 10) 0 (k0 + 10) 0 60) (k1 + 11) 0 (k0 + 11) 0 6) (k1 + 12) 0 (k0 + 12) 0 6) (k1 + 13) 0 (k0 + 13) 0 6) k1 13)) k1 14)) k0 15 ((zset (zset (zcp (zcp (zcp (zcp (zcp (zcp (zcp (zcp (zcp (zcp (zcp (zcp r1.1 (k1 + 2) 0 (k0 + 2) 0 10) (k1 + 3) 0 (k0 + 3) 0 8) (k1 + 4) 0 (k0 + 4) 0 8) (k1 + 5) 0 (k0 + 5) 0 8) (k1 + 6) 0 (k0 + 6) 0 8) (k1 + 7) 0 (k0 + 7) 0 96) (k1 + 8) 0 (k0 + 8) 0 6) (k1 + 9) 0 (k0 + 9) 0 6) (k1 + 10) 0 (k0 + 10) 0 60) (k1 + 11) 0 (k0 + 11) 0 6) (k1 + 12) 0 (k0 + 12) 0 6) (k1 + 13) 0 (k0 + 13) 0 6) k0 13 ((zcp (zcp (zcp (zcp (zcp (zcp (zcp (zcp (zcp (zcp (zcp (zcp r1.1 (k1 + 2) 0 (k0 + 2) 0 10) (k1 + 3) 0 (k0 + 3) 0 8) (k1 + 4) 0 (k0 + 4) 0 8) (k1 + 5) 0 (k0 + 5) 0 8) (k1 + 6) 0 (k0 + 6) 0 8) (k1 + 7) 0 (k0 + 7) 0 96) (k1 + 8) 0 (k0 + 8) 0 6) (k1 + 9) 0 (k0 + 9) 0 6) (k1 + 10) 0 (k0 + 10) 0 60) (k1 + 11) 0 (k0 + 11) 0 6) (k1 + 12) 0 (k0 + 12) 0 6) (k1 + 13) 0 (k0 + 13) 0 6) k1 13)) k0 14 ((zset (zcp (zcp (zcp (zcp (zcp (zcp (zcp (zcp (zcp (zcp (zcp (zcp r1.1 (k1 + 2) 0 (k0 + 2) 0 10) (k1 + 3) 0 (k0 + 3) 0 8) (k1 + 4) 0 (k0 + 4) 0 8) (k1 + 5) 0 (k0 + 5) 0 8) (k1 + 6) 0 (k0 + 6) 0 8) (k1 + 7) 0 (k0 + 7) 0 96) (k1 + 8) 0 (k0 + 8) 0 6) (k1 + 9) 0 (k0 + 9) 0 6) (k1 + 10) 0 (k0 + 10) 0 60) (k1 + 11) 0 (k0 + 11) 0 6) (k1 + 12) 0 (k0 + 12) 0 6) (k1 + 13) 0 (k0 + 13) 0 6) k0 13 ((zcp (zcp (zcp (zcp (zcp (zcp (zcp (zcp (zcp (zcp (zcp (zcp r1.1 (k1 + 2) 0 (k0 + 2) 0 10) (k1 + 3) 0 (k0 + 3) 0 8) (k1 + 4) 0 (k0 + 4) 0 8) (k1 + 5) 0 (k0 + 5) 0 8) (k1 + 6) 0 (k0 + 6) 0 8) (k1 + 7) 0 (k0 + 7) 0 96) (k1 + 8) 0 (k0 + 8) 0 6) (k1 + 9) 0 (k0 + 9) 0 6) (k1 + 10) 0 (k0 + 10) 0 60) (k1 + 11) 0 (k0 + 11) 0 6) (k1 + 12) 0 (k0 + 12) 0 6) (k1 + 13) 0 (k0 + 13) 0 6) k1 13)) k1 14)) k1 15)) k1 16)) k0 17 ((zset (zset (zset (zset (zcp (zcp (zcp (zcp (zcp (zcp (zcp (zcp (zcp (zcp (zcp (zcp r1.1 (k1 + 2) 0 (k0 + 2) 0 10) (k1 + 3) 0 (k0 + 3) 0 8) (k1 + 4) 0 (k0 + 4) 0 8) (k1 + 5) 0 (k0 + 5) 0 8) (k1 + 6) 0 (k0 + 6) 0 8) (k1 + 7) 0 (k0 + 7) 0 96) (k1 + 8) 0 (k0 + 8) 0 6) (k1 + 9) 0 (k0 + 9) 0 6) (k1 + 10) 0 (k0 + 10) 0 60) (k1 + 11) 0 (k0 + 11) 0 6) (k1 + 12) 0 (k0 + 12) 0 6) (k1 + 13) 0 (k0 + 13) 0 6) k0 13 ((zcp (zcp (zcp (zcp (zcp (zcp (zcp (zcp (zcp (zcp (zcp (zcp r1.1 (k1 + 2) 0 (k0 + 2) 0 10) (k1 + 3) 0 (k0 + 3) 0 8) (k1 + 4) 0 (k0 + 4) 0 8) (k1 + 5) 0 (k0 + 5) 0 8) (k1 + 6) 0 (k0 + 6) 0 8) (k1 + 7) 0 (k0 + 7) 0 96) (k1 + 8) 0 (k0 + 8) 0 6) (k1 + 9) 0 (k0 + 9) 0 6) (k1 + 10) 0 (k0 + 10) 0 60) (k1 + 11) 0 (k0 + 11) 0 6) (k1 + 12) 0 (k0 + 12) 0 6) (k1 + 13) 0 (k0 + 13) 0 6) k1 13)) k0 14 ((zset (zcp (zcp (zcp (zcp (zcp (zcp (zcp (zcp (zcp (zcp (zcp (zcp r1.1 (k1 + 2) 0 (k0 + 2) 0 10) (k1 + 3) 0 (k0 + 3) 0 8) (k1 + 4) 0 (k0 + 4) 0 8) (k1 + 5) 0 (k0 + 5) 0 8) (k1 + 6) 0 (k0 + 6) 0 8) (k1 + 7) 0 (k0 + 7) 0 96) (k1 + 8) 0 (k0 + 8) 0 6) (k1 + 9) 0 (k0 + 9) 0 6) (k1 + 10) 0 (k0 + 10) 0 60) (k1 + 11) 0 (k0 + 11) 0 6) (k1 + 12) 0 (k0 + 12) 0 6) (k1 + 13) 0 (k0 + 13) 0 6) k0 13 ((zcp (zcp (zcp (zcp (zcp (zcp (zcp (zcp (zcp (zcp (zcp (zcp r1.1 (k1 + 2) 0 (k0 + 2) 0 10) (k1 + 3) 0 (k0 + 3) 0 8) (k1 + 4) 0 (k0 + 4) 0 8) (k1 + 5) 0 (k0 + 5) 0 8) (k1 + 6) 0 (k0 + 6) 0 8) (k1 + 7) 0 (k0 + 7) 0 96) (k1 + 8) 0 (k0 + 8) 0 6) (k1 + 9) 0 (k0 + 9) 0 6) (k1 + 10) 0 (k0 + 10) 0 60) (k1 + 11) 0 (k0 + 11) 0 6) (k1 + 12) 0 (k0 + 12) 0 6) (k1 + 13) 0 (k0 + 13) 0 6) k1 13)) k1 14)) k0 15 ((zset (zset (zcp (zcp (zcp (zcp (zcp (zcp (zcp (zcp (zcp (zcp (zcp (zcp r1.1 (k1 + 2) 0 (k0 + 2) 0 10) (k1 + 3) 0 (k0 + 3) 0 8) (k1 + 4) 0 (k0 + 4) 0 8) (k1 + 5) 0 (k0 + 5) 0 8) (k1 + 6) 0 (k0 + 6) 0 8) (k1 + 7) 0 (k0 + 7) 0 96) (k1 + 8) 0 (k0 + 8) 0 6) (k1 + 9) 0 (k0 + 9) 0 6) (k1 + 10) 0 (k0 + 10) 0 60) (k1 + 11) 0 (k0 + 11) 0 6) (k1 + 12) 0 (k0 + 12) 0 6) (k1 + 13) 0 (k0 + 13) 0 6) k0 13 ((zcp (zcp (zcp (zcp (zcp (zcp (zcp (zcp (zcp (zcp (zcp (zcp r1.1 (k1 + 2) 0 (k0 + 2) 0 10) (k1 + 3) 0 (k0 + 3) 0 8) (k1 + 4) 0 (k0 + 4) 0 8) (k1 + 5) 0 (k0 + 5) 0 8) (k1 + 6) 0 (k0 + 6) 0 8) (k1 + 7) 0 (k0 + 7) 0 96) (k1 + 8) 0 (k0 + 8) 0 6) (k1 + 9) 0 (k0 + 9) 0 6) (k1 + 10) 0 (k0 + 10) 0 60) (k1 + 11) 0 (k0 + 11) 0 6) (k1 + 12) 0 (k0 + 12) 0 6) (k1 + 13) 0 (k0 + 13) 0 6) k1 13)) k0 14 ((zset (zcp (zcp (zcp (zcp (zcp (zcp (zcp (zcp (zcp (zcp (zcp (zcp r1.1 (k1 + 2) 0 (k0 + 2) 0 10) (k1 + 3) 0 (k0 + 3) 0 8) (k1 + 4) 0 (k0 + 4) 0 8) (k1 + 5) 0 (k0 + 5) 0 8) (k1 + 6) 0 (k0 + 6) 0 8) (k1 + 7) 0 (k0 + 7) 0 96) (k1 + 8) 0 (k0 + 8) 0 6) (k1 + 9) 0 (k0 + 9) 0 6) (k1 + 10) 0 (k0 + 10) 0 60) (k1 + 11) 0 (k0 + 11) 0 6) (k1 + 12) 0 (k0 + 12) 0 6) (k1 + 13) 0 (k0 + 13) 0 6) k0 13 ((zcp (zcp (zcp (zcp (zcp (zcp (zcp (zcp (zcp (zcp (zcp (zcp r1.1 (k1 + 2) 0 (k0 + 2) 0 10) (k1 + 3) 0 (k0 + 3) 0 8) (k1 + 4) 0 (k0 + 4) 0 8) (k1 + 5) 0 (k0 + 5) 0 8) (k1 + 6) 0 (k0 + 6) 0 8) (k1 + 7) 0 (k0 + 7) 0 96) (k1 + 8) 0 (k0 + 8) 0 6) (k1 + 9) 0 (k0 + 9) 0 6) (k1 + 10) 0 (k0 + 10) 0 60) (k1 + 11) 0 (k0 + 11) 0 6) (k1 + 12) 0 (k0 + 12) 0 6) (k1 + 13) 0 (k0 + 13) 0 6) k1 13)) k1 14)) k1 15)) k0 16 ((zset (zset (zset (zcp (zcp (zcp (zcp (zcp (zcp (zcp (zcp (zcp (zcp (zcp (zcp r1.1 (k1 + 2) 0 (k0 + 2) 0 10) (k1 + 3) 0 (k0 + 3) 0 8) (k1 + 4) 0 (k0 + 4) 0 8) (k1 + 5) 0 (k0 + 5) 0 8) (k1 + 6) 0 (k0 + 6) 0 8) (k1 + 7) 0 (k0 + 7) 0 96) (k1 + 8) 0 (k0 + 8) 0 6) (k1 + 9) 0 (k0 + 9) 0 6) (k1 + 10) 0 (k0 + 10) 0 60) (k1 + 11) 0 (k0 + 11) 0 6) (k1 + 12) 0 (k0 + 12) 0 6) (k1 + 13) 0 (k0 + 13) 0 6) k0 13 ((zcp (zcp (zcp (zcp (zcp (zcp (zcp (zcp (zcp (zcp (zcp (zcp r1.1 (k1 + 2) 0 (k0 + 2) 0 10) (k1 + 3) 0 (k0 + 3) 0 8) (k1 + 4) 0 (k0 + 4) 0 8) (k1 + 5) 0 (k0 + 5) 0 8) (k1 + 6) 0 (k0 + 6) 0 8) (k1 + 7) 0 (k0 + 7) 0 96) (k1 + 8) 0 (k0 + 8) 0 6) (k1 + 9) 0 (k0 + 9) 0 6) (k1 + 10) 0 (k0 + 10) 0 60) (k1 + 11) 0 (k0 + 11) 0 6) (k1 + 12) 0 (k0 + 12) 0 6) (k1 + 13) 0 (k0 + 13) 0 6) k1 13)) k0 14 ((zset (zcp (zcp (zcp (zcp (zcp (zcp (zcp (zcp (zcp (zcp (zcp (zcp r1.1 (k1 + 2) 0 (k0 + 2) 0 10) (k1 + 3) 0 (k0 + 3) 0 8) (k1 + 4) 0 (k0 + 4) 0 8) (k1 + 5) 0 (k0 + 5) 0 8) (k1 + 6) 0 (k0 + 6) 0 8) (k1 + 7) 0 (k0 + 7) 0 96) (k1 + 8) 0 (k0 + 8) 0 6) (k1 + 9) 0 (k0 + 9) 0 6) (k1 + 10) 0 (k0 + 10) 0 60) (k1 + 11) 0 (k0 + 11) 0 6) (k1 + 12) 0 (k0 + 12) 0 6) (k1 + 13) 0 (k0 + 13) 0 6) k0 13 ((zcp (zcp (zcp (zcp (zcp (zcp (zcp (zcp (zcp (zcp (zcp (zcp r1.1 (k1 + 2) 0 (k0 + 2) 0 10) (k1 + 3) 0 (k0 + 3) 0 8) (k1 + 4) 0 (k0 + 4) 0 8) (k1 + 5) 0 (k0 + 5) 0 8) (k1 + 6) 0 (k0 + 6) 0 8) (k1 + 7) 0 (k0 + 7) 0 96) (k1 + 8) 0 (k0 + 8) 0 6) (k1 + 9) 0 (k0 + 9) 0 6) (k1 + 10) 0 (k0 + 10) 0 60) (k1 + 11) 0 (k0 + 11) 0 6) (k1 + 12) 0 (k0 + 12) 0 6) (k1 + 13) 0 (k0 + 13) 0 6) k1 13)) k1 14)) k0 15 ((zset (zset (zcp (zcp (zcp (zcp (zcp (zcp (zcp (zcp (zcp (zcp (zcp (zcp r1.1 (k1 + 2) 0 (k0 + 2) 0 10) (k1 + 3) 0 (k0 + 3) 0 8) (k1 + 4) 0 (k0 + 4) 0 8) (k1 + 5) 0 (k0 + 5) 0 8) (k1 + 6) 0 (k0 + 6) 0 8) (k1 + 7) 0 (k0 + 7) 0 96) (k1 + 8) 0 (k0 + 8) 0 6) (k1 + 9) 0 (k0 + 9) 0 6) (k1 + 10) 0 (k0 + 10) 0 60) (k1 + 11) 0 (k0 + 11) 0 6) (k1 + 12) 0 (k0 + 12) 0 6) (k1 + 13) 0 (k0 + 13) 0 6) k0 13 ((zcp (zcp (zcp (zcp (zcp (zcp (zcp (zcp (zcp (zcp (zcp (zcp r1.1 (k1 + 2) 0 (k0 + 2) 0 10) (k1 + 3) 0 (k0 + 3) 0 8) (k1 + 4) 0 (k0 + 4) 0 8) (k1 + 5) 0 (k0 + 5) 0 8) (k1 + 6) 0 (k0 + 6) 0 8) (k1 + 7) 0 (k0 + 7) 0 96) (k1 + 8) 0 (k0 + 8) 0 6) (k1 + 9) 0 (k0 + 9) 0 6) (k1 + 10) 0 (k0 + 10) 0 60) (k1 + 11) 0 (k0 + 11) 0 6) (k1 + 12) 0 (k0 + 12) 0 6) (k1 + 13) 0 (k0 + 13) 0 6) k1 13)) k0 14 ((zset (zcp (zcp (zcp (zcp (zcp (zcp (zcp (zcp (zcp (zcp (zcp (zcp r1.1 (k1 + 2) 0 (k0 + 2) 0 10) (k1 + 3) 0 (k0 + 3) 0 8) (k1 + 4) 0 (k0 + 4) 0 8) (k1 + 5) 0 (k0 + 5) 0 8) (k1 + 6) 0 (k0 + 6) 0 8) (k1 + 7) 0 (k0 + 7) 0 96) (k1 + 8) 0 (k0 + 8) 0 6) (k1 + 9) 0 (k0 + 9) 0 6) (k1 + 10) 0 (k0 + 10) 0 60) (k1 + 11) 0 (k0 + 11) 0 6) (k1 + 12) 0 (k0 + 12) 0 6) (k1 + 13) 0 (k0 + 13) 0 6) k0 13 ((zcp (zcp (zcp (zcp (zcp (zcp (zcp (zcp (zcp (zcp (zcp (zcp r1.1 (k1 + 2) 0 (k0 + 2) 0 10) (k1 + 3) 0 (k0 + 3) 0 8) (k1 + 4) 0 (k0 + 4) 0 8) (k1 + 5) 0 (k0 + 5) 0 8) (k1 + 6) 0 (k0 + 6) 0 8) (k1 + 7) 0 (k0 + 7) 0 96) (k1 + 8) 0 (k0 + 8) 0 6) (k1 + 9) 0 (k0 + 9) 0 6) (k1 + 10) 0 (k0 + 10) 0 60) (k1 + 11) 0 (k0 + 11) 0 6) (k1 + 12) 0 (k0 + 12) 0 6) (k1 + 13) 0 (k0 + 13) 0 6) k1 13)) k1 14)) k1 15)) k1 16)) k1 17)) k0 18 ((zset (zset (zset (zset (zset (zcp (zcp (zcp (zcp (zcp (zcp (zcp (zcp (zcp (zcp (zcp (zcp r1.1 (k1 + 2) 0 (k0 + 2) 0 10) (k1 + 3) 0 (k0 + 3) 0 8) (k1 + 4) 0 (k0 + 4) 0 8) (k1 + 5) 0 (k0 + 5) 0 8) (k1 + 6) 0 (k0 + 6) 0 8) (k1 + 7) 0 (k0 + 7) 0 96) (k1 + 8) 0 (k0 + 8) 0 6) (k1 + 9) 0 (k0 + 9) 0 6) (k1 + 10) 0 (k0 + 10) 0 60) (k1 + 11) 0 (k0 + 11) 0 6) (k1 + 12) 0 (k0 + 12) 0 6) (k1 + 13) 0 (k0 + 13) 0 6) k0 13 ((zcp (zcp (zcp (zcp (zcp (zcp (zcp (zcp (zcp (zcp (zcp (zcp r1.1 (k1 + 2) 0 (k0 + 2) 0 10) (k1 + 3) 0 (k0 + 3) 0 8) (k1 + 4) 0 (k0 + 4) 0 8) (k1 + 5) 0 (k0 + 5) 0 8) (k1 + 6) 0 (k0 + 6) 0 8) (k1 + 7) 0 (k0 + 7) 0 96) (k1 + 8) 0 (k0 + 8) 0 6) (k1 + 9) 0 (k0 + 9) 0 6) (k1 + 10) 0 (k0 + 10) 0 60) (k1 + 11) 0 (k0 + 11) 0 6) (k1 + 12) 0 (k0 + 12) 0 6) (k1 + 13) 0 (k0 + 13) 0 6) k1 13)) k0 14 ((zset (zcp (zcp (zcp (zcp (zcp (zcp (zcp (zcp (zcp (zcp (zcp (zcp r1.1 (k1 + 2) 0 (k0 + 2) 0 10) (k1 + 3) 0 (k0 + 3) 0 8) (k1 + 4) 0 (k0 + 4) 0 8) (k1 + 5) 0 (k0 + 5) 0 8) (k1 + 6) 0 (k0 + 6) 0 8) (k1 + 7) 0 (k0 + 7) 0 96) (k1 + 8) 0 (k0 + 8) 0 6) (k1 + 9) 0 (k0 + 9) 0 6) (k1 + 10) 0 (k0 + 10) 0 60) (k1 + 11) 0 (k0 + 11) 0 6) (k1 + 12) 0 (k0 + 12) 0 6) (k1 + 13) 0 (k0 + 13) 0 6) k0 13 ((zcp (zcp (zcp (zcp (zcp (zcp (zcp (zcp (zcp (zcp (zcp (zcp r1.1 (k1 + 2) 0 (k0 + 2) 0 10) (k1 + 3) 0 (k0 + 3) 0 8) (k1 + 4) 0 (k0 + 4) 0 8) (k1 + 5) 0 (k0 + 5) 0 8) (k1 + 6) 0 (k0 + 6) 0 8) (k1 + 7) 0 (k0 + 7) 0 96) (k1 + 8) 0 (k0 + 8) 0 6) (k1 + 9) 0 (k0 + 9) 0 6) (k1 + 10) 0 (k0 + 10) 0 60) (k1 + 11) 0 (k0 + 11) 0 6) (k1 + 12) 0 (k0 + 12) 0 6) (k1 + 13) 0 (k0 + 13) 0 6) k1 13)) k1 14)) k0 15 ((zset (zset (zcp (zcp (zcp (zcp (zcp (zcp (zcp (zcp (zcp (zcp (zcp (zcp r1.1 (k1 + 2) 0 (k0 + 2) 0 10) (k1 + 3) 0 (k0 + 3) 0 8) (k1 + 4) 0 (k0 + 4) 0 8) (k1 + 5) 0 (k0 + 5) 0 8) (k1 + 6) 0 (k0 + 6) 0 8) (k1 + 7) 0 (k0 + 7) 0 96) (k1 + 8) 0 (k0 + 8) 0 6) (k1 + 9) 0 (k0 + 9) 0 6) (k1 + 10) 0 (k0 + 10) 0 60) (k1 + 11) 0 (k0 + 11) 0 6) (k1 + 12) 0 (k0 + 12) 0 6) (k1 + 13) 0 (k0 + 13) 0 6) k0 13 ((zcp (zcp (zcp (zcp (zcp (zcp (zcp (zcp (zcp (zcp (zcp (zcp r1.1 (k1 + 2) 0 (k0 + 2) 0 10) (k1 + 3) 0 (k0 + 3) 0 8) (k1 + 4) 0 (k0 + 4) 0 8) (k1 + 5) 0 (k0 + 5) 0 8) (k1 + 6) 0 (k0 + 6) 0 8) (k1 + 7) 0 (k0 + 7) 0 96) (k1 + 8) 0 (k0 + 8) 0 6) (k1 + 9) 0 (k0 + 9) 0 6) (k1 + 10) 0 (k0 + 10) 0 60) (k1 + 11) 0 (k0 + 11) 0 6) (k1 + 12) 0 (k0 + 12) 0 6) (k1 + 13) 0 (k0 + 13) 0 6) k1 13)) k0 14 ((zset (zcp (zcp (zcp (zcp (zcp (zcp (zcp (zcp (zcp (zcp (zcp (zcp r1.1 (k1 + 2) 0 (k0 + 2) 0 10) (k1 + 3) 0 (k0 + 3) 0 8) (k1 + 4) 0 (k0 + 4) 0 8) (k1 + 5) 0 (k0 + 5) 0 8) (k1 + 6) 0 (k0 + 6) 0 8) (k1 + 7) 0 (k0 + 7) 0 96) (k1 + 8) 0 (k0 + 8) 0 6) (k1 + 9) 0 (k0 + 9) 0 6) (k1 + 10) 0 (k0 + 10) 0 60) (k1 + 11) 0 (k0 + 11) 0 6) (k1 + 12) 0 (k0 + 12) 0 6) (k1 + 13) 0 (k0 + 13) 0 6) k0 13 ((zcp (zcp (zcp (zcp (zcp (zcp (zcp (zcp (zcp (zcp (zcp (zcp r1.1 (k1 + 2) 0 (k0 + 2) 0 10) (k1 + 3) 0 (k0 + 3) 0 8) (k1 + 4) 0 (k0 + 4) 0 8) (k1 + 5) 0 (k0 + 5) 0 8) (k1 + 6) 0 (k0 + 6) 0 8) (k1 + 7) 0 (k0 + 7) 0 96) (k1 + 8) 0 (k0 + 8) 0 6) (k1 + 9) 0 (k0 + 9) 0 6) (k1 + 10) 0 (k0 + 10) 0 60) (k1 + 11) 0 (k0 + 11) 0 6) (k1 + 12) 0 (k0 + 12) 0 6) (k1 + 13) 0 (k0 + 13) 0 6) k1 13)) k1 14)) k1 15)) k0 16 ((zset (zset (zset (zcp (zcp (zcp (zcp (zcp (zcp (zcp (zcp (zcp (zcp (zcp (zcp r1.1 (k1 + 2) 0 (k0 + 2) 0 10) (k1 + 3) 0 (k0 + 3) 0 8) (k1 + 4) 0 (k0 + 4) 0 8) (k1 + 5) 0 (k0 + 5) 0 8) (k1 + 6) 0 (k0 + 6) 0 8) (k1 + 7) 0 (k0 + 7) 0 96) (k1 + 8) 0 (k0 + 8) 0 6) (k1 + 9) 0 (k0 + 9) 0 6) (k1 + 10) 0 (k0 + 10) 0 60) (k1 + 11) 0 (k0 + 11) 0 6) (k1 + 12) 0 (k0 + 12) 0 6) (k1 + 13) 0 (k0 + 13) 0 6) k0 13 ((zcp (zcp (zcp (zcp (zcp (zcp (zcp (zcp (zcp (zcp (zcp (zcp r1.1 (k1 + 2) 0 (k0 + 2) 0 10) (k1 + 3) 0 (k0 + 3) 0 8) (k1 + 4) 0 (k0 + 4) 0 8) (k1 + 5) 0 (k0 + 5) 0 8) (k1 + 6) 0 (k0 + 6) 0 8) (k1 + 7) 0 (k0 + 7) 0 96) (k1 + 8) 0 (k0 + 8) 0 6) (k1 + 9) 0 (k0 + 9) 0 6) (k1 + 10) 0 (k0 + 10) 0 60) (k1 + 11) 0 (k0 + 11) 0 6) (k1 + 12) 0 (k0 + 12) 0 6) (k1 + 13) 0 (k0 + 13) 0 6) k1 13)) k0 14 ((zset (zcp (zcp (zcp (zcp (zcp (zcp (zcp (zcp (zcp (zcp (zcp (zcp r1.1 (k1 + 2) 0 (k0 + 2) 0 10) (k1 + 3) 0 (k0 + 3) 0 8) (k1 + 4) 0 (k0 + 4) 0 8) (k1 + 5) 0 (k0 + 5) 0 8) (k1 + 6) 0 (k0 + 6) 0 8) (k1 + 7) 0 (k0 + 7) 0 96) (k1 + 8) 0 (k0 + 8) 0 6) (k1 + 9) 0 (k0 + 9) 0 6) (k1 + 10) 0 (k0 + 10) 0 60) (k1 + 11) 0 (k0 + 11) 0 6) (k1 + 12) 0 (k0 + 12) 0 6) (k1 + 13) 0 (k0 + 13) 0 6) k0 13 ((zcp (zcp (zcp (zcp (zcp (zcp (zcp (zcp (zcp (zcp (zcp (zcp r1.1 (k1 + 2) 0 (k0 + 2) 0 10) (k1 + 3) 0 (k0 + 3) 0 8) (k1 + 4) 0 (k0 + 4) 0 8) (k1 + 5) 0 (k0 + 5) 0 8) (k1 + 6) 0 (k0 + 6) 0 8) (k1 + 7) 0 (k0 + 7) 0 96) (k1 + 8) 0 (k0 + 8) 0 6) (k1 + 9) 0 (k0 + 9) 0 6) (k1 + 10) 0 (k0 + 10) 0 60) (k1 + 11) 0 (k0 + 11) 0 6) (k1 + 12) 0 (k0 + 12) 0 6) (k1 + 13) 0 (k0 + 13) 0 6) k1 13)) k1 14)) k0 15 ((zset (zset (zcp (zcp (zcp (zcp (zcp (zcp (zcp (zcp (zcp (zcp (zcp (zcp r1.1 (k1 + 2) 0 (k0 + 2) 0 10) (k1 + 3) 0 (k0 + 3) 0 8) (k1 + 4) 0 (k0 + 4) 0 8) (k1 + 5) 0 (k0 + 5) 0 8) (k1 + 6) 0 (k0 + 6) 0 8) (k1 + 7) 0 (k0 + 7) 0 96) (k1 + 8) 0 (k0 + 8) 0 6) (k1 + 9) 0 (k0 + 9) 0 6) (k1 + 10) 0 (k0 + 10) 0 60) (k1 + 11) 0 (k0 + 11) 0 6) (k1 + 12) 0 (k0 + 12) 0 6) (k1 + 13) 0 (k0 + 13) 0 6) k0 13 ((zcp (zcp (zcp (zcp (zcp (zcp (zcp (zcp (zcp (zcp (zcp (zcp r1.1 (k1 + 2) 0 (k0 + 2) 0 10) (k1 + 3) 0 (k0 + 3) 0 8) (k1 + 4) 0 (k0 + 4) 0 8) (k1 + 5) 0 (k0 + 5) 0 8) (k1 + 6) 0 (k0 + 6) 0 8) (k1 + 7) 0 (k0 + 7) 0 96) (k1 + 8) 0 (k0 + 8) 0 6) (k1 + 9) 0 (k0 + 9) 0 6) (k1 + 10) 0 (k0 + 10) 0 60) (k1 + 11) 0 (k0 + 11) 0 6) (k1 + 12) 0 (k0 + 12) 0 6) (k1 + 13) 0 (k0 + 13) 0 6) k1 13)) k0 14 ((zset (zcp (zcp (zcp (zcp (zcp (zcp (zcp (zcp (zcp (zcp (zcp (zcp r1.1 (k1 + 2) 0 (k0 + 2) 0 10) (k1 + 3) 0 (k0 + 3) 0 8) (k1 + 4) 0 (k0 + 4) 0 8) (k1 + 5) 0 (k0 + 5) 0 8) (k1 + 6) 0 (k0 + 6) 0 8) (k1 + 7) 0 (k0 + 7) 0 96) (k1 + 8) 0 (k0 + 8) 0 6) (k1 + 9) 0 (k0 + 9) 0 6) (k1 + 10) 0 (k0 + 10) 0 60) (k1 + 11) 0 (k0 + 11) 0 6) (k1 + 12) 0 (k0 + 12) 0 6) (k1 + 13) 0 (k0 + 13) 0 6) k0 13 ((zcp (zcp (zcp (zcp (zcp (zcp (zcp (zcp (zcp (zcp (zcp (zcp r1.1 (k1 + 2) 0 (k0 + 2) 0 10) (k1 + 3) 0 (k0 + 3) 0 8) (k1 + 4) 0 (k0 + 4) 0 8) (k1 + 5) 0 (k0 + 5) 0 8) (k1 + 6) 0 (k0 + 6) 0 8) (k1 + 7) 0 (k0 + 7) 0 96) (k1 + 8) 0 (k0 + 8) 0 6) (k1 + 9) 0 (k0 + 9) 0 6) (k1 + 10) 0 (k0 + 10) 0 60) (k1 + 11) 0 (k0 + 11) 0 6) (k1 + 12) 0 (k0 + 12) 0 6) (k1 + 13) 0 (k0 + 13) 0 6) k1 13)) k1 14)) k1 15)) k1 16)) k0 17 ((zset (zset (zset (zset (zcp (zcp (zcp (zcp (zcp (zcp (zcp (zcp (zcp (zcp (zcp (zcp r1.1 (k1 + 2) 0 (k0 + 2) 0 10) (k1 + 3) 0 (k0 + 3) 0 8) (k1 + 4) 0 (k0 + 4) 0 8) (k1 + 5) 0 (k0 + 5) 0 8) (k1 + 6) 0 (k0 + 6) 0 8) (k1 + 7) 0 (k0 + 7) 0 96) (k1 + 8) 0 (k0 + 8) 0 6) (k1 + 9) 0 (k0 + 9) 0 6) (k1 + 10) 0 (k0 + 10) 0 60) (k1 + 11) 0 (k0 + 11) 0 6) (k1 + 12) 0 (k0 + 12) 0 6) (k1 + 13) 0 (k0 + 13) 0 6) k0 13 ((zcp (zcp (zcp (zcp (zcp (zcp (zcp (zcp (zcp (zcp (zcp (zcp r1.1 (k1 + 2) 0 (k0 + 2) 0 10) (k1 + 3) 0 (k0 + 3) 0 8) (k1 + 4) 0 (k0 + 4) 0 8) (k1 + 5) 0 (k0 + 5) 0 8) (k1 + 6) 0 (k0 + 6) 0 8) (k1 + 7) 0 (k0 + 7) 0 96) (k1 + 8) 0 (k0 + 8) 0 6) (k1 + 9) 0 (k0 + 9) 0 6) (k1 + 10) 0 (k0 + 10) 0 60) (k1 + 11) 0 (k0 + 11) 0 6) (k1 + 12) 0 (k0 + 12) 0 6) (k1 + 13) 0 (k0 + 13) 0 6) k1 13)) k0 14 ((zset (zcp (zcp (zcp (zcp (zcp (zcp (zcp (zcp (zcp (zcp (zcp (zcp r1.1 (k1 + 2) 0 (k0 + 2) 0 10) (k1 + 3) 0 (k0 + 3) 0 8) (k1 + 4) 0 (k0 + 4) 0 8) (k1 + 5) 0 (k0 + 5) 0 8) (k1 + 6) 0 (k0 + 6) 0 8) (k1 + 7) 0 (k0 + 7) 0 96) (k1 + 8) 0 (k0 + 8) 0 6) (k1 + 9) 0 (k0 + 9) 0 6) (k1 + 10) 0 (k0 + 10) 0 60) (k1 + 11) 0 (k0 + 11) 0 6) (k1 + 12) 0 (k0 + 12) 0 6) (k1 + 13) 0 (k0 + 13) 0 6) k0 13 ((zcp (zcp (zcp (zcp (zcp (zcp (zcp (zcp (zcp (zcp (zcp (zcp r1.1 (k1 + 2) 0 (k0 + 2) 0 10) (k1 + 3) 0 (k0 + 3) 0 8) (k1 + 4) 0 (k0 + 4) 0 8) (k1 + 5) 0 (k0 + 5) 0 8) (k1 + 6) 0 (k0 + 6) 0 8) (k1 + 7) 0 (k0 + 7) 0 96) (k1 + 8) 0 (k0 + 8) 0 6) (k1 + 9) 0 (k0 + 9) 0 6) (k1 + 10) 0 (k0 + 10) 0 60) (k1 + 11) 0 (k0 + 11) 0 6) (k1 + 12) 0 (k0 + 12) 0 6) (k1 + 13) 0 (k0 + 13) 0 6) k1 13)) k1 14)) k0 15 ((zset (zset (zcp (zcp (zcp (zcp (zcp (zcp (zcp (zcp (zcp (zcp (zcp (zcp r1.1 (k1 + 2) 0 (k0 + 2) 0 10) (k1 + 3) 0 (k0 + 3) 0 8) (k1 + 4) 0 (k0 + 4) 0 8) (k1 + 5) 0 (k0 + 5) 0 8) (k1 + 6) 0 (k0 + 6) 0 8) (k1 + 7) 0 (k0 + 7) 0 96) (k1 + 8) 0 (k0 + 8) 0 6) (k1 + 9) 0 (k0 + 9) 0 6) (k1 + 10) 0 (k0 + 10) 0 60) (k1 + 11) 0 (k0 + 11) 0 6) (k1 + 12) 0 (k0 + 12) 0 6) (k1 + 13) 0 (k0 + 13) 0 6) k0 13 ((zcp (zcp (zcp (zcp (zcp (zcp (zcp (zcp (zcp (zcp (zcp (zcp r1.1 (k1 + 2) 0 (k0 + 2) 0 10) (k1 + 3) 0 (k0 + 3) 0 8) (k1 + 4) 0 (k0 + 4) 0 8) (k1 + 5) 0 (k0 + 5) 0 8) (k1 + 6) 0 (k0 + 6) 0 8) (k1 + 7) 0 (k0 + 7) 0 96) (k1 + 8) 0 (k0 + 8) 0 6) (k1 + 9) 0 (k0 + 9) 0 6) (k1 + 10) 0 (k0 + 10) 0 60) (k1 + 11) 0 (k0 + 11) 0 6) (k1 + 12) 0 (k0 + 12) 0 6) (k1 + 13) 0 (k0 + 13) 0 6) k1 13)) k0 14 ((zset (zcp (zcp (zcp (zcp (zcp (zcp (zcp (zcp (zcp (zcp (zcp (zcp r1.1 (k1 + 2) 0 (k0 + 2) 0 10) (k1 + 3) 0 (k0 + 3) 0 8) (k1 + 4) 0 (k0 + 4) 0 8) (k1 + 5) 0 (k0 + 5) 0 8) (k1 + 6) 0 (k0 + 6) 0 8) (k1 + 7) 0 (k0 + 7) 0 96) (k1 + 8) 0 (k0 + 8) 0 6) (k1 + 9) 0 (k0 + 9) 0 6) (k1 + 10) 0 (k0 + 10) 0 60) (k1 + 11) 0 (k0 + 11) 0 6) (k1 + 12) 0 (k0 + 12) 0 6) (k1 + 13) 0 (k0 + 13) 0 6) k0 13 ((zcp (zcp (zcp (zcp (zcp (zcp (zcp (zcp (zcp (zcp (zcp (zcp r1.1 (k1 + 2) 0 (k0 + 2) 0 10) (k1 + 3) 0 (k0 + 3) 0 8) (k1 + 4) 0 (k0 + 4) 0 8) (k1 + 5) 0 (k0 + 5) 0 8) (k1 + 6) 0 (k0 + 6) 0 8) (k1 + 7) 0 (k0 + 7) 0 96) (k1 + 8) 0 (k0 + 8) 0 6) (k1 + 9) 0 (k0 + 9) 0 6) (k1 + 10) 0 (k0 + 10) 0 60) (k1 + 11) 0 (k0 + 11) 0 6) (k1 + 12) 0 (k0 + 12) 0 6) (k1 + 13) 0 (k0 + 13) 0 6) k1 13)) k1 14)) k1 15)) k0 16 ((zset (zset (zset (zcp (zcp (zcp (zcp (zcp (zcp (zcp (zcp (zcp (zcp (zcp (zcp r1.1 (k1 + 2) 0 (k0 + 2) 0 10) (k1 + 3) 0 (k0 + 3) 0 8) (k1 + 4) 0 (k0 + 4) 0 8) (k1 + 5) 0 (k0 + 5) 0 8) (k1 + 6) 0 (k0 + 6) 0 8) (k1 + 7) 0 (k0 + 7) 0 96) (k1 + 8) 0 (k0 + 8) 0 6) (k1 + 9) 0 (k0 + 9) 0 6) (k1 + 10) 0 (k0 + 10) 0 60) (k1 + 11) 0 (k0 + 11) 0 6) (k1 + 12) 0 (k0 + 12) 0 6) (k1 + 13) 0 (k0 + 13) 0 6) k0 13 ((zcp (zcp (zcp (zcp (zcp (zcp (zcp (zcp (zcp (zcp (zcp (zcp r1.1 (k1 + 2) 0 (k0 + 2) 0 10) (k1 + 3) 0 (k0 + 3) 0 8) (k1 + 4) 0 (k0 + 4) 0 8) (k1 + 5) 0 (k0 + 5) 0 8) (k1 + 6) 0 (k0 + 6) 0 8) (k1 + 7) 0 (k0 + 7) 0 96) (k1 + 8) 0 (k0 + 8) 0 6) (k1 + 9) 0 (k0 + 9) 0 6) (k1 + 10) 0 (k0 + 10) 0 60) (k1 + 11) 0 (k0 + 11) 0 6) (k1 + 12) 0 (k0 + 12) 0 6) (k1 + 13) 0 (k0 + 13) 0 6) k1 13)) k0 14 ((zset (zcp (zcp (zcp (zcp (zcp (zcp (zcp (zcp (zcp (zcp (zcp (zcp r1.1 (k1 + 2) 0 (k0 + 2) 0 10) (k1 + 3) 0 (k0 + 3) 0 8) (k1 + 4) 0 (k0 + 4) 0 8) (k1 + 5) 0 (k0 + 5) 0 8) (k1 + 6) 0 (k0 + 6) 0 8) (k1 + 7) 0 (k0 + 7) 0 96) (k1 + 8) 0 (k0 + 8) 0 6) (k1 + 9) 0 (k0 + 9) 0 6) (k1 + 10) 0 (k0 + 10) 0 60) (k1 + 11) 0 (k0 + 11) 0 6) (k1 + 12) 0 (k0 + 12) 0 6) (k1 + 13) 0 (k0 + 13) 0 6) k0 13 ((zcp (zcp (zcp (zcp (zcp (zcp (zcp (zcp (zcp (zcp (zcp (zcp r1.1 (k1 + 2) 0 (k0 + 2) 0 10) (k1 + 3) 0 (k0 + 3) 0 8) (k1 + 4) 0 (k0 + 4) 0 8) (k1 + 5) 0 (k0 + 5) 0 8) (k1 + 6) 0 (k0 + 6) 0 8) (k1 + 7) 0 (k0 + 7) 0 96) (k1 + 8) 0 (k0 + 8) 0 6) (k1 + 9) 0 (k0 + 9) 0 6) (k1 + 10) 0 (k0 + 10) 0 60) (k1 + 11) 0 (k0 + 11) 0 6) (k1 + 12) 0 (k0 + 12) 0 6) (k1 + 13) 0 (k0 + 13) 0 6) k1 13)) k1 14)) k0 15 ((zset (zset (zcp (zcp (zcp (zcp (zcp (zcp (zcp (zcp (zcp (zcp (zcp (zcp r1.1 (k1 + 2) 0 (k0 + 2) 0 10) (k1 + 3) 0 (k0 + 3) 0 8) (k1 + 4) 0 (k0 + 4) 0 8) (k1 + 5) 0 (k0 + 5) 0 8) (k1 + 6) 0 (k0 + 6) 0 8) (k1 + 7) 0 (k0 + 7) 0 96) (k1 + 8) 0 (k0 + 8) 0 6) (k1 + 9) 0 (k0 + 9) 0 6) (k1 + 10) 0 (k0 + 10) 0 60) (k1 + 11) 0 (k0 + 11) 0 6) (k1 + 12) 0 (k0 + 12) 0 6) (k1 + 13) 0 (k0 + 13) 0 6) k0 13 ((zcp (zcp (zcp (zcp (zcp (zcp (zcp (zcp (zcp (zcp (zcp (zcp r1.1 (k1 + 2) 0 (k0 + 2) 0 10) (k1 + 3) 0 (k0 + 3) 0 8) (k1 + 4) 0 (k0 + 4) 0 8) (k1 + 5) 0 (k0 + 5) 0 8) (k1 + 6) 0 (k0 + 6) 0 8) (k1 + 7) 0 (k0 + 7) 0 96) (k1 + 8) 0 (k0 + 8) 0 6) (k1 + 9) 0 (k0 + 9) 0 6) (k1 + 10) 0 (k0 + 10) 0 60) (k1 + 11) 0 (k0 + 11) 0 6) (k1 + 12) 0 (k0 + 12) 0 6) (k1 + 13) 0 (k0 + 13) 0 6) k1 13)) k0 14 ((zset (zcp (zcp (zcp (zcp (zcp (zcp (zcp (zcp (zcp (zcp (zcp (zcp r1.1 (k1 + 2) 0 (k0 + 2) 0 10) (k1 + 3) 0 (k0 + 3) 0 8) (k1 + 4) 0 (k0 + 4) 0 8) (k1 + 5) 0 (k0 + 5) 0 8) (k1 + 6) 0 (k0 + 6) 0 8) (k1 + 7) 0 (k0 + 7) 0 96) (k1 + 8) 0 (k0 + 8) 0 6) (k1 + 9) 0 (k0 + 9) 0 6) (k1 + 10) 0 (k0 + 10) 0 60) (k1 + 11) 0 (k0 + 11) 0 6) (k1 + 12) 0 (k0 + 12) 0 6) (k1 + 13) 0 (k0 + 13) 0 6) k0 13 ((zcp (zcp (zcp (zcp (zcp (zcp (zcp (zcp (zcp (zcp (zcp (zcp r1.1 (k1 + 2) 0 (k0 + 2) 0 10) (k1 + 3) 0 (k0 + 3) 0 8) (k1 + 4) 0 (k0 + 4) 0 8) (k1 + 5) 0 (k0 + 5) 0 8) (k1 + 6) 0 (k0 + 6) 0 8) (k1 + 7) 0 (k0 + 7) 0 96) (k1 + 8) 0 (k0 + 8) 0 6) (k1 + 9) 0 (k0 + 9) 0 6) (k1 + 10) 0 (k0 + 10) 0 60) (k1 + 11) 0 (k0 + 11) 0 6) (k1 + 12) 0 (k0 + 12) 0 6) (k1 + 13) 0 (k0 + 13) 0 6) k1 13)) k1 14)) k1 15)) k1 16)) k1 17)) k1 18), 0) := (zsem_eq _ _ _ _ _ _).trans rfl
set_option maxRecDepth 100000 in
theorem e_Country_hasTerm (σ : zH) (k0 : Nat) (x1 : Int) : f_Country_hasTerm σ k0 x1 =
  if x1 < 0 then
    some (σ, 0)
  else
    if (σ k0 13) ≤ x1 then
      some (σ, 0)
    else
      some (σ, 1) := (zsem_eq _ _ _ _ _ _).trans rfl
set_option maxRecDepth 100000 in
theorem e_Country_hasReach (σ : zH) (k0 : Nat) (x1 : Int) : f_Country_hasReach σ k0 x1 =
  if x1 < 0 then
    some (σ, 0)
  else
    if (σ k0 14) ≤ x1 then
      some (σ, 0)
    else
      some (σ, 1) := (zsem_eq _ _ _ _ _ _).trans rfl
set_option maxRecDepth 100000 in
theorem e_Country_hasPlace (σ : zH) (k0 : Nat) (x1 : Int) (x2 : Int) : f_Country_hasPlace σ k0 x1 x2 =
  (f_Country_hasReach σ k0 x1).bind fun r1 =>
  if r1.2 = 0 then
    some (r1.1, 0)
  else
    if x2 < 0 then
      some (r1.1, 0)
    else
      if zin x1 8 = true then
        if (r1.1 (k0 + 3) (Int.toNat x1)) ≤ x2 then
          some (r1.1, 0)
        else
          some (r1.1, 1)
      else none := (zsem_eq _ _ _ _ _ _).trans rfl
set_option maxRecDepth 100000 in
theorem e_Country_hasEditor (σ : zH) (k0 : Nat) (x1 : Int) : f_Country_hasEditor σ k0 x1 =
  if x1 < 0 then
    some (σ, 0)
  else
    if (σ k0 15) ≤ x1 then
      some (σ, 0)
    else
      some (σ, 1) := (zsem_eq _ _ _ _ _ _).trans rfl
set_option maxRecDepth 100000 in
theorem e_Country_hasTown (σ : zH) (k0 : Nat) (x1 : Int) : f_Country_hasTown σ k0 x1 =
  if x1 < 0 then
    some (σ, 0)
  else
    if (σ k0 17) ≤ x1 then
      some (σ, 0)
    else
      some (σ, 1) := (zsem_eq _ _ _ _ _ _).trans rfl
set_option maxRecDepth 100000 in
theorem e_Country_addTerm (σ : zH) (k0 : Nat) (x1 : Int) (x3 : Int) : f_Country_addTerm σ k0 x1 x3 =
  (f_Names_add σ (k0 + 32) x1 0 (σ k0 13)).bind fun r1 =>
  if zin (r1.1 k0 13) 10 = true then
    some (zset (zset r1.1 (k0 + 2) (Int.toNat (r1.1 k0 13)) x3) k0 13 (w32 (((zset r1.1 (k0 + 2) (Int.toNat (r1.1 k0 13)) x3) k0 13) + 1)), 0)
  else none := (zsem_eq _ _ _ _ _ _).trans rfl
set_option maxRecDepth 100000 in
theorem e_Country_addReach (σ : zH) (k0 : Nat) (x1 : Int) (x3 : Int) (x4 : Int) : f_Country_addReach σ k0 x1 x3 x4 =
  (f_Names_add σ (k0 + 32) x1 1 (σ k0 14)).bind fun r1 =>
  if zin (r1.1 k0 14) 8 = true then
    if zin ((zset r1.1 (k0 + 3) (Int.toNat (r1.1 k0 14)) x3) k0 14) 8 = true then
      if zin ((zset (zset r1.1 (k0 + 3) (Int.toNat (r1.1 k0 14)) x3) (k0 + 4) (Int.toNat ((zset r1.1 (k0 + 3) (Int.toNat (r1.1 k0 14)) x3) k0 14)) x4) k0 14) 8 = true then
        if zin ((zset (zset (zset r1.1 (k0 + 3) (Int.toNat (r1.1 k0 14)) x3) (k0 + 4) (Int.toNat ((zset r1.1 (k0 + 3) (Int.toNat (r1.1 k0 14)) x3) k0 14)) x4) (k0 + 5) (Int.toNat ((zset (zset r1.1 (k0 + 3) (Int.toNat (r1.1 k0 14)) x3) (k0 + 4) (Int.toNat ((zset r1.1 (k0 + 3) (Int.toNat (r1.1 k0 14)) x3) k0 14)) x4) k0 14)) 0) k0 14) 8 = true then
          (f_Country_hasReach (zset (zset (zset (zset r1.1 (k0 + 3) (Int.toNat (r1.1 k0 14)) x3) (k0 + 4) (Int.toNat ((zset r1.1 (k0 + 3) (Int.toNat (r1.1 k0 14)) x3) k0 14)) x4) (k0 + 5) (Int.toNat ((zset (zset r1.1 (k0 + 3) (Int.toNat (r1.1 k0 14)) x3) (k0 + 4) (Int.toNat ((zset r1.1 (k0 + 3) (Int.toNat (r1.1 k0 14)) x3) k0 14)) x4) k0 14)) 0) (k0 + 6) (Int.toNat ((zset (zset (zset r1.1 (k0 + 3) (Int.toNat (r1.1 k0 14)) x3) (k0 + 4) (Int.toNat ((zset r1.1 (k0 + 3) (Int.toNat (r1.1 k0 14)) x3) k0 14)) x4) (k0 + 5) (Int.toNat ((zset (zset r1.1 (k0 + 3) (Int.toNat (r1.1 k0 14)) x3) (k0 + 4) (Int.toNat ((zset r1.1 (k0 + 3) (Int.toNat (r1.1 k0 14)) x3) k0 14)) x4) k0 14)) 0) k0 14)) 0) k0 x4).bind fun r2 =>
          if r2.2 = 0 then
            some (zset r2.1 k0 14 (w32 ((r2.1 k0 14) + 1)), 0)
          else
            if zin x4 8 = true then
              if zin x4 8 = true then
                some (zset (zset r2.1 (k0 + 5) (Int.toNat x4) (w32 ((r2.1 (k0 + 5) (Int.toNat x4)) + 1))) k0 14 (w32 (((zset r2.1 (k0 + 5) (Int.toNat x4) (w32 ((r2.1 (k0 + 5) (Int.toNat x4)) + 1))) k0 14) + 1)), 0)
              else none
            else none
        else none
      else none
    else none
  else none := (zsem_eq _ _ _ _ _ _).trans rfl
set_option maxRecDepth 100000 in
theorem e_Country_addSaid (σ : zH) (k0 : Nat) (x1 : Int) (x2 : Int) : f_Country_addSaid σ k0 x1 x2 =
  if zin x1 8 = true then
    if zin (w32 ((w32 (x1 * 12)) + (σ (k0 + 6) (Int.toNat x1)))) 96 = true then
      if zin x1 8 = true then
        if zin x1 8 = true then
          some (zset (zset σ (k0 + 7) (Int.toNat (w32 ((w32 (x1 * 12)) + (σ (k0 + 6) (Int.toNat x1))))) x2) (k0 + 6) (Int.toNat x1) (w32 (((zset σ (k0 + 7) (Int.toNat (w32 ((w32 (x1 * 12)) + (σ (k0 + 6) (Int.toNat x1))))) x2) (k0 + 6) (Int.toNat x1)) + 1)), 0)
        else none
      else none
    else none
  else none := (zsem_eq _ _ _ _ _ _).trans rfl
set_option maxRecDepth 100000 in
theorem e_Country_addEditor (σ : zH) (k0 : Nat) (x1 : Int) (x3 : Int) (x4 : Int) : f_Country_addEditor σ k0 x1 x3 x4 =
  (f_Names_add σ (k0 + 32) x1 2 (σ k0 15)).bind fun r1 =>
  if zin (r1.1 k0 15) 6 = true then
    if zin ((zset r1.1 (k0 + 8) (Int.toNat (r1.1 k0 15)) x3) k0 15) 6 = true then
      f_Country_addEditor_37 (zset (zset r1.1 (k0 + 8) (Int.toNat (r1.1 k0 15)) x3) (k0 + 9) (Int.toNat ((zset r1.1 (k0 + 8) (Int.toNat (r1.1 k0 15)) x3) k0 15)) x4) k0 0
    else none
  else none := (zsem_eq _ _ _ _ _ _).trans rfl
set_option maxRecDepth 100000 in
theorem e_Country_addEditor_37 (σ : zH) (k0 : Nat) (x5 : Int) : f_Country_addEditor_37 σ k0 x5 =
  if 10 ≤ x5 then
    some (zset σ k0 15 (w32 ((σ k0 15) + 1)), 0)
  else
    if zin (w32 ((w32 ((σ k0 15) * 10)) + x5)) 60 = true then
      f_Country_addEditor_37 (zset σ (k0 + 10) (Int.toNat (w32 ((w32 ((σ k0 15) * 10)) + x5))) x5) k0 (w32 (x5 + 1))
    else none := (zsem_eq _ _ _ _ _ _).trans rfl
set_option maxRecDepth 100000 in
theorem e_Country_addChange (σ : zH) (k0 : Nat) (x1 : Int) (x2 : Int) (x3 : Int) : f_Country_addChange σ k0 x1 x2 x3 =
  if zin (w32 ((w32 (x1 * 10)) + x2)) 60 = true then
    some (zset (zset σ (k0 + 10) (Int.toNat (w32 ((w32 (x1 * 10)) + x2))) x3) k0 16 (w32 (((zset σ (k0 + 10) (Int.toNat (w32 ((w32 (x1 * 10)) + x2))) x3) k0 16) + 1)), 0)
  else none := (zsem_eq _ _ _ _ _ _).trans rfl
set_option maxRecDepth 100000 in
theorem e_Country_addTown (σ : zH) (k0 : Nat) (x1 : Int) (x3 : Int) (x4 : Int) : f_Country_addTown σ k0 x1 x3 x4 =
  (f_Names_add σ (k0 + 32) x1 3 (σ k0 17)).bind fun r1 =>
  if zin (r1.1 k0 17) 6 = true then
    if zin ((zset r1.1 (k0 + 11) (Int.toNat (r1.1 k0 17)) x3) k0 17) 6 = true then
      if zin ((zset (zset r1.1 (k0 + 11) (Int.toNat (r1.1 k0 17)) x3) (k0 + 12) (Int.toNat ((zset r1.1 (k0 + 11) (Int.toNat (r1.1 k0 17)) x3) k0 17)) x4) k0 17) 6 = true then
        some (zset (zset (zset (zset r1.1 (k0 + 11) (Int.toNat (r1.1 k0 17)) x3) (k0 + 12) (Int.toNat ((zset r1.1 (k0 + 11) (Int.toNat (r1.1 k0 17)) x3) k0 17)) x4) (k0 + 13) (Int.toNat ((zset (zset r1.1 (k0 + 11) (Int.toNat (r1.1 k0 17)) x3) (k0 + 12) (Int.toNat ((zset r1.1 (k0 + 11) (Int.toNat (r1.1 k0 17)) x3) k0 17)) x4) k0 17)) 0) k0 17 (w32 (((zset (zset (zset r1.1 (k0 + 11) (Int.toNat (r1.1 k0 17)) x3) (k0 + 12) (Int.toNat ((zset r1.1 (k0 + 11) (Int.toNat (r1.1 k0 17)) x3) k0 17)) x4) (k0 + 13) (Int.toNat ((zset (zset r1.1 (k0 + 11) (Int.toNat (r1.1 k0 17)) x3) (k0 + 12) (Int.toNat ((zset r1.1 (k0 + 11) (Int.toNat (r1.1 k0 17)) x3) k0 17)) x4) k0 17)) 0) k0 17) + 1)), 0)
      else none
    else none
  else none := (zsem_eq _ _ _ _ _ _).trans rfl
set_option maxRecDepth 100000 in
theorem e_Country_addTaste (σ : zH) (k0 : Nat) (x1 : Int) (x2 : Int) : f_Country_addTaste σ k0 x1 x2 =
  if zin x1 6 = true then
    if zin x1 6 = true then
      some (zset (zset σ (k0 + 13) (Int.toNat x1) (zor (σ (k0 + 13) (Int.toNat x1)) (zshl 1 x2))) k0 18 (w32 (((zset σ (k0 + 13) (Int.toNat x1) (zor (σ (k0 + 13) (Int.toNat x1)) (zshl 1 x2))) k0 18) + 1)), 0)
    else none
  else none := (zsem_eq _ _ _ _ _ _).trans rfl
set_option maxRecDepth 100000 in
theorem e_Country_madeBy (σ : zH) (k0 : Nat) (x1 : Int) (x2 : Int) : f_Country_madeBy σ k0 x1 x2 =
  if zin (w32 ((w32 (x1 * 10)) + x2)) 60 = true then
    some (σ, σ (k0 + 10) (Int.toNat (w32 ((w32 (x1 * 10)) + x2))))
  else none := (zsem_eq _ _ _ _ _ _).trans rfl
set_option maxRecDepth 100000 in
theorem e_Country_likes (σ : zH) (k0 : Nat) (x1 : Int) (x2 : Int) : f_Country_likes σ k0 x1 x2 =
  if zin x1 6 = true then
    if ¬ (zand (zushr (σ (k0 + 13) (Int.toNat x1)) x2) 1) = 1 then
      some (σ, 0)
    else
      some (σ, 1)
  else none := (zsem_eq _ _ _ _ _ _).trans rfl
set_option maxRecDepth 100000 in
theorem e_Country_saidOn (σ : zH) (k0 : Nat) (x1 : Int) (x2 : Int) : f_Country_saidOn σ k0 x1 x2 =
  if zin x1 8 = true then
    if (σ (k0 + 6) (Int.toNat x1)) ≤ 0 then
      some (σ, (-1))
    else
      if znz (σ (k0 + 6) (Int.toNat x1)) = true then
        if zin (w32 ((w32 (x1 * 12)) + (Int.tmod x2 (σ (k0 + 6) (Int.toNat x1))))) 96 = true then
          some (σ, σ (k0 + 7) (Int.toNat (w32 ((w32 (x1 * 12)) + (Int.tmod x2 (σ (k0 + 6) (Int.toNat x1)))))))
        else none
      else none
  else none := (zsem_eq _ _ _ _ _ _).trans rfl
set_option maxRecDepth 100000 in
theorem e_Country_editorOn (σ : zH) (k0 : Nat) (x1 : Int) (x2 : Int) : f_Country_editorOn σ k0 x1 x2 =
  f_Country_editorOn_2 σ k0 x1 x2 0 := (zsem_eq _ _ _ _ _ _).trans rfl
set_option maxRecDepth 100000 in
theorem e_Country_editorOn_2 (σ : zH) (k0 : Nat) (x1 : Int) (x2 : Int) (x3 : Int) : f_Country_editorOn_2 σ k0 x1 x2 x3 =
  if (σ k0 15) ≤ x3 then
    some (σ, (-1))
  else
    if zin x3 6 = true then
      if ¬ (σ (k0 + 8) (Int.toNat x3)) = x1 then
        f_Country_editorOn_2 σ k0 x1 x2 (w32 (x3 + 1))
      else
        if zin x3 6 = true then
          if ¬ (σ (k0 + 9) (Int.toNat x3)) = x2 then
            f_Country_editorOn_2 σ k0 x1 x2 (w32 (x3 + 1))
          else
            some (σ, x3)
        else none
    else none := (zsem_eq _ _ _ _ _ _).trans rfl
set_option maxRecDepth 100000 in
theorem e_Country_ownTown (σ : zH) (k0 : Nat) (x1 : Int) : f_Country_ownTown σ k0 x1 =
  f_Country_ownTown_4 σ k0 x1 (-1) 0 := (zsem_eq _ _ _ _ _ _).trans rfl
set_option maxRecDepth 100000 in
theorem e_Country_ownTown_4 (σ : zH) (k0 : Nat) (x1 : Int) (x2 : Int) (x3 : Int) : f_Country_ownTown_4 σ k0 x1 x2 x3 =
  if (σ k0 17) ≤ x3 then
    some (σ, x2)
  else
    if zin x3 6 = true then
      if zin x1 6 = true then
        if ¬ (σ (k0 + 11) (Int.toNat x3)) = (σ (k0 + 8) (Int.toNat x1)) then
          f_Country_ownTown_47 σ k0 x1 x2 x3 0
        else
          if zin x3 6 = true then
            if zin x1 6 = true then
              if (σ (k0 + 12) (Int.toNat x3)) < (σ (k0 + 9) (Int.toNat x1)) then
                f_Country_ownTown_47 σ k0 x1 x2 x3 0
              else
                f_Country_ownTown_47 σ k0 x1 x2 x3 1
            else none
          else none
      else none
    else none := (zsem_eq _ _ _ _ _ _).trans rfl
set_option maxRecDepth 100000 in
theorem e_Country_ownTown_47 (σ : zH) (k0 : Nat) (x1 : Int) (x2 : Int) (x3 : Int) (s0 : Int) : f_Country_ownTown_47 σ k0 x1 x2 x3 s0 =
  if s0 = 0 then
    f_Country_ownTown_4 σ k0 x1 x2 (w32 (x3 + 1))
  else
    if x2 = (-1) then
      f_Country_ownTown_4 σ k0 x1 x3 (w32 (x3 + 1))
    else
      if zin x3 6 = true then
        if zin x2 6 = true then
          if (σ (k0 + 12) (Int.toNat x2)) ≤ (σ (k0 + 12) (Int.toNat x3)) then
            f_Country_ownTown_4 σ k0 x1 x2 (w32 (x3 + 1))
          else
            f_Country_ownTown_4 σ k0 x1 x3 (w32 (x3 + 1))
        else none
      else none := (zsem_eq _ _ _ _ _ _).trans rfl
set_option maxRecDepth 100000 in
theorem e_Country_daysBetween (σ : zH) (k0 : Nat) (x1 : Int) (x2 : Int) (x3 : Int) : f_Country_daysBetween σ k0 x1 x2 x3 =
  f_Country_daysBetween_10 σ k0 x3 (w32 (- x2)) x1 0 := (zsem_eq _ _ _ _ _ _).trans rfl
set_option maxRecDepth 100000 in
theorem e_Country_daysBetween_10 (σ : zH) (k0 : Nat) (x3 : Int) (x4 : Int) (x5 : Int) (x6 : Int) : f_Country_daysBetween_10 σ k0 x3 x4 x5 x6 =
  if 8 ≤ x6 then
    some (σ, (-1))
  else
    if x5 = (-1) then
      some (σ, (-1))
    else
      if zin x3 6 = true then
        if ¬ x5 = (σ (k0 + 11) (Int.toNat x3)) then
          if zin x5 8 = true then
            if zin x5 8 = true then
              f_Country_daysBetween_10 σ k0 x3 (w32 (x4 + (σ (k0 + 3) (Int.toNat x5)))) (σ (k0 + 4) (Int.toNat x5)) (w32 (x6 + 1))
            else none
          else none
        else
          if zin x3 6 = true then
            if 0 ≤ (w32 (x4 + (σ (k0 + 12) (Int.toNat x3)))) then
              some (σ, w32 (x4 + (σ (k0 + 12) (Int.toNat x3))))
            else
              some (σ, (-1))
          else none
      else none := (zsem_eq _ _ _ _ _ _).trans rfl
set_option maxRecDepth 100000 in
theorem e_Country_reachesAbove (σ : zH) (k0 : Nat) (x1 : Int) : f_Country_reachesAbove σ k0 x1 =
  if zin x1 6 = true then
    f_Country_reachesAbove_11 σ k0 (zshl 1 (σ (k0 + 11) (Int.toNat x1))) 0
  else none := (zsem_eq _ _ _ _ _ _).trans rfl
set_option maxRecDepth 100000 in
theorem e_Country_reachesAbove_11 (σ : zH) (k0 : Nat) (x2 : Int) (x3 : Int) : f_Country_reachesAbove_11 σ k0 x2 x3 =
  if (σ k0 14) ≤ x3 then
    some (σ, x2)
  else
    if zin x3 8 = true then
      if (σ (k0 + 4) (Int.toNat x3)) = (-1) then
        f_Country_reachesAbove_11 σ k0 x2 (w32 (x3 + 1))
      else
        if zin x3 8 = true then
          if ¬ (zand (zushr x2 (σ (k0 + 4) (Int.toNat x3))) 1) = 1 then
            f_Country_reachesAbove_11 σ k0 x2 (w32 (x3 + 1))
          else
            f_Country_reachesAbove_11 σ k0 (zor x2 (zshl 1 x3)) (w32 (x3 + 1))
        else none
    else none := (zsem_eq _ _ _ _ _ _).trans rfl
set_option maxRecDepth 100000 in
theorem e_Country_oneSource (σ : zH) (k0 : Nat) (x1 : Int) : f_Country_oneSource σ k0 x1 =
  (f_Country_reachesAbove σ k0 x1).bind fun r1 =>
  f_Country_oneSource_11 r1.1 k0 r1.2 (-1) 0 := (zsem_eq _ _ _ _ _ _).trans rfl
set_option maxRecDepth 100000 in
theorem e_Country_oneSource_11 (σ : zH) (k0 : Nat) (x2 : Int) (x3 : Int) (x4 : Int) : f_Country_oneSource_11 σ k0 x2 x3 x4 =
  if (σ k0 14) ≤ x4 then
    some (σ, x3)
  else
    if ¬ (zand (zushr x2 x4) 1) = 1 then
      f_Country_oneSource_11 σ k0 x2 x3 (w32 (x4 + 1))
    else
      if zin x4 8 = true then
        if (σ (k0 + 5) (Int.toNat x4)) ≤ 1 then
          if zin x4 8 = true then
            if (σ (k0 + 6) (Int.toNat x4)) ≤ 0 then
              f_Country_oneSource_11 σ k0 x2 x3 (w32 (x4 + 1))
            else
              f_Country_oneSource_11 σ k0 x2 x4 (w32 (x4 + 1))
          else none
        else
          some (σ, (-1))
      else none := (zsem_eq _ _ _ _ _ _).trans rfl
set_option maxRecDepth 100000 in
theorem e_Country_arrival (σ : zH) (k0 : Nat) (x1 : Int) (x2 : Int) (x3 : Int) : f_Country_arrival σ k0 x1 x2 x3 =
  (f_Country_oneSource σ k0 x1).bind fun r1 =>
  f_Country_arrival_13 r1.1 k0 x1 x3 r1.2 x2 0 := (zsem_eq _ _ _ _ _ _).trans rfl
set_option maxRecDepth 100000 in
theorem e_Country_arrival_13 (σ : zH) (k0 : Nat) (x1 : Int) (x3 : Int) (x4 : Int) (x5 : Int) (x6 : Int) : f_Country_arrival_13 σ k0 x1 x3 x4 x5 x6 =
  if 8 ≤ x6 then
    some (σ, (-1))
  else
    if x4 = (-1) then
      some (σ, (-1))
    else
      if zin x1 6 = true then
        if ¬ x4 = (σ (k0 + 11) (Int.toNat x1)) then
          if zin x4 8 = true then
            (f_Country_afterEditors σ k0 x4 (w32 ((σ (k0 + 3) (Int.toNat x4)) - 1)) x5 x3).bind fun r1 =>
            if zin x4 8 = true then
              f_Country_arrival_13 r1.1 k0 x1 x3 (r1.1 (k0 + 4) (Int.toNat x4)) r1.2 (w32 (x6 + 1))
            else none
          else none
        else
          if zin x1 6 = true then
            (f_Country_afterEditors σ k0 x4 (σ (k0 + 12) (Int.toNat x1)) x5 x3).bind fun r2 =>
            some (r2.1, r2.2)
          else none
      else none := (zsem_eq _ _ _ _ _ _).trans rfl
set_option maxRecDepth 100000 in
theorem e_Country_afterEditors (σ : zH) (k0 : Nat) (x1 : Int) (x2 : Int) (x3 : Int) (x4 : Int) : f_Country_afterEditors σ k0 x1 x2 x3 x4 =
  f_Country_afterEditors_6 σ k0 x1 x2 x4 x3 0 := (zsem_eq _ _ _ _ _ _).trans rfl
set_option maxRecDepth 100000 in
theorem e_Country_afterEditors_6 (σ : zH) (k0 : Nat) (x1 : Int) (x2 : Int) (x4 : Int) (x5 : Int) (x6 : Int) : f_Country_afterEditors_6 σ k0 x1 x2 x4 x5 x6 =
  if x2 < x6 then
    some (σ, x5)
  else
    if x5 = (-1) then
      some (σ, x5)
    else
      (f_Country_editorOn σ k0 x1 x6).bind fun r1 =>
      if r1.2 = (-1) then
        f_Country_afterEditors_6 r1.1 k0 x1 x2 x4 x5 (w32 (x6 + 1))
      else
        if ¬ (zand (zushr x4 r1.2) 1) = 1 then
          f_Country_afterEditors_6 r1.1 k0 x1 x2 x4 x5 (w32 (x6 + 1))
        else
          (f_Country_madeBy r1.1 k0 r1.2 x5).bind fun r2 =>
          f_Country_afterEditors_6 r2.1 k0 x1 x2 x4 r2.2 (w32 (x6 + 1)) := (zsem_eq _ _ _ _ _ _).trans rfl
set_option maxRecDepth 100000 in
theorem e_CountryReader_readInto (σ : zH) (k1 : Nat) : f_CountryReader_readInto σ k1 =
  if zio 1 ((zset σ 32 1 (Int.ofNat k1)) 32 1) = true then
    (f_Country_clear (zset σ 32 1 (Int.ofNat k1)) (Int.toNat ((zset σ 32 1 (Int.ofNat k1)) 32 1))).bind fun r1 =>
    f_CountryReader_readInto_19 (zset r1.1 32 2 0) 0
  else none := (zsem_eq _ _ _ _ _ _).trans rfl
set_option maxRecDepth 100000 in
theorem e_CountryReader_readInto_19 (σ : zH) (x2 : Int) : f_CountryReader_readInto_19 σ x2 =
  if 900 ≤ x2 then
    (f_Tape_fail σ 1).bind fun r1 =>
    some (r1.1, r1.2)
  else
    if ¬ (σ 64 4) = 0 then
      (f_CountryReader_readLine σ).bind fun r2 =>
      if r2.2 = 0 then
        some (r2.1, 0)
      else
        (f_Tape_passes r2.1 59).bind fun r3 =>
        if ¬ r3.2 = 0 then
          f_CountryReader_readInto_19 (zset r3.1 32 2 (w32 ((r3.1 32 2) + 1))) (w32 (x2 + 1))
        else
          some (r3.1, 0)
    else
      some (σ, 1) := (zsem_eq _ _ _ _ _ _).trans rfl
set_option maxRecDepth 100000 in
theorem e_CountryReader_readLine (σ : zH)  : f_CountryReader_readLine σ  =
  if (σ 64 6) = 0 then
    (f_CountryReader_readTerm σ (σ 64 6)).bind fun r1 =>
    some (r1.1, r1.2)
  else
  if (σ 64 6) = 1 then
    (f_CountryReader_readTerm σ (σ 64 6)).bind fun r2 =>
    some (r2.1, r2.2)
  else
  if (σ 64 6) = 2 then
    (f_CountryReader_readTerm σ (σ 64 6)).bind fun r3 =>
    some (r3.1, r3.2)
  else
  if (σ 64 6) = 3 then
    (f_CountryReader_readTerm σ (σ 64 6)).bind fun r4 =>
    some (r4.1, r4.2)
  else
  if (σ 64 6) = 4 then
    (f_CountryReader_readReach σ).bind fun r5 =>
    some (r5.1, r5.2)
  else
  if (σ 64 6) = 5 then
    (f_Tape_fail σ 1).bind fun r6 =>
    some (r6.1, r6.2)
  else
  if (σ 64 6) = 6 then
    (f_CountryReader_readSays σ).bind fun r7 =>
    some (r7.1, r7.2)
  else
  if (σ 64 6) = 7 then
    (f_CountryReader_readEditor σ).bind fun r8 =>
    some (r8.1, r8.2)
  else
  if (σ 64 6) = 8 then
    (f_CountryReader_readChange σ 0).bind fun r9 =>
    some (r9.1, r9.2)
  else
  if (σ 64 6) = 9 then
    (f_CountryReader_readChange σ 1).bind fun r10 =>
    some (r10.1, r10.2)
  else
  if (σ 64 6) = 10 then
    (f_CountryReader_readTown σ).bind fun r11 =>
    some (r11.1, r11.2)
  else
  if (σ 64 6) = 11 then
    (f_CountryReader_readTaste σ).bind fun r12 =>
    some (r12.1, r12.2)
  else
  (f_Tape_fail σ 1).bind fun r13 =>
  some (r13.1, r13.2) := (zsem_eq _ _ _ _ _ _).trans rfl
set_option maxRecDepth 100000 in
theorem e_CountryReader_begins (σ : zH) (x1 : Int) (x2 : Int) : f_CountryReader_begins σ x1 x2 =
  if x1 < x2 then
    (f_Tape_advance σ).bind fun r1 =>
    some (r1.1, 1)
  else
    (f_Tape_fail σ 4).bind fun r2 =>
    some (r2.1, r2.2) := (zsem_eq _ _ _ _ _ _).trans rfl
set_option maxRecDepth 100000 in
theorem e_CountryReader_readNewName (σ : zH)  : f_CountryReader_readNewName σ  =
  if zio 1 (σ 32 1) = true then
    (f_Tape_isNewName σ ((Int.toNat (σ 32 1)) + 32)).bind fun r1 =>
    if ¬ r1.2 = 0 then
      (f_Tape_advance (zset r1.1 32 3 (r1.1 64 8))).bind fun r2 =>
      some (r2.1, 1)
    else
      some (r1.1, 0)
  else none := (zsem_eq _ _ _ _ _ _).trans rfl
set_option maxRecDepth 100000 in
theorem e_CountryReader_readNewNameOnReach (σ : zH)  : f_CountryReader_readNewNameOnReach σ  =
  (f_CountryReader_readNewName σ).bind fun r1 =>
  if ¬ r1.2 = 0 then
    if zio 1 (r1.1 32 1) = true then
      (f_Tape_toldName r1.1 ((Int.toNat (r1.1 32 1)) + 32) 1).bind fun r2 =>
      if ¬ ((zset r2.1 32 4 r2.2) 32 4) = (-1) then
        (f_Tape_advance (zset r2.1 32 4 r2.2)).bind fun r3 =>
        if zio 1 (r3.1 32 1) = true then
          if zin (r3.1 32 4) 8 = true then
            (f_Tape_isNumber r3.1 0 (w32 ((r3.1 ((Int.toNat (r3.1 32 1)) + 3) (Int.toNat (r3.1 32 4))) - 1))).bind fun r4 =>
            some (r4.1, r4.2)
          else none
        else none
      else
        some (zset r2.1 32 4 r2.2, 0)
    else none
  else
    some (r1.1, 0) := (zsem_eq _ _ _ _ _ _).trans rfl
set_option maxRecDepth 100000 in
theorem e_CountryReader_readTerm (σ : zH) (x1 : Int) : f_CountryReader_readTerm σ x1 =
  if zio 1 (σ 32 1) = true then
    (f_CountryReader_begins σ (σ (Int.toNat (σ 32 1)) 13) 10).bind fun r1 =>
    if r1.2 = 0 then
      some (r1.1, 0)
    else
      (f_CountryReader_readNewName r1.1).bind fun r2 =>
      if ¬ r2.2 = 0 then
        if zio 1 (r2.1 32 1) = true then
          (f_Country_addTerm r2.1 (Int.toNat (r2.1 32 1)) (r2.1 32 3) x1).bind fun r3 =>
          some (r3.1, 1)
        else none
      else
        some (r2.1, 0)
  else none := (zsem_eq _ _ _ _ _ _).trans rfl
set_option maxRecDepth 100000 in
theorem e_CountryReader_readReach (σ : zH)  : f_CountryReader_readReach σ  =
  if zio 1 (σ 32 1) = true then
    (f_CountryReader_begins σ (σ (Int.toNat (σ 32 1)) 14) 8).bind fun r1 =>
    if r1.2 = 0 then
      some (r1.1, 0)
    else
      (f_CountryReader_readNewName r1.1).bind fun r2 =>
      if r2.2 = 0 then
        some (r2.1, 0)
      else
        (f_Tape_isNumber r2.1 1 9).bind fun r3 =>
        if ¬ r3.2 = 0 then
          (f_Tape_advance r3.1).bind fun r4 =>
          if ¬ (r4.1 64 6) = 5 then
            if zio 1 (r4.1 32 1) = true then
              (f_Country_addReach r4.1 (Int.toNat (r4.1 32 1)) (r4.1 32 3) (r3.1 64 7) (-1)).bind fun r5 =>
              some (r5.1, 1)
            else none
          else
            (f_Tape_advance r4.1).bind fun r6 =>
            if zio 1 (r6.1 32 1) = true then
              (f_Tape_toldName r6.1 ((Int.toNat (r6.1 32 1)) + 32) 1).bind fun r7 =>
              if ¬ r7.2 = (-1) then
                if zio 1 (r7.1 32 1) = true then
                  if zin r7.2 8 = true then
                    if (r7.1 ((Int.toNat (r7.1 32 1)) + 6) (Int.toNat r7.2)) ≤ 0 then
                      (f_Tape_advance r7.1).bind fun r8 =>
                      if zio 1 (r8.1 32 1) = true then
                        (f_Country_addReach r8.1 (Int.toNat (r8.1 32 1)) (r8.1 32 3) (r3.1 64 7) r7.2).bind fun r9 =>
                        some (r9.1, 1)
                      else none
                    else
                      (f_Tape_fail r7.1 3).bind fun r10 =>
                      some (r10.1, r10.2)
                  else none
                else none
              else
                some (r7.1, 0)
            else none
        else
          some (r3.1, 0)
  else none := (zsem_eq _ _ _ _ _ _).trans rfl
set_option maxRecDepth 100000 in
theorem e_CountryReader_readSays (σ : zH)  : f_CountryReader_readSays σ  =
  (f_Tape_advance σ).bind fun r1 =>
  if zio 1 (r1.1 32 1) = true then
    (f_Tape_toldName r1.1 ((Int.toNat (r1.1 32 1)) + 32) 1).bind fun r2 =>
    if ¬ r2.2 = (-1) then
      if zio 1 (r2.1 32 1) = true then
        if zin r2.2 8 = true then
          if 0 < (r2.1 ((Int.toNat (r2.1 32 1)) + 6) (Int.toNat r2.2)) then
            (f_Tape_fail r2.1 3).bind fun r3 =>
            some (r3.1, r3.2)
          else
            if zio 1 (r2.1 32 1) = true then
              if zin r2.2 8 = true then
                if (r2.1 ((Int.toNat (r2.1 32 1)) + 5) (Int.toNat r2.2)) ≤ 0 then
                  (f_Tape_advance r2.1).bind fun r4 =>
                  f_CountryReader_readSays_72 r4.1 r2.2 0
                else
                  (f_Tape_fail r2.1 3).bind fun r5 =>
                  some (r5.1, r5.2)
              else none
            else none
        else none
      else none
    else
      some (r2.1, 0)
  else none := (zsem_eq _ _ _ _ _ _).trans rfl
set_option maxRecDepth 100000 in
theorem e_CountryReader_readSays_72 (σ : zH) (x1 : Int) (x2 : Int) : f_CountryReader_readSays_72 σ x1 x2 =
  if 12 < x2 then
    (f_Tape_fail σ 4).bind fun r1 =>
    some (r1.1, r1.2)
  else
    if x2 ≤ 0 then
      f_CountryReader_readSays_96 σ x1 x2
    else
      if ¬ (σ 64 4) = 59 then
        f_CountryReader_readSays_96 σ x1 x2
      else
        some (σ, 1) := (zsem_eq _ _ _ _ _ _).trans rfl
set_option maxRecDepth 100000 in
theorem e_CountryReader_readSays_96 (σ : zH) (x1 : Int) (x2 : Int) : f_CountryReader_readSays_96 σ x1 x2 =
  if zio 1 (σ 32 1) = true then
    (f_Tape_toldName σ ((Int.toNat (σ 32 1)) + 32) 0).bind fun r1 =>
    if ¬ r1.2 = (-1) then
      if 12 ≤ x2 then
        f_CountryReader_readSays_72 r1.1 x1 (w32 (x2 + 1))
      else
        if zio 1 (r1.1 32 1) = true then
          (f_Country_addSaid r1.1 (Int.toNat (r1.1 32 1)) x1 r1.2).bind fun r2 =>
          (f_Tape_advance r2.1).bind fun r3 =>
          f_CountryReader_readSays_72 r3.1 x1 (w32 (x2 + 1))
        else none
    else
      some (r1.1, 0)
  else none := (zsem_eq _ _ _ _ _ _).trans rfl
set_option maxRecDepth 100000 in
theorem e_CountryReader_readEditor (σ : zH)  : f_CountryReader_readEditor σ  =
  if zio 1 (σ 32 1) = true then
    (f_CountryReader_begins σ (σ (Int.toNat (σ 32 1)) 15) 6).bind fun r1 =>
    if r1.2 = 0 then
      some (r1.1, 0)
    else
      (f_CountryReader_readNewNameOnReach r1.1).bind fun r2 =>
      if ¬ r2.2 = 0 then
        if zio 1 (r2.1 32 1) = true then
          (f_Country_editorOn r2.1 (Int.toNat (r2.1 32 1)) (r2.1 32 4) (r2.1 64 7)).bind fun r3 =>
          if r3.2 = (-1) then
            if zio 1 (r3.1 32 1) = true then
              (f_Country_addEditor r3.1 (Int.toNat (r3.1 32 1)) (r3.1 32 3) (r3.1 32 4) (r3.1 64 7)).bind fun r4 =>
              (f_Tape_advance r4.1).bind fun r5 =>
              some (r5.1, 1)
            else none
          else
            (f_Tape_fail r3.1 3).bind fun r6 =>
            some (r6.1, r6.2)
        else none
      else
        some (r2.1, 0)
  else none := (zsem_eq _ _ _ _ _ _).trans rfl
set_option maxRecDepth 100000 in
theorem e_CountryReader_readWhoAndTerm (σ : zH) (x1 : Int) : f_CountryReader_readWhoAndTerm σ x1 =
  if zio 1 (σ 32 1) = true then
    (f_Tape_toldName σ ((Int.toNat (σ 32 1)) + 32) x1).bind fun r1 =>
    if ¬ ((zset r1.1 32 5 r1.2) 32 5) = (-1) then
      (f_Tape_advance (zset r1.1 32 5 r1.2)).bind fun r2 =>
      if zio 1 (r2.1 32 1) = true then
        (f_Tape_toldName r2.1 ((Int.toNat (r2.1 32 1)) + 32) 0).bind fun r3 =>
        if ((zset r3.1 32 6 r3.2) 32 6) = (-1) then
          some (zset r3.1 32 6 r3.2, 0)
        else
          some (zset r3.1 32 6 r3.2, 1)
      else none
    else
      some (zset r1.1 32 5 r1.2, 0)
  else none := (zsem_eq _ _ _ _ _ _).trans rfl
set_option maxRecDepth 100000 in
theorem e_CountryReader_readChange (σ : zH) (x1 : Int) : f_CountryReader_readChange σ x1 =
  if zio 1 (σ 32 1) = true then
    (f_CountryReader_begins σ (σ (Int.toNat (σ 32 1)) 16) 20).bind fun r1 =>
    if r1.2 = 0 then
      some (r1.1, 0)
    else
      (f_CountryReader_readWhoAndTerm r1.1 2).bind fun r2 =>
      if ¬ r2.2 = 0 then
        if zio 1 (r2.1 32 1) = true then
          (f_Country_madeBy r2.1 (Int.toNat (r2.1 32 1)) (r2.1 32 5) (r2.1 32 6)).bind fun r3 =>
          if r3.2 = (r3.1 32 6) then
            (f_Tape_advance r3.1).bind fun r4 =>
            if x1 = 0 then
              if zio 1 (r4.1 32 1) = true then
                (f_Country_addChange r4.1 (Int.toNat (r4.1 32 1)) (r4.1 32 5) (r4.1 32 6) (-1)).bind fun r5 =>
                some (r5.1, 1)
              else none
            else
              if zio 1 (r4.1 32 1) = true then
                (f_Tape_toldName r4.1 ((Int.toNat (r4.1 32 1)) + 32) 0).bind fun r6 =>
                if ¬ r6.2 = (-1) then
                  if ¬ r6.2 = (r6.1 32 6) then
                    (f_Tape_advance r6.1).bind fun r7 =>
                    if zio 1 (r7.1 32 1) = true then
                      (f_Country_addChange r7.1 (Int.toNat (r7.1 32 1)) (r7.1 32 5) (r7.1 32 6) r6.2).bind fun r8 =>
                      some (r8.1, 1)
                    else none
                  else
                    (f_Tape_fail r6.1 3).bind fun r9 =>
                    some (r9.1, r9.2)
                else
                  some (r6.1, 0)
              else none
          else
            (f_Tape_fail r3.1 3).bind fun r10 =>
            some (r10.1, r10.2)
        else none
      else
        some (r2.1, 0)
  else none := (zsem_eq _ _ _ _ _ _).trans rfl
set_option maxRecDepth 100000 in
theorem e_CountryReader_readTown (σ : zH)  : f_CountryReader_readTown σ  =
  if zio 1 (σ 32 1) = true then
    (f_CountryReader_begins σ (σ (Int.toNat (σ 32 1)) 17) 6).bind fun r1 =>
    if r1.2 = 0 then
      some (r1.1, 0)
    else
      (f_CountryReader_readNewNameOnReach r1.1).bind fun r2 =>
      if ¬ r2.2 = 0 then
        if zio 1 (r2.1 32 1) = true then
          (f_Country_addTown r2.1 (Int.toNat (r2.1 32 1)) (r2.1 32 3) (r2.1 32 4) (r2.1 64 7)).bind fun r3 =>
          (f_Tape_advance r3.1).bind fun r4 =>
          some (r4.1, 1)
        else none
      else
        some (r2.1, 0)
  else none := (zsem_eq _ _ _ _ _ _).trans rfl
set_option maxRecDepth 100000 in
theorem e_CountryReader_readTaste (σ : zH)  : f_CountryReader_readTaste σ  =
  if zio 1 (σ 32 1) = true then
    (f_CountryReader_begins σ (σ (Int.toNat (σ 32 1)) 18) 12).bind fun r1 =>
    if r1.2 = 0 then
      some (r1.1, 0)
    else
      (f_CountryReader_readWhoAndTerm r1.1 3).bind fun r2 =>
      if ¬ r2.2 = 0 then
        if zio 1 (r2.1 32 1) = true then
          (f_Country_likes r2.1 (Int.toNat (r2.1 32 1)) (r2.1 32 5) (r2.1 32 6)).bind fun r3 =>
          if r3.2 = 0 then
            if zio 1 (r3.1 32 1) = true then
              (f_Country_addTaste r3.1 (Int.toNat (r3.1 32 1)) (r3.1 32 5) (r3.1 32 6)).bind fun r4 =>
              (f_Tape_advance r4.1).bind fun r5 =>
              some (r5.1, 1)
            else none
          else
            (f_Tape_fail r3.1 3).bind fun r6 =>
            some (r6.1, r6.2)
        else none
      else
        some (r2.1, 0)
  else none := (zsem_eq _ _ _ _ _ _).trans rfl
set_option maxRecDepth 100000 in
theorem e_Daybook_readFrom (σ : zH) (k2 : Nat) : f_Daybook_readFrom σ k2 =
  f_Daybook_readFrom_7 (zset σ 320 3 0) k2 0 := (zsem_eq _ _ _ _ _ _).trans rfl
set_option maxRecDepth 100000 in
theorem e_Daybook_readFrom_7 (σ : zH) (k2 : Nat) (x3 : Int) : f_Daybook_readFrom_7 σ k2 x3 =
  if 30 < x3 then
    (f_Tape_fail σ 4).bind fun r1 =>
    some (r1.1, r1.2)
  else
    if ¬ (σ 64 4) = 0 then
      (f_Daybook_readLine σ k2).bind fun r2 =>
      if r2.2 = 0 then
        some (r2.1, 0)
      else
        (f_Tape_passes r2.1 59).bind fun r3 =>
        if ¬ r3.2 = 0 then
          f_Daybook_readFrom_7 r3.1 k2 (w32 (x3 + 1))
        else
          some (r3.1, 0)
    else
      some (σ, 1) := (zsem_eq _ _ _ _ _ _).trans rfl
set_option maxRecDepth 100000 in
theorem e_Daybook_readLine (σ : zH) (k2 : Nat) : f_Daybook_readLine σ k2 =
  if ¬ (σ 64 6) = 12 then
    f_Daybook_readLine_19 σ k2 (-1) (-1) 0
  else
    f_Daybook_readLine_19 σ k2 (-1) (-1) 1 := (zsem_eq _ _ _ _ _ _).trans rfl
set_option maxRecDepth 100000 in
theorem e_Daybook_readLine_19 (σ : zH) (k2 : Nat) (x3 : Int) (x4 : Int) (s0 : Int) : f_Daybook_readLine_19 σ k2 x3 x4 s0 =
  if ¬ s0 = 0 then
    f_Daybook_readLine_89 σ k2 x3 x4 s0
  else
    (f_Tape_isName σ).bind fun r1 =>
    if ¬ r1.2 = 0 then
      (f_Names_find r1.1 k2 (r1.1 64 8)).bind fun r2 =>
      if r2.2 = (-1) then
        (f_Tape_fail r2.1 3).bind fun r3 =>
        some (r3.1, r3.2)
      else
        if zin r2.2 30 = true then
          if 2 ≤ (r2.1 (k2 + 2) (Int.toNat r2.2)) then
            if zin r2.2 30 = true then
              if zin r2.2 30 = true then
                f_Daybook_readLine_89 r2.1 k2 (r2.1 (k2 + 2) (Int.toNat r2.2)) (r2.1 (k2 + 3) (Int.toNat r2.2)) s0
              else none
            else none
          else
            (f_Tape_fail r2.1 3).bind fun r4 =>
            some (r4.1, r4.2)
        else none
    else
      (f_Tape_fail r1.1 1).bind fun r5 =>
      some (r5.1, r5.2) := (zsem_eq _ _ _ _ _ _).trans rfl
set_option maxRecDepth 100000 in
theorem e_Daybook_readLine_89 (σ : zH) (k2 : Nat) (x3 : Int) (x4 : Int) (x5 : Int) : f_Daybook_readLine_89 σ k2 x3 x4 x5 =
  if (σ 320 3) < 30 then
    (f_Tape_advance σ).bind fun r1 =>
    if x5 = 0 then
      if ¬ x3 = 3 then
        (f_Daybook_readAwake r1.1 x4).bind fun r2 =>
        some (r2.1, r2.2)
      else
        (f_Daybook_readReads r1.1 k2 x4).bind fun r3 =>
        some (r3.1, r3.2)
    else
      (f_Daybook_readDays r1.1).bind fun r4 =>
      some (r4.1, r4.2)
  else
    (f_Tape_fail σ 4).bind fun r5 =>
    some (r5.1, r5.2) := (zsem_eq _ _ _ _ _ _).trans rfl
set_option maxRecDepth 100000 in
theorem e_Daybook_readDays (σ : zH)  : f_Daybook_readDays σ  =
  (f_Tape_isNumber σ 1 99).bind fun r1 =>
  if ¬ r1.2 = 0 then
    (f_Daybook_add r1.1 12 (-1) (r1.1 64 7)).bind fun r2 =>
    some (r2.1, r2.2)
  else
    some (r1.1, 0) := (zsem_eq _ _ _ _ _ _).trans rfl
set_option maxRecDepth 100000 in
theorem e_Daybook_readReads (σ : zH) (k2 : Nat) (x3 : Int) : f_Daybook_readReads σ k2 x3 =
  if (σ 64 6) = 13 then
    (f_Tape_advance σ).bind fun r1 =>
    if ¬ (r1.1 64 6) = 14 then
      (f_Tape_toldName r1.1 k2 0).bind fun r2 =>
      if r2.2 = (-1) then
        some (r2.1, 0)
      else
        (f_Daybook_add r2.1 13 x3 r2.2).bind fun r3 =>
        if r3.2 = 0 then
          some (r3.1, 0)
        else
          some (r3.1, 1)
    else
      (f_Daybook_add r1.1 13 x3 (-1)).bind fun r4 =>
      some (r4.1, r4.2)
  else
    (f_Tape_fail σ 1).bind fun r5 =>
    some (r5.1, r5.2) := (zsem_eq _ _ _ _ _ _).trans rfl
set_option maxRecDepth 100000 in
theorem e_Daybook_readAwake (σ : zH) (x2 : Int) : f_Daybook_readAwake σ x2 =
  if (σ 64 6) = 15 then
    (f_Daybook_add σ (σ 64 6) x2 (-1)).bind fun r1 =>
    some (r1.1, r1.2)
  else
    if (σ 64 6) = 16 then
      (f_Daybook_add σ (σ 64 6) x2 (-1)).bind fun r2 =>
      some (r2.1, r2.2)
    else
      (f_Tape_fail σ 1).bind fun r3 =>
      some (r3.1, r3.2) := (zsem_eq _ _ _ _ _ _).trans rfl
set_option maxRecDepth 100000 in
theorem e_Daybook_add (σ : zH) (x2 : Int) (x3 : Int) (x4 : Int) : f_Daybook_add σ x2 x3 x4 =
  if zin (σ 320 3) 30 = true then
    if zin ((zset σ 321 (Int.toNat (σ 320 3)) x2) 320 3) 30 = true then
      if zin ((zset (zset σ 321 (Int.toNat (σ 320 3)) x2) 322 (Int.toNat ((zset σ 321 (Int.toNat (σ 320 3)) x2) 320 3)) x3) 320 3) 30 = true then
        (f_Tape_advance (zset (zset (zset (zset σ 321 (Int.toNat (σ 320 3)) x2) 322 (Int.toNat ((zset σ 321 (Int.toNat (σ 320 3)) x2) 320 3)) x3) 323 (Int.toNat ((zset (zset σ 321 (Int.toNat (σ 320 3)) x2) 322 (Int.toNat ((zset σ 321 (Int.toNat (σ 320 3)) x2) 320 3)) x3) 320 3)) x4) 320 3 (w32 (((zset (zset (zset σ 321 (Int.toNat (σ 320 3)) x2) 322 (Int.toNat ((zset σ 321 (Int.toNat (σ 320 3)) x2) 320 3)) x3) 323 (Int.toNat ((zset (zset σ 321 (Int.toNat (σ 320 3)) x2) 322 (Int.toNat ((zset σ 321 (Int.toNat (σ 320 3)) x2) 320 3)) x3) 320 3)) x4) 320 3) + 1)))).bind fun r1 =>
        some (r1.1, 1)
      else none
    else none
  else none := (zsem_eq _ _ _ _ _ _).trans rfl
set_option maxRecDepth 100000 in
theorem e_Daybook_judge (σ : zH) (k1 : Nat) (k2 : Nat) : f_Daybook_judge σ k1 k2 =
  f_Daybook_judge_18 (zset (zset σ 320 5 0) 320 6 0) k1 k2 (σ k2 14) 0 := (zsem_eq _ _ _ _ _ _).trans rfl
set_option maxRecDepth 100000 in
theorem e_Daybook_judge_18 (σ : zH) (k1 : Nat) (k2 : Nat) (x3 : Int) (x4 : Int) : f_Daybook_judge_18 σ k1 k2 x3 x4 =
  if (σ 320 3) ≤ x4 then
    f_Daybook_judge_69 σ k2 x3
  else
    if ¬ (σ 320 5) = 0 then
      f_Daybook_judge_69 σ k2 x3
    else
      (f_Daybook_live σ k1 k2 x4).bind fun r1 =>
      if ¬ ((zset r1.1 320 5 r1.2) 320 5) = 0 then
        f_Daybook_judge_18 (zset r1.1 320 5 r1.2) k1 k2 x3 (w32 (x4 + 1))
      else
        f_Daybook_judge_18 (zset (zset r1.1 320 5 r1.2) 320 6 (w32 (((zset r1.1 320 5 r1.2) 320 6) + 1))) k1 k2 x3 (w32 (x4 + 1)) := (zsem_eq _ _ _ _ _ _).trans rfl
set_option maxRecDepth 100000 in
theorem e_Daybook_judge_69 (σ : zH) (k2 : Nat) (x3 : Int) : f_Daybook_judge_69 σ k2 x3 =
  if ¬ ((zset (zset (zset σ 320 7 (σ k2 12)) 320 8 (w32 (((zset σ 320 7 (σ k2 12)) k2 14) - x3))) 320 4 1) 320 5) = 0 then
    some (zset (zset (zset σ 320 7 (σ k2 12)) 320 8 (w32 (((zset σ 320 7 (σ k2 12)) k2 14) - x3))) 320 4 1, (zset (zset (zset σ 320 7 (σ k2 12)) 320 8 (w32 (((zset σ 320 7 (σ k2 12)) k2 14) - x3))) 320 4 1) 320 6)
  else
    some (zset (zset (zset σ 320 7 (σ k2 12)) 320 8 (w32 (((zset σ 320 7 (σ k2 12)) k2 14) - x3))) 320 4 1, (-1)) := (zsem_eq _ _ _ _ _ _).trans rfl
set_option maxRecDepth 100000 in
theorem e_Daybook_live (σ : zH) (k1 : Nat) (k2 : Nat) (x3 : Int) : f_Daybook_live σ k1 k2 x3 =
  if zin x3 30 = true then
    if zin x3 30 = true then
      if ¬ (σ 321 (Int.toNat x3)) = 12 then
        if zin x3 30 = true then
          if ¬ (σ 321 (Int.toNat x3)) = 13 then
            (f_Stream_isAwake σ k2 (σ 322 (Int.toNat x3))).bind fun r1 =>
            if zin x3 30 = true then
              if ¬ (r1.1 321 (Int.toNat x3)) = 15 then
                if ¬ r1.2 = 0 then
                  (f_Stream_toggle r1.1 k2 (σ 322 (Int.toNat x3))).bind fun r2 =>
                  some (r2.1, 0)
                else
                  some (r1.1, 3)
              else
                if ¬ r1.2 = 1 then
                  (f_Stream_toggle r1.1 k2 (σ 322 (Int.toNat x3))).bind fun r3 =>
                  some (r3.1, 0)
                else
                  some (r1.1, 3)
            else none
          else
            if zin (σ 322 (Int.toNat x3)) 6 = true then
              if zin x3 30 = true then
                if ¬ (σ (k2 + 5) (Int.toNat (σ 322 (Int.toNat x3)))) = (σ 323 (Int.toNat x3)) then
                  some (σ, 2)
                else
                  some (σ, 0)
              else none
            else none
        else none
      else
        if zin x3 30 = true then
          (f_Stream_daysLeft σ k2).bind fun r4 =>
          if (σ 323 (Int.toNat x3)) ≤ r4.2 then
            if zin x3 30 = true then
              (f_Stream_pass r4.1 k2 k1 (r4.1 323 (Int.toNat x3))).bind fun r5 =>
              some (r5.1, 0)
            else none
          else
            some (r4.1, 1)
        else none
    else none
  else none := (zsem_eq _ _ _ _ _ _).trans rfl
set_option maxRecDepth 100000 in
theorem e_Daybook_tell (σ : zH) (x1 : Int) : f_Daybook_tell σ x1 =
  if ¬ (σ 320 4) = 0 then
    if x1 = 0 then
      some (σ, σ 320 5)
    else
    if x1 = 1 then
      some (σ, σ 320 6)
    else
    if x1 = 2 then
      some (σ, σ 320 7)
    else
    if x1 = 3 then
      some (σ, σ 320 8)
    else
    some (σ, (-1))
  else
    some (σ, (-1)) := (zsem_eq _ _ _ _ _ _).trans rfl
set_option maxRecDepth 100000 in
theorem e_Dice_begin (σ : zH) (x1 : Int) : f_Dice_begin σ x1 =
  some (zset (zset σ 352 0 x1) 352 1 0, 0) := (zsem_eq _ _ _ _ _ _).trans rfl
set_option maxRecDepth 100000 in
theorem e_Dice_draw (σ : zH) (x1 : Int) : f_Dice_draw σ x1 =
  if x1 ≤ 0 then
    some (zset σ 352 0 (w32 ((w32 ((σ 352 0) * 1103515245)) + 12345)), 0)
  else
    if znz x1 = true then
      some (zset σ 352 0 (w32 ((w32 ((σ 352 0) * 1103515245)) + 12345)), Int.tmod (zushr ((zset σ 352 0 (w32 ((w32 ((σ 352 0) * 1103515245)) + 12345))) 352 0) 8) x1)
    else none := (zsem_eq _ _ _ _ _ _).trans rfl
set_option maxRecDepth 100000 in
theorem e_Names_find (σ : zH) (k0 : Nat) (x1 : Int) : f_Names_find σ k0 x1 =
  f_Names_find_2 σ k0 x1 0 := (zsem_eq _ _ _ _ _ _).trans rfl
set_option maxRecDepth 100000 in
theorem e_Names_find_2 (σ : zH) (k0 : Nat) (x1 : Int) (x3 : Int) : f_Names_find_2 σ k0 x1 x3 =
  if (σ k0 3) ≤ x3 then
    some (σ, (-1))
  else
    if zin x3 30 = true then
      if ¬ (zcmp (σ (k0 + 1) (Int.toNat x3)) x1) = 0 then
        f_Names_find_2 σ k0 x1 (w32 (x3 + 1))
      else
        some (σ, x3)
    else none := (zsem_eq _ _ _ _ _ _).trans rfl
set_option maxRecDepth 100000 in
theorem e_Names_add (σ : zH) (k0 : Nat) (x1 : Int) (x3 : Int) (x4 : Int) : f_Names_add σ k0 x1 x3 x4 =
  if 30 ≤ (σ k0 3) then
    some (σ, 0)
  else
    if zin (σ k0 3) 30 = true then
      if zin ((zset σ (k0 + 1) (Int.toNat (σ k0 3)) x1) k0 3) 30 = true then
        if zin ((zset (zset σ (k0 + 1) (Int.toNat (σ k0 3)) x1) (k0 + 2) (Int.toNat ((zset σ (k0 + 1) (Int.toNat (σ k0 3)) x1) k0 3)) x3) k0 3) 30 = true then
          some (zset (zset (zset (zset σ (k0 + 1) (Int.toNat (σ k0 3)) x1) (k0 + 2) (Int.toNat ((zset σ (k0 + 1) (Int.toNat (σ k0 3)) x1) k0 3)) x3) (k0 + 3) (Int.toNat ((zset (zset σ (k0 + 1) (Int.toNat (σ k0 3)) x1) (k0 + 2) (Int.toNat ((zset σ (k0 + 1) (Int.toNat (σ k0 3)) x1) k0 3)) x3) k0 3)) x4) k0 3 (w32 (((zset (zset (zset σ (k0 + 1) (Int.toNat (σ k0 3)) x1) (k0 + 2) (Int.toNat ((zset σ (k0 + 1) (Int.toNat (σ k0 3)) x1) k0 3)) x3) (k0 + 3) (Int.toNat ((zset (zset σ (k0 + 1) (Int.toNat (σ k0 3)) x1) (k0 + 2) (Int.toNat ((zset σ (k0 + 1) (Int.toNat (σ k0 3)) x1) k0 3)) x3) k0 3)) x4) k0 3) + 1)), 0)
        else none
      else none
    else none := (zsem_eq _ _ _ _ _ _).trans rfl
set_option maxRecDepth 100000 in
theorem e_Names_copyFrom (σ : zH) (k0 : Nat) (k1 : Nat) : f_Names_copyFrom σ k0 k1 =
  some (zset (zcp (zcp (zcp σ (k1 + 1) 0 (k0 + 1) 0 30) (k1 + 2) 0 (k0 + 2) 0 30) (k1 + 3) 0 (k0 + 3) 0 30) k0 3 ((zcp (zcp (zcp σ (k1 + 1) 0 (k0 + 1) 0 30) (k1 + 2) 0 (k0 + 2) 0 30) (k1 + 3) 0 (k0 + 3) 0 30) k1 3), 0) := (zsem_eq _ _ _ _ _ _).trans rfl
set_option maxRecDepth 100000 in
theorem e_Sentence_clear (σ : zH) (k0 : Nat) : f_Sentence_clear σ k0 =
  some (zset (zset σ k0 3 0) k0 4 0, 0) := (zsem_eq _ _ _ _ _ _).trans rfl
set_option maxRecDepth 100000 in
theorem e_Sentence_copyFrom (σ : zH) (k0 : Nat) (k1 : Nat) : f_Sentence_copyFrom σ k0 k1 =
  some (zset (zset (zcp (zcp (zcp σ (k1 + 1) 0 (k0 + 1) 0 40) (k1 + 2) 0 (k0 + 2) 0 40) (k1 + 3) 0 (k0 + 3) 0 40) k0 3 ((zcp (zcp (zcp σ (k1 + 1) 0 (k0 + 1) 0 40) (k1 + 2) 0 (k0 + 2) 0 40) (k1 + 3) 0 (k0 + 3) 0 40) k1 3)) k0 4 ((zset (zcp (zcp (zcp σ (k1 + 1) 0 (k0 + 1) 0 40) (k1 + 2) 0 (k0 + 2) 0 40) (k1 + 3) 0 (k0 + 3) 0 40) k0 3 ((zcp (zcp (zcp σ (k1 + 1) 0 (k0 + 1) 0 40) (k1 + 2) 0 (k0 + 2) 0 40) (k1 + 3) 0 (k0 + 3) 0 40) k1 3)) k1 4), 0) := (zsem_eq _ _ _ _ _ _).trans rfl
set_option maxRecDepth 100000 in
theorem e_Sentence_readFrom (σ : zH) (k0 : Nat) (k2 : Nat) : f_Sentence_readFrom σ k0 k2 =
  (f_Sentence_clear σ k0).bind fun r1 =>
  (f_Sentence_readCond r1.1 k0 k2 0).bind fun r2 =>
  if ¬ r2.2 = 0 then
    if (r2.1 64 4) = 0 then
      some (r2.1, 1)
    else
      (f_Tape_fail r2.1 1).bind fun r3 =>
      if r3.2 = 0 then
        some (r3.1, 0)
      else
        some (r3.1, 1)
  else
    some (r2.1, 0) := (zsem_eq _ _ _ _ _ _).trans rfl
set_option maxRecDepth 100000 in
theorem e_Sentence_readCond (σ : zH) (k0 : Nat) (k2 : Nat) (x3 : Int) : f_Sentence_readCond σ k0 k2 x3 =
  cond (Nat.blt (5 + 3 * (9 - Int.toNat x3)) (6 + 3 * (9 - Int.toNat x3))) ((f_Sentence_readAll σ k0 k2 x3).bind fun r1 =>
  f_Sentence_readCond_12 r1.1 (6 + 3 * (9 - Int.toNat x3)) k0 k2 x3 r1.2 0) none := (zsem_eq _ _ _ _ _ _).trans rfl
set_option maxRecDepth 100000 in
theorem e_Sentence_readCond_12 (σ : zH) (rk : Nat) (k0 : Nat) (k2 : Nat) (x3 : Int) (x4 : Int) (x5 : Int) : f_Sentence_readCond_12 σ rk k0 k2 x3 x4 x5 =
  if 20 ≤ x5 then
    if zbl x4 = true then some (σ, x4) else none
  else
    if x4 = 0 then
      if zbl x4 = true then some (σ, x4) else none
    else
      if ¬ (σ 64 6) = 17 then
        if zbl x4 = true then some (σ, x4) else none
      else
        cond (Nat.blt 1 rk) ((f_Tape_advance σ).bind fun r1 =>
        cond (Nat.blt (5 + 3 * (9 - Int.toNat x3)) rk) ((f_Sentence_readAll r1.1 k0 k2 x3).bind fun r2 =>
        if r2.2 = 0 then
          f_Sentence_readCond_12 r2.1 rk k0 k2 x3 0 (w32 (x5 + 1))
        else
          cond (Nat.blt 0 rk) ((f_Sentence_add r2.1 k0 17 0 0).bind fun r3 =>
          if r3.2 = 0 then
            f_Sentence_readCond_12 r3.1 rk k0 k2 x3 0 (w32 (x5 + 1))
          else
            f_Sentence_readCond_12 r3.1 rk k0 k2 x3 1 (w32 (x5 + 1))) none) none) none := (zsem_eq _ _ _ _ _ _).trans rfl
set_option maxRecDepth 100000 in
theorem e_Sentence_readAll (σ : zH) (k0 : Nat) (k2 : Nat) (x3 : Int) : f_Sentence_readAll σ k0 k2 x3 =
  cond (Nat.blt (4 + 3 * (9 - Int.toNat x3)) (5 + 3 * (9 - Int.toNat x3))) ((f_Sentence_readOne σ k0 k2 x3).bind fun r1 =>
  f_Sentence_readAll_12 r1.1 (5 + 3 * (9 - Int.toNat x3)) k0 k2 x3 r1.2 0) none := (zsem_eq _ _ _ _ _ _).trans rfl
set_option maxRecDepth 100000 in
theorem e_Sentence_readAll_12 (σ : zH) (rk : Nat) (k0 : Nat) (k2 : Nat) (x3 : Int) (x4 : Int) (x5 : Int) : f_Sentence_readAll_12 σ rk k0 k2 x3 x4 x5 =
  if 20 ≤ x5 then
    if zbl x4 = true then some (σ, x4) else none
  else
    if x4 = 0 then
      if zbl x4 = true then some (σ, x4) else none
    else
      if ¬ (σ 64 6) = 18 then
        if zbl x4 = true then some (σ, x4) else none
      else
        cond (Nat.blt 1 rk) ((f_Tape_advance σ).bind fun r1 =>
        cond (Nat.blt (4 + 3 * (9 - Int.toNat x3)) rk) ((f_Sentence_readOne r1.1 k0 k2 x3).bind fun r2 =>
        if r2.2 = 0 then
          f_Sentence_readAll_12 r2.1 rk k0 k2 x3 0 (w32 (x5 + 1))
        else
          cond (Nat.blt 0 rk) ((f_Sentence_add r2.1 k0 18 0 0).bind fun r3 =>
          if r3.2 = 0 then
            f_Sentence_readAll_12 r3.1 rk k0 k2 x3 0 (w32 (x5 + 1))
          else
            f_Sentence_readAll_12 r3.1 rk k0 k2 x3 1 (w32 (x5 + 1))) none) none) none := (zsem_eq _ _ _ _ _ _).trans rfl
set_option maxRecDepth 100000 in
theorem e_Sentence_readOne (σ : zH) (k0 : Nat) (k2 : Nat) (x3 : Int) : f_Sentence_readOne σ k0 k2 x3 =
  if ¬ (σ 64 4) = 40 then
    if ¬ (0 : Int) = 0 then
      f_Sentence_readOne_41 σ (4 + 3 * (9 - Int.toNat x3)) k0 k2 x3 0 (σ 64 6)
    else
      cond (Nat.blt 0 (4 + 3 * (9 - Int.toNat x3))) ((f_Sentence_beginsOne σ (σ 64 6)).bind fun r1 =>
      if ¬ r1.2 = 0 then
        f_Sentence_readOne_41 r1.1 (4 + 3 * (9 - Int.toNat x3)) k0 k2 x3 0 (σ 64 6)
      else
        cond (Nat.blt 0 (4 + 3 * (9 - Int.toNat x3))) ((f_Tape_fail r1.1 1).bind fun r2 =>
        some (r2.1, r2.2)) none) none
  else
    if ¬ (1 : Int) = 0 then
      f_Sentence_readOne_41 σ (4 + 3 * (9 - Int.toNat x3)) k0 k2 x3 1 (σ 64 6)
    else
      cond (Nat.blt 0 (4 + 3 * (9 - Int.toNat x3))) ((f_Sentence_beginsOne σ (σ 64 6)).bind fun r3 =>
      if ¬ r3.2 = 0 then
        f_Sentence_readOne_41 r3.1 (4 + 3 * (9 - Int.toNat x3)) k0 k2 x3 1 (σ 64 6)
      else
        cond (Nat.blt 0 (4 + 3 * (9 - Int.toNat x3))) ((f_Tape_fail r3.1 1).bind fun r4 =>
        some (r4.1, r4.2)) none) none := (zsem_eq _ _ _ _ _ _).trans rfl
set_option maxRecDepth 100000 in
theorem e_Sentence_readOne_41 (σ : zH) (rk : Nat) (k0 : Nat) (k2 : Nat) (x3 : Int) (x4 : Int) (x5 : Int) : f_Sentence_readOne_41 σ rk k0 k2 x3 x4 x5 =
  if 20 ≤ (σ k0 4) then
    cond (Nat.blt 0 rk) ((f_Tape_fail σ 4).bind fun r1 =>
    some (r1.1, r1.2)) none
  else
    if x3 < 8 then
      cond (Nat.blt 1 rk) ((f_Tape_advance (zset σ k0 4 (w32 ((σ k0 4) + 1)))).bind fun r2 =>
      if x4 = 0 then
        if x5 = 13 then
          cond (Nat.blt 1 rk) ((f_Tape_toldName r2.1 k2 0).bind fun r3 =>
          cond (Nat.blt 2 rk) ((f_Sentence_addNamed r3.1 k0 x5 r3.2).bind fun r4 =>
          some (r4.1, r4.2)) none) none
        else
        if x5 = 14 then
          cond (Nat.blt 2 rk) ((f_Sentence_readMeasure r2.1 k0 x5).bind fun r5 =>
          some (r5.1, r5.2)) none
        else
        if x5 = 15 then
          cond (Nat.blt 2 rk) ((f_Sentence_readMeasure r2.1 k0 x5).bind fun r6 =>
          some (r6.1, r6.2)) none
        else
        if x5 = 16 then
          cond (Nat.blt 2 rk) ((f_Sentence_readMeasure r2.1 k0 x5).bind fun r7 =>
          some (r7.1, r7.2)) none
        else
        if x5 = 17 then
          cond (Nat.blt 2 rk) ((f_Sentence_readMeasure r2.1 k0 x5).bind fun r8 =>
          some (r8.1, r8.2)) none
        else
        if x5 = 18 then
          cond (Nat.blt 2 rk) ((f_Sentence_readMeasure r2.1 k0 x5).bind fun r9 =>
          some (r9.1, r9.2)) none
        else
        if x5 = 19 then
          cond (Nat.blt (4 + 3 * (9 - Int.toNat (w32 (x3 + 1)))) rk) ((f_Sentence_readOne r2.1 k0 k2 (w32 (x3 + 1))).bind fun r10 =>
          if r10.2 = 0 then
            some (r10.1, 0)
          else
            cond (Nat.blt 0 rk) ((f_Sentence_add r10.1 k0 19 0 0).bind fun r11 =>
            if r11.2 = 0 then
              some (r11.1, 0)
            else
              some (r11.1, 1)) none) none
        else
        if x5 = 20 then
          cond (Nat.blt 1 rk) ((f_Tape_toldName r2.1 k2 1).bind fun r12 =>
          cond (Nat.blt 2 rk) ((f_Sentence_addNamed r12.1 k0 x5 r12.2).bind fun r13 =>
          some (r13.1, r13.2)) none) none
        else
        if x5 = 21 then
          cond (Nat.blt 0 rk) ((f_Sentence_add r2.1 k0 21 0 0).bind fun r14 =>
          some (r14.1, r14.2)) none
        else
        cond (Nat.blt 2 rk) ((f_Sentence_readMeasure r2.1 k0 x5).bind fun r15 =>
        some (r15.1, r15.2)) none
      else
        cond (Nat.blt (6 + 3 * (9 - Int.toNat (w32 (x3 + 1)))) rk) ((f_Sentence_readCond r2.1 k0 k2 (w32 (x3 + 1))).bind fun r16 =>
        if r16.2 = 0 then
          some (r16.1, 0)
        else
          cond (Nat.blt 2 rk) ((f_Tape_passes r16.1 41).bind fun r17 =>
          if r17.2 = 0 then
            some (r17.1, 0)
          else
            some (r17.1, 1)) none) none) none
    else
      cond (Nat.blt 0 rk) ((f_Tape_fail σ 4).bind fun r18 =>
      some (r18.1, r18.2)) none := (zsem_eq _ _ _ _ _ _).trans rfl
set_option maxRecDepth 100000 in
theorem e_Sentence_beginsOne (σ : zH) (x0 : Int) : f_Sentence_beginsOne σ x0 =
  if x0 = 19 then
    some (σ, 1)
  else
    if x0 = 13 then
      some (σ, 1)
    else
      if x0 < 20 then
        some (σ, 0)
      else
        if 25 < x0 then
          some (σ, 0)
        else
          some (σ, 1) := (zsem_eq _ _ _ _ _ _).trans rfl
set_option maxRecDepth 100000 in
theorem e_Sentence_addNamed (σ : zH) (k0 : Nat) (x2 : Int) (x3 : Int) : f_Sentence_addNamed σ k0 x2 x3 =
  if ¬ x3 = (-1) then
    (f_Tape_advance σ).bind fun r1 =>
    (f_Sentence_add r1.1 k0 x2 0 x3).bind fun r2 =>
    some (r2.1, r2.2)
  else
    some (σ, 0) := (zsem_eq _ _ _ _ _ _).trans rfl
set_option maxRecDepth 100000 in
theorem e_Sentence_readMeasure (σ : zH) (k0 : Nat) (x2 : Int) : f_Sentence_readMeasure σ k0 x2 =
  if (σ 64 4) = 60 then
    f_Sentence_readMeasure_29 σ k0 x2 (σ 64 4)
  else
    if (σ 64 4) = 61 then
      f_Sentence_readMeasure_29 σ k0 x2 (σ 64 4)
    else
      if (σ 64 4) = 62 then
        f_Sentence_readMeasure_29 σ k0 x2 (σ 64 4)
      else
        (f_Tape_fail σ 1).bind fun r1 =>
        some (r1.1, r1.2) := (zsem_eq _ _ _ _ _ _).trans rfl
set_option maxRecDepth 100000 in
theorem e_Sentence_readMeasure_29 (σ : zH) (k0 : Nat) (x2 : Int) (x3 : Int) : f_Sentence_readMeasure_29 σ k0 x2 x3 =
  (f_Tape_advance σ).bind fun r1 =>
  if (r1.1 64 4) = 3 then
    (f_Sentence_add r1.1 k0 x2 x3 (r1.1 64 7)).bind fun r2 =>
    (f_Tape_advance r2.1).bind fun r3 =>
    some (r3.1, 1)
  else
    (f_Tape_fail r1.1 1).bind fun r4 =>
    some (r4.1, r4.2) := (zsem_eq _ _ _ _ _ _).trans rfl
set_option maxRecDepth 100000 in
theorem e_Sentence_add (σ : zH) (k0 : Nat) (x1 : Int) (x2 : Int) (x3 : Int) : f_Sentence_add σ k0 x1 x2 x3 =
  if (σ k0 3) < 40 then
    if zin (σ k0 3) 40 = true then
      if zin ((zset σ (k0 + 1) (Int.toNat (σ k0 3)) x1) k0 3) 40 = true then
        if zin ((zset (zset σ (k0 + 1) (Int.toNat (σ k0 3)) x1) (k0 + 2) (Int.toNat ((zset σ (k0 + 1) (Int.toNat (σ k0 3)) x1) k0 3)) x2) k0 3) 40 = true then
          some (zset (zset (zset (zset σ (k0 + 1) (Int.toNat (σ k0 3)) x1) (k0 + 2) (Int.toNat ((zset σ (k0 + 1) (Int.toNat (σ k0 3)) x1) k0 3)) x2) (k0 + 3) (Int.toNat ((zset (zset σ (k0 + 1) (Int.toNat (σ k0 3)) x1) (k0 + 2) (Int.toNat ((zset σ (k0 + 1) (Int.toNat (σ k0 3)) x1) k0 3)) x2) k0 3)) x3) k0 3 (w32 (((zset (zset (zset σ (k0 + 1) (Int.toNat (σ k0 3)) x1) (k0 + 2) (Int.toNat ((zset σ (k0 + 1) (Int.toNat (σ k0 3)) x1) k0 3)) x2) (k0 + 3) (Int.toNat ((zset (zset σ (k0 + 1) (Int.toNat (σ k0 3)) x1) (k0 + 2) (Int.toNat ((zset σ (k0 + 1) (Int.toNat (σ k0 3)) x1) k0 3)) x2) k0 3)) x3) k0 3) + 1)), 1)
        else none
      else none
    else none
  else
    some (σ, 0) := (zsem_eq _ _ _ _ _ _).trans rfl
set_option maxRecDepth 100000 in
theorem e_Sentence_holdsOf (σ : zH) (k0 : Nat) (k1 : Nat) (k2 : Nat) (x3 : Int) : f_Sentence_holdsOf σ k0 k1 k2 x3 =
  f_Sentence_holdsOf_6 σ k0 k1 k2 x3 0 0 := (zsem_eq _ _ _ _ _ _).trans rfl
set_option maxRecDepth 100000 in
theorem e_Sentence_holdsOf_6 (σ : zH) (k0 : Nat) (k1 : Nat) (k2 : Nat) (x3 : Int) (x4 : Int) (x5 : Int) : f_Sentence_holdsOf_6 σ k0 k1 k2 x3 x4 x5 =
  if (σ k0 3) ≤ x5 then
    if ¬ (zand x4 1) = 1 then
      some (σ, 0)
    else
      some (σ, 1)
  else
    if zin x5 40 = true then
      if (σ (k0 + 1) (Int.toNat x5)) = 17 then
        f_Sentence_holdsOf_6 σ k0 k1 k2 x3 (zor (zushr x4 1) (zand x4 1)) (w32 (x5 + 1))
      else
      if (σ (k0 + 1) (Int.toNat x5)) = 18 then
        f_Sentence_holdsOf_6 σ k0 k1 k2 x3 (zand (zushr x4 1) (zor (zand x4 1) (-2))) (w32 (x5 + 1))
      else
      if (σ (k0 + 1) (Int.toNat x5)) = 19 then
        f_Sentence_holdsOf_6 σ k0 k1 k2 x3 (zxor x4 1) (w32 (x5 + 1))
      else
      (f_Sentence_isSo σ k0 k1 k2 x3 x5).bind fun r1 =>
      if r1.2 = 0 then
        f_Sentence_holdsOf_6 r1.1 k0 k1 k2 x3 (zor (zshl x4 1) 0) (w32 (x5 + 1))
      else
        f_Sentence_holdsOf_6 r1.1 k0 k1 k2 x3 (zor (zshl x4 1) 1) (w32 (x5 + 1))
    else none := (zsem_eq _ _ _ _ _ _).trans rfl
set_option maxRecDepth 100000 in
theorem e_Sentence_isSo (σ : zH) (k0 : Nat) (k1 : Nat) (k2 : Nat) (x3 : Int) (x4 : Int) : f_Sentence_isSo σ k0 k1 k2 x3 x4 =
  if zin x4 40 = true then
    if (σ (k0 + 1) (Int.toNat x4)) = 13 then
      if zin x3 6 = true then
        if zin x4 40 = true then
          if ¬ (σ (k2 + 5) (Int.toNat x3)) = (σ (k0 + 3) (Int.toNat x4)) then
            some (σ, 0)
          else
            some (σ, 1)
        else none
      else none
    else
    if (σ (k0 + 1) (Int.toNat x4)) = 14 then
      (f_Sentence_compares σ k0 x3 x4).bind fun r1 =>
      some (r1.1, r1.2)
    else
    if (σ (k0 + 1) (Int.toNat x4)) = 15 then
      (f_Sentence_compares σ k0 x3 x4).bind fun r2 =>
      some (r2.1, r2.2)
    else
    if (σ (k0 + 1) (Int.toNat x4)) = 16 then
      (f_Sentence_compares σ k0 x3 x4).bind fun r3 =>
      some (r3.1, r3.2)
    else
    if (σ (k0 + 1) (Int.toNat x4)) = 17 then
      (f_Sentence_compares σ k0 x3 x4).bind fun r4 =>
      some (r4.1, r4.2)
    else
    if (σ (k0 + 1) (Int.toNat x4)) = 18 then
      (f_Sentence_compares σ k0 x3 x4).bind fun r5 =>
      some (r5.1, r5.2)
    else
    if (σ (k0 + 1) (Int.toNat x4)) = 19 then
      (f_Sentence_compares σ k0 x3 x4).bind fun r6 =>
      some (r6.1, r6.2)
    else
    if (σ (k0 + 1) (Int.toNat x4)) = 20 then
      if zin x3 6 = true then
        if zin x4 40 = true then
          if ¬ (σ (k1 + 11) (Int.toNat x3)) = (σ (k0 + 3) (Int.toNat x4)) then
            some (σ, 0)
          else
            some (σ, 1)
        else none
      else none
    else
    if (σ (k0 + 1) (Int.toNat x4)) = 21 then
      if zin x3 6 = true then
        if ¬ (σ (k2 + 10) (Int.toNat x3)) = (-1) then
          some (σ, 0)
        else
          some (σ, 1)
      else none
    else
    if (σ (k0 + 1) (Int.toNat x4)) = 22 then
      if zin x3 6 = true then
        (f_Sentence_compares σ k0 (σ (k1 + 12) (Int.toNat x3)) x4).bind fun r7 =>
        some (r7.1, r7.2)
      else none
    else
    if (σ (k0 + 1) (Int.toNat x4)) = 23 then
      if zin x3 6 = true then
        (f_Sentence_compares σ k0 (σ (k2 + 6) (Int.toNat x3)) x4).bind fun r8 =>
        some (r8.1, r8.2)
      else none
    else
    if (σ (k0 + 1) (Int.toNat x4)) = 24 then
      if zin x3 6 = true then
        (f_Sentence_compares σ k0 (σ (k2 + 7) (Int.toNat x3)) x4).bind fun r9 =>
        some (r9.1, r9.2)
      else none
    else
    (f_Sentence_compares σ k0 x3 x4).bind fun r10 =>
    some (r10.1, r10.2)
  else none := (zsem_eq _ _ _ _ _ _).trans rfl
set_option maxRecDepth 100000 in
theorem e_Sentence_compares (σ : zH) (k0 : Nat) (x1 : Int) (x2 : Int) : f_Sentence_compares σ k0 x1 x2 =
  if zin x2 40 = true then
    if (σ (k0 + 2) (Int.toNat x2)) = 60 then
      if zin x2 40 = true then
        if (σ (k0 + 3) (Int.toNat x2)) ≤ x1 then
          some (σ, 0)
        else
          some (σ, 1)
      else none
    else
    if (σ (k0 + 2) (Int.toNat x2)) = 62 then
      if zin x2 40 = true then
        if x1 ≤ (σ (k0 + 3) (Int.toNat x2)) then
          some (σ, 0)
        else
          some (σ, 1)
      else none
    else
    if zin x2 40 = true then
      if ¬ x1 = (σ (k0 + 3) (Int.toNat x2)) then
        some (σ, 0)
      else
        some (σ, 1)
    else none
  else none := (zsem_eq _ _ _ _ _ _).trans rfl
set_option maxRecDepth 100000 in
theorem e_Stream_begin (σ : zH) (k0 : Nat) (x1 : Int) : f_Stream_begin σ k0 x1 =
  (f_J_fill σ 72 (k0 + 1) (-1)).bind fun r1 =>
  (f_J_fill r1.1 6 (k0 + 3) 0).bind fun r2 =>
  (f_J_fill r2.1 6 (k0 + 4) 0).bind fun r3 =>
  (f_J_fill r3.1 6 (k0 + 5) (-1)).bind fun r4 =>
  (f_J_fill r4.1 6 (k0 + 6) 0).bind fun r5 =>
  (f_J_fill r5.1 6 (k0 + 7) 0).bind fun r6 =>
  (f_J_fill r6.1 6 (k0 + 8) (-1)).bind fun r7 =>
  (f_J_fill r7.1 6 (k0 + 9) 0).bind fun r8 =>
  (f_J_fill r8.1 6 (k0 + 10) (-1)).bind fun r9 =>
  (f_J_fill r9.1 6 (k0 + 11) 0).bind fun r10 =>
  some (zset (zset (zset (zset r10.1 k0 12 0) k0 13 (w32 ((zshl 1 x1) - 1))) k0 14 0) k0 15 0, 0) := (zsem_eq _ _ _ _ _ _).trans rfl
set_option maxRecDepth 100000 in
theorem e_Stream_copyFrom (σ : zH) (k0 : Nat) (k1 : Nat) : f_Stream_copyFrom σ k0 k1 =
  if zcg 0 (zhl k1) 0 (zhl k0) (zmin (Int.ofNat (zhl k0)) (Int.ofNat (zhl k1))) = true then
    some (zset (zset (zset (zset (zcp (zcp (zcp (zcp (zcp (zcp (zcp (zcp (zcp (zcp (zcp σ (k1 + 1) 0 (k0 + 1) 0 72) (k1 + 3) 0 (k0 + 3) 0 6) (k1 + 4) 0 (k0 + 4) 0 6) (k1 + 5) 0 (k0 + 5) 0 6) (k1 + 6) 0 (k0 + 6) 0 6) (k1 + 7) 0 (k0 + 7) 0 6) (k1 + 8) 0 (k0 + 8) 0 6) (k1 + 9) 0 (k0 + 9) 0 6) (k1 + 10) 0 (k0 + 10) 0 6) (k1 + 11) 0 (k0 + 11) 0 6) (k1 + 12) 0 (k0 + 12) 0 (Int.toNat (zmin (Int.ofNat (zhl k0)) (Int.ofNat (zhl k1))))) k0 12 ((zcp (zcp (zcp (zcp (zcp (zcp (zcp (zcp (zcp (zcp (zcp σ (k1 + 1) 0 (k0 + 1) 0 72) (k1 + 3) 0 (k0 + 3) 0 6) (k1 + 4) 0 (k0 + 4) 0 6) (k1 + 5) 0 (k0 + 5) 0 6) (k1 + 6) 0 (k0 + 6) 0 6) (k1 + 7) 0 (k0 + 7) 0 6) (k1 + 8) 0 (k0 + 8) 0 6) (k1 + 9) 0 (k0 + 9) 0 6) (k1 + 10) 0 (k0 + 10) 0 6) (k1 + 11) 0 (k0 + 11) 0 6) (k1 + 12) 0 (k0 + 12) 0 (Int.toNat (zmin (Int.ofNat (zhl k0)) (Int.ofNat (zhl k1))))) k1 12)) k0 13 ((zset (zcp (zcp (zcp (zcp (zcp (zcp (zcp (zcp (zcp (zcp (zcp σ (k1 + 1) 0 (k0 + 1) 0 72) (k1 + 3) 0 (k0 + 3) 0 6) (k1 + 4) 0 (k0 + 4) 0 6) (k1 + 5) 0 (k0 + 5) 0 6) (k1 + 6) 0 (k0 + 6) 0 6) (k1 + 7) 0 (k0 + 7) 0 6) (k1 + 8) 0 (k0 + 8) 0 6) (k1 + 9) 0 (k0 + 9) 0 6) (k1 + 10) 0 (k0 + 10) 0 6) (k1 + 11) 0 (k0 + 11) 0 6) (k1 + 12) 0 (k0 + 12) 0 (Int.toNat (zmin (Int.ofNat (zhl k0)) (Int.ofNat (zhl k1))))) k0 12 ((zcp (zcp (zcp (zcp (zcp (zcp (zcp (zcp (zcp (zcp (zcp σ (k1 + 1) 0 (k0 + 1) 0 72) (k1 + 3) 0 (k0 + 3) 0 6) (k1 + 4) 0 (k0 + 4) 0 6) (k1 + 5) 0 (k0 + 5) 0 6) (k1 + 6) 0 (k0 + 6) 0 6) (k1 + 7) 0 (k0 + 7) 0 6) (k1 + 8) 0 (k0 + 8) 0 6) (k1 + 9) 0 (k0 + 9) 0 6) (k1 + 10) 0 (k0 + 10) 0 6) (k1 + 11) 0 (k0 + 11) 0 6) (k1 + 12) 0 (k0 + 12) 0 (Int.toNat (zmin (Int.ofNat (zhl k0)) (Int.ofNat (zhl k1))))) k1 12)) k1 13)) k0 14 ((zset (zset (zcp (zcp (zcp (zcp (zcp (zcp (zcp (zcp (zcp (zcp (zcp σ (k1 + 1) 0 (k0 + 1) 0 72) (k1 + 3) 0 (k0 + 3) 0 6) (k1 + 4) 0 (k0 + 4) 0 6) (k1 + 5) 0 (k0 + 5) 0 6) (k1 + 6) 0 (k0 + 6) 0 6) (k1 + 7) 0 (k0 + 7) 0 6) (k1 + 8) 0 (k0 + 8) 0 6) (k1 + 9) 0 (k0 + 9) 0 6) (k1 + 10) 0 (k0 + 10) 0 6) (k1 + 11) 0 (k0 + 11) 0 6) (k1 + 12) 0 (k0 + 12) 0 (Int.toNat (zmin (Int.ofNat (zhl k0)) (Int.ofNat (zhl k1))))) k0 12 ((zcp (zcp (zcp (zcp (zcp (zcp (zcp (zcp (zcp (zcp (zcp σ (k1 + 1) 0 (k0 + 1) 0 72) (k1 + 3) 0 (k0 + 3) 0 6) (k1 + 4) 0 (k0 + 4) 0 6) (k1 + 5) 0 (k0 + 5) 0 6) (k1 + 6) 0 (k0 + 6) 0 6) (k1 + 7) 0 (k0 + 7) 0 6) (k1 + 8) 0 (k0 + 8) 0 6) (k1 + 9) 0 (k0 + 9) 0 6) (k1 + 10) 0 (k0 + 10) 0 6) (k1 + 11) 0 (k0 + 11) 0 6) (k1 + 12) 0 (k0 + 12) 0 (Int.toNat (zmin (Int.ofNat (zhl k0)) (Int.ofNat (zhl k1))))) k1 12)) k0 13 ((zset (zcp (zcp (zcp (zcp (zcp (zcp (zcp (zcp (zcp (zcp (zcp σ (k1 + 1) 0 (k0 + 1) 0 72) (k1 + 3) 0 (k0 + 3) 0 6) (k1 + 4) 0 (k0 + 4) 0 6) (k1 + 5) 0 (k0 + 5) 0 6) (k1 + 6) 0 (k0 + 6) 0 6) (k1 + 7) 0 (k0 + 7) 0 6) (k1 + 8) 0 (k0 + 8) 0 6) (k1 + 9) 0 (k0 + 9) 0 6) (k1 + 10) 0 (k0 + 10) 0 6) (k1 + 11) 0 (k0 + 11) 0 6) (k1 + 12) 0 (k0 + 12) 0 (Int.toNat (zmin (Int.ofNat (zhl k0)) (Int.ofNat (zhl k1))))) k0 12 ((zcp (zcp (zcp (zcp (zcp (zcp (zcp (zcp (zcp (zcp (zcp σ (k1 + 1) 0 (k0 + 1) 0 72) (k1 + 3) 0 (k0 + 3) 0 6) (k1 + 4) 0 (k0 + 4) 0 6) (k1 + 5) 0 (k0 + 5) 0 6) (k1 + 6) 0 (k0 + 6) 0 6) (k1 + 7) 0 (k0 + 7) 0 6) (k1 + 8) 0 (k0 + 8) 0 6) (k1 + 9) 0 (k0 + 9) 0 6) (k1 + 10) 0 (k0 + 10) 0 6) (k1 + 11) 0 (k0 + 11) 0 6) (k1 + 12) 0 (k0 + 12) 0 (Int.toNat (zmin (Int.ofNat (zhl k0)) (Int.ofNat (zhl k1))))) k1 12)) k1 13)) k1 14)) k0 15 ((zset (zset (zset (zcp (zcp (zcp (zcp (zcp (zcp (zcp (zcp (zcp (zcp (zcp σ (k1 + 1) 0 (k0 + 1) 0 72) (k1 + 3) 0 (k0 + 3) 0 6) (k1 + 4) 0 (k0 + 4) 0 6) (k1 + 5) 0 (k0 + 5) 0 6) (k1 + 6) 0 (k0 + 6) 0 6) (k1 + 7) 0 (k0 + 7) 0 6) (k1 + 8) 0 (k0 + 8) 0 6) (k1 + 9) 0 (k0 + 9) 0 6) (k1 + 10) 0 (k0 + 10) 0 6) (k1 + 11) 0 (k0 + 11) 0 6) (k1 + 12) 0 (k0 + 12) 0 (Int.toNat (zmin (Int.ofNat (zhl k0)) (Int.ofNat (zhl k1))))) k0 12 ((zcp (zcp (zcp (zcp (zcp (zcp (zcp (zcp (zcp (zcp (zcp σ (k1 + 1) 0 (k0 + 1) 0 72) (k1 + 3) 0 (k0 + 3) 0 6) (k1 + 4) 0 (k0 + 4) 0 6) (k1 + 5) 0 (k0 + 5) 0 6) (k1 + 6) 0 (k0 + 6) 0 6) (k1 + 7) 0 (k0 + 7) 0 6) (k1 + 8) 0 (k0 + 8) 0 6) (k1 + 9) 0 (k0 + 9) 0 6) (k1 + 10) 0 (k0 + 10) 0 6) (k1 + 11) 0 (k0 + 11) 0 6) (k1 + 12) 0 (k0 + 12) 0 (Int.toNat (zmin (Int.ofNat (zhl k0)) (Int.ofNat (zhl k1))))) k1 12)) k0 13 ((zset (zcp (zcp (zcp (zcp (zcp (zcp (zcp (zcp (zcp (zcp (zcp σ (k1 + 1) 0 (k0 + 1) 0 72) (k1 + 3) 0 (k0 + 3) 0 6) (k1 + 4) 0 (k0 + 4) 0 6) (k1 + 5) 0 (k0 + 5) 0 6) (k1 + 6) 0 (k0 + 6) 0 6) (k1 + 7) 0 (k0 + 7) 0 6) (k1 + 8) 0 (k0 + 8) 0 6) (k1 + 9) 0 (k0 + 9) 0 6) (k1 + 10) 0 (k0 + 10) 0 6) (k1 + 11) 0 (k0 + 11) 0 6) (k1 + 12) 0 (k0 + 12) 0 (Int.toNat (zmin (Int.ofNat (zhl k0)) (Int.ofNat (zhl k1))))) k0 12 ((zcp (zcp (zcp (zcp (zcp (zcp (zcp (zcp (zcp (zcp (zcp σ (k1 + 1) 0 (k0 + 1) 0 72) (k1 + 3) 0 (k0 + 3) 0 6) (k1 + 4) 0 (k0 + 4) 0 6) (k1 + 5) 0 (k0 + 5) 0 6) (k1 + 6) 0 (k0 + 6) 0 6) (k1 + 7) 0 (k0 + 7) 0 6) (k1 + 8) 0 (k0 + 8) 0 6) (k1 + 9) 0 (k0 + 9) 0 6) (k1 + 10) 0 (k0 + 10) 0 6) (k1 + 11) 0 (k0 + 11) 0 6) (k1 + 12) 0 (k0 + 12) 0 (Int.toNat (zmin (Int.ofNat (zhl k0)) (Int.ofNat (zhl k1))))) k1 12)) k1 13)) k0 14 ((zset (zset (zcp (zcp (zcp (zcp (zcp (zcp (zcp (zcp (zcp (zcp (zcp σ (k1 + 1) 0 (k0 + 1) 0 72) (k1 + 3) 0 (k0 + 3) 0 6) (k1 + 4) 0 (k0 + 4) 0 6) (k1 + 5) 0 (k0 + 5) 0 6) (k1 + 6) 0 (k0 + 6) 0 6) (k1 + 7) 0 (k0 + 7) 0 6) (k1 + 8) 0 (k0 + 8) 0 6) (k1 + 9) 0 (k0 + 9) 0 6) (k1 + 10) 0 (k0 + 10) 0 6) (k1 + 11) 0 (k0 + 11) 0 6) (k1 + 12) 0 (k0 + 12) 0 (Int.toNat (zmin (Int.ofNat (zhl k0)) (Int.ofNat (zhl k1))))) k0 12 ((zcp (zcp (zcp (zcp (zcp (zcp (zcp (zcp (zcp (zcp (zcp σ (k1 + 1) 0 (k0 + 1) 0 72) (k1 + 3) 0 (k0 + 3) 0 6) (k1 + 4) 0 (k0 + 4) 0 6) (k1 + 5) 0 (k0 + 5) 0 6) (k1 + 6) 0 (k0 + 6) 0 6) (k1 + 7) 0 (k0 + 7) 0 6) (k1 + 8) 0 (k0 + 8) 0 6) (k1 + 9) 0 (k0 + 9) 0 6) (k1 + 10) 0 (k0 + 10) 0 6) (k1 + 11) 0 (k0 + 11) 0 6) (k1 + 12) 0 (k0 + 12) 0 (Int.toNat (zmin (Int.ofNat (zhl k0)) (Int.ofNat (zhl k1))))) k1 12)) k0 13 ((zset (zcp (zcp (zcp (zcp (zcp (zcp (zcp (zcp (zcp (zcp (zcp σ (k1 + 1) 0 (k0 + 1) 0 72) (k1 + 3) 0 (k0 + 3) 0 6) (k1 + 4) 0 (k0 + 4) 0 6) (k1 + 5) 0 (k0 + 5) 0 6) (k1 + 6) 0 (k0 + 6) 0 6) (k1 + 7) 0 (k0 + 7) 0 6) (k1 + 8) 0 (k0 + 8) 0 6) (k1 + 9) 0 (k0 + 9) 0 6) (k1 + 10) 0 (k0 + 10) 0 6) (k1 + 11) 0 (k0 + 11) 0 6) (k1 + 12) 0 (k0 + 12) 0 (Int.toNat (zmin (Int.ofNat (zhl k0)) (Int.ofNat (zhl k1))))) k0 12 ((zcp (zcp (zcp (zcp (zcp (zcp (zcp (zcp (zcp (zcp (zcp σ (k1 + 1) 0 (k0 + 1) 0 72) (k1 + 3) 0 (k0 + 3) 0 6) (k1 + 4) 0 (k0 + 4) 0 6) (k1 + 5) 0 (k0 + 5) 0 6) (k1 + 6) 0 (k0 + 6) 0 6) (k1 + 7) 0 (k0 + 7) 0 6) (k1 + 8) 0 (k0 + 8) 0 6) (k1 + 9) 0 (k0 + 9) 0 6) (k1 + 10) 0 (k0 + 10) 0 6) (k1 + 11) 0 (k0 + 11) 0 6) (k1 + 12) 0 (k0 + 12) 0 (Int.toNat (zmin (Int.ofNat (zhl k0)) (Int.ofNat (zhl k1))))) k1 12)) k1 13)) k1 14)) k1 15), 0)
  else none := (zsem_eq _ _ _ _ _ _).trans rfl
set_option maxRecDepth 100000 in
theorem e_Stream_daysLeft (σ : zH) (k0 : Nat) : f_Stream_daysLeft σ k0 =
  some (σ, w32 (400 - (σ k0 12))) := (zsem_eq _ _ _ _ _ _).trans rfl
set_option maxRecDepth 100000 in
theorem e_Stream_isAwake (σ : zH) (k0 : Nat) (x1 : Int) : f_Stream_isAwake σ k0 x1 =
  if ¬ (zand (zushr (σ k0 13) x1) 1) = 1 then
    some (σ, 0)
  else
    some (σ, 1) := (zsem_eq _ _ _ _ _ _).trans rfl
set_option maxRecDepth 100000 in
theorem e_Stream_toggle (σ : zH) (k0 : Nat) (x1 : Int) : f_Stream_toggle σ k0 x1 =
  some (zset σ k0 13 (zxor (σ k0 13) (zshl 1 x1)), 0) := (zsem_eq _ _ _ _ _ _).trans rfl
set_option maxRecDepth 100000 in
theorem e_Stream_onTheirWay (σ : zH) (k0 : Nat) : f_Stream_onTheirWay σ k0 =
  f_Stream_onTheirWay_13 σ 0 (k0 + 1) 72 0 := (zsem_eq _ _ _ _ _ _).trans rfl
set_option maxRecDepth 100000 in
theorem e_Stream_onTheirWay_13 (σ : zH) (x1 : Int) (k2 : Nat) (x3 : Int) (x4 : Int) : f_Stream_onTheirWay_13 σ x1 k2 x3 x4 =
  if x3 ≤ x4 then
    some (σ, x1)
  else
    if zin x4 72 = true then
      if (σ k2 (Int.toNat x4)) = (-1) then
        f_Stream_onTheirWay_13 σ x1 k2 x3 (w32 (x4 + 1))
      else
        f_Stream_onTheirWay_13 σ (w32 (x1 + 1)) k2 x3 (w32 (x4 + 1))
    else none := (zsem_eq _ _ _ _ _ _).trans rfl
set_option maxRecDepth 100000 in
theorem e_Stream_cellOf (σ : zH) (k0 : Nat) (k1 : Nat) (x2 : Int) (x3 : Int) : f_Stream_cellOf σ k0 k1 x2 x3 =
  if zin x2 8 = true then
    if 0 < (σ (k1 + 3) (Int.toNat x2)) then
      if znz (σ (k1 + 3) (Int.toNat x2)) = true then
        if 0 ≤ (w32 (x3 - (Int.tmod (σ k0 12) (σ (k1 + 3) (Int.toNat x2))))) then
          some (σ, w32 ((w32 (x2 * 9)) + (w32 (x3 - (Int.tmod (σ k0 12) (σ (k1 + 3) (Int.toNat x2)))))))
        else
          some (σ, w32 ((w32 (x2 * 9)) + (w32 ((w32 (x3 - (Int.tmod (σ k0 12) (σ (k1 + 3) (Int.toNat x2))))) + (σ (k1 + 3) (Int.toNat x2))))))
      else none
    else
      some (σ, 0)
  else none := (zsem_eq _ _ _ _ _ _).trans rfl
set_option maxRecDepth 100000 in
theorem e_Stream_termAt (σ : zH) (k0 : Nat) (k1 : Nat) (x2 : Int) (x3 : Int) : f_Stream_termAt σ k0 k1 x2 x3 =
  (f_Stream_cellOf σ k0 k1 x2 x3).bind fun r1 =>
  if zin r1.2 72 = true then
    some (r1.1, r1.1 (k0 + 1) (Int.toNat r1.2))
  else none := (zsem_eq _ _ _ _ _ _).trans rfl
set_option maxRecDepth 100000 in
theorem e_Stream_put (σ : zH) (k0 : Nat) (k1 : Nat) (x2 : Int) (x3 : Int) (x4 : Int) : f_Stream_put σ k0 k1 x2 x3 x4 =
  (f_Stream_cellOf σ k0 k1 x2 x3).bind fun r1 =>
  if zin r1.2 72 = true then
    some (zset r1.1 (k0 + 1) (Int.toNat r1.2) x4, 0)
  else none := (zsem_eq _ _ _ _ _ _).trans rfl
set_option maxRecDepth 100000 in
theorem e_Stream_readOn (σ : zH) (k0 : Nat) (x1 : Int) (x2 : Int) : f_Stream_readOn σ k0 x1 x2 =
  if zin x2 (zhl k0) = true then
    some (σ, w32 ((zand (zushr (σ (k0 + 12) (Int.toNat x2)) (w32 (x1 * 4))) 15) - 1))
  else none := (zsem_eq _ _ _ _ _ _).trans rfl
set_option maxRecDepth 100000 in
theorem e_Stream_pass (σ : zH) (k0 : Nat) (k1 : Nat) (x2 : Int) : f_Stream_pass σ k0 k1 x2 =
  (f_Stream_daysLeft σ k0).bind fun r1 =>
  f_Stream_pass_12 r1.1 k0 k1 (zmin x2 r1.2) 0 := (zsem_eq _ _ _ _ _ _).trans rfl
set_option maxRecDepth 100000 in
theorem e_Stream_pass_12 (σ : zH) (k0 : Nat) (k1 : Nat) (x3 : Int) (x4 : Int) : f_Stream_pass_12 σ k0 k1 x3 x4 =
  if x3 ≤ x4 then
    some (σ, 0)
  else
    (f_Stream_passDay σ k0 k1).bind fun r1 =>
    f_Stream_pass_12 r1.1 k0 k1 x3 (w32 (x4 + 1)) := (zsem_eq _ _ _ _ _ _).trans rfl
set_option maxRecDepth 100000 in
theorem e_Stream_passDrawnDay (σ : zH) (k0 : Nat) (k1 : Nat) : f_Stream_passDrawnDay σ k0 k1 =
  (f_Dice_draw σ 4).bind fun r1 =>
  if ¬ r1.2 = 0 then
    (f_Stream_passDay r1.1 k0 k1).bind fun r2 =>
    some (r2.1, 0)
  else
    (f_Dice_draw r1.1 (r1.1 k1 14)).bind fun r3 =>
    if zin r3.2 8 = true then
      (f_Dice_draw r3.1 (r3.1 (k1 + 3) (Int.toNat r3.2))).bind fun r4 =>
      (f_Dice_draw r4.1 (w32 ((r4.1 k1 13) + 1))).bind fun r5 =>
      (f_Country_hasTerm r5.1 k1 r5.2).bind fun r6 =>
      if r6.2 = 0 then
        (f_Stream_put r6.1 k0 k1 r3.2 r4.2 (-1)).bind fun r7 =>
        (f_Stream_passDay (zset r7.1 352 1 (w32 ((r7.1 352 1) + 1))) k0 k1).bind fun r8 =>
        some (r8.1, 0)
      else
        (f_Stream_put r6.1 k0 k1 r3.2 r4.2 r5.2).bind fun r9 =>
        (f_Stream_passDay (zset r9.1 352 1 (w32 ((r9.1 352 1) + 1))) k0 k1).bind fun r10 =>
        some (r10.1, 0)
    else none := (zsem_eq _ _ _ _ _ _).trans rfl
set_option maxRecDepth 100000 in
theorem e_Stream_passDay (σ : zH) (k0 : Nat) (k1 : Nat) : f_Stream_passDay σ k0 k1 =
  f_Stream_passDay_7 σ k0 k1 (σ k0 12) 0 := (zsem_eq _ _ _ _ _ _).trans rfl
set_option maxRecDepth 100000 in
theorem e_Stream_passDay_7 (σ : zH) (k0 : Nat) (k1 : Nat) (x2 : Int) (x3 : Int) : f_Stream_passDay_7 σ k0 k1 x2 x3 =
  if (σ k1 14) ≤ x3 then
    f_Stream_passDay_75 (zset σ k0 12 (w32 ((σ k0 12) + 1))) k0 k1 x2 0
  else
    if zin x3 8 = true then
      (f_Stream_cellOf σ k0 k1 x3 (w32 ((σ (k1 + 3) (Int.toNat x3)) - 1))).bind fun r1 =>
      if zin r1.2 72 = true then
        if zin x3 8 = true then
          (f_Country_saidOn (zset r1.1 (k0 + 2) (Int.toNat x3) (r1.1 (k0 + 1) (Int.toNat r1.2))) k1 x3 x2).bind fun r2 =>
          if zin r1.2 72 = true then
            f_Stream_passDay_7 (zset r2.1 (k0 + 1) (Int.toNat r1.2) r2.2) k0 k1 x2 (w32 (x3 + 1))
          else none
        else none
      else none
    else none := (zsem_eq _ _ _ _ _ _).trans rfl
set_option maxRecDepth 100000 in
theorem e_Stream_passDay_75 (σ : zH) (k0 : Nat) (k1 : Nat) (x2 : Int) (x3 : Int) : f_Stream_passDay_75 σ k0 k1 x2 x3 =
  if (σ k1 14) ≤ x3 then
    f_Stream_passDay_118 σ k0 k1 x2 0
  else
    if zin x3 8 = true then
      if (σ (k0 + 2) (Int.toNat x3)) = (-1) then
        f_Stream_passDay_75 σ k0 k1 x2 (w32 (x3 + 1))
      else
        if zin x3 8 = true then
          if zin x3 8 = true then
            (f_Stream_carry σ k0 k1 (σ (k0 + 2) (Int.toNat x3)) (σ (k1 + 4) (Int.toNat x3))).bind fun r1 =>
            f_Stream_passDay_75 r1.1 k0 k1 x2 (w32 (x3 + 1))
          else none
        else none
    else none := (zsem_eq _ _ _ _ _ _).trans rfl
set_option maxRecDepth 100000 in
theorem e_Stream_passDay_118 (σ : zH) (k0 : Nat) (k1 : Nat) (x2 : Int) (x3 : Int) : f_Stream_passDay_118 σ k0 k1 x2 x3 =
  if (σ k1 15) ≤ x3 then
    (f_Stream_readInTowns σ k0 k1 x2).bind fun r1 =>
    some (r1.1, 0)
  else
    (f_Stream_isAwake σ k0 x3).bind fun r2 =>
    if r2.2 = 0 then
      f_Stream_passDay_118 r2.1 k0 k1 x2 (w32 (x3 + 1))
    else
      (f_Stream_edit r2.1 k0 k1 x3).bind fun r3 =>
      f_Stream_passDay_118 r3.1 k0 k1 x2 (w32 (x3 + 1)) := (zsem_eq _ _ _ _ _ _).trans rfl
set_option maxRecDepth 100000 in
theorem e_Stream_carry (σ : zH) (k0 : Nat) (k1 : Nat) (x2 : Int) (x3 : Int) : f_Stream_carry σ k0 k1 x2 x3 =
  if ¬ x3 = (-1) then
    (f_Stream_termAt σ k0 k1 x3 0).bind fun r1 =>
    if ¬ r1.2 = (-1) then
      if r1.2 = x2 then
        some (r1.1, 0)
      else
        some (zset r1.1 k0 14 (w32 ((r1.1 k0 14) + 1)), 0)
    else
      (f_Stream_put r1.1 k0 k1 x3 0 x2).bind fun r2 =>
      some (r2.1, 0)
  else
    some (zset σ k0 15 (w32 ((σ k0 15) + 1)), 0) := (zsem_eq _ _ _ _ _ _).trans rfl
set_option maxRecDepth 100000 in
theorem e_Stream_edit (σ : zH) (k0 : Nat) (k1 : Nat) (x2 : Int) : f_Stream_edit σ k0 k1 x2 =
  if zin x2 6 = true then
    if zin x2 6 = true then
      (f_Stream_cellOf σ k0 k1 (σ (k1 + 8) (Int.toNat x2)) (σ (k1 + 9) (Int.toNat x2))).bind fun r1 =>
      if zin r1.2 72 = true then
        if ¬ (r1.1 (k0 + 1) (Int.toNat r1.2)) = (-1) then
          (f_Country_madeBy r1.1 k1 x2 (r1.1 (k0 + 1) (Int.toNat r1.2))).bind fun r2 =>
          if ¬ r2.2 = (-1) then
            if r2.2 = (r1.1 (k0 + 1) (Int.toNat r1.2)) then
              if zin r1.2 72 = true then
                some (zset r2.1 (k0 + 1) (Int.toNat r1.2) r2.2, 0)
              else none
            else
              if zin x2 6 = true then
                if zin x2 6 = true then
                  if zin r1.2 72 = true then
                    some (zset (zset r2.1 (k0 + 4) (Int.toNat x2) (w32 ((r2.1 (k0 + 4) (Int.toNat x2)) + 1))) (k0 + 1) (Int.toNat r1.2) r2.2, 0)
                  else none
                else none
              else none
          else
            if zin x2 6 = true then
              if zin x2 6 = true then
                if zin r1.2 72 = true then
                  some (zset (zset r2.1 (k0 + 3) (Int.toNat x2) (w32 ((r2.1 (k0 + 3) (Int.toNat x2)) + 1))) (k0 + 1) (Int.toNat r1.2) r2.2, 0)
                else none
              else none
            else none
        else
          some (r1.1, 0)
      else none
    else none
  else none := (zsem_eq _ _ _ _ _ _).trans rfl
set_option maxRecDepth 100000 in
theorem e_Stream_readInTowns (σ : zH) (k0 : Nat) (k1 : Nat) (x2 : Int) : f_Stream_readInTowns σ k0 k1 x2 =
  f_Stream_readInTowns_5 σ k0 k1 x2 0 0 := (zsem_eq _ _ _ _ _ _).trans rfl
set_option maxRecDepth 100000 in
theorem e_Stream_readInTowns_5 (σ : zH) (k0 : Nat) (k1 : Nat) (x2 : Int) (x3 : Int) (x4 : Int) : f_Stream_readInTowns_5 σ k0 k1 x2 x3 x4 =
  if (σ k1 17) ≤ x4 then
    if (Int.ofNat (zhl k0)) ≤ x2 then
      some (σ, 0)
    else
      if zin x2 (zhl k0) = true then
        some (zset σ (k0 + 12) (Int.toNat x2) x3, 0)
      else none
  else
    if zin x4 6 = true then
      if zin x4 6 = true then
        (f_Stream_termAt σ k0 k1 (σ (k1 + 11) (Int.toNat x4)) (σ (k1 + 12) (Int.toNat x4))).bind fun r1 =>
        if zin x4 6 = true then
          if r1.2 = (-1) then
            f_Stream_readInTowns_5 (zset r1.1 (k0 + 5) (Int.toNat x4) r1.2) k0 k1 x2 (zor x3 (zshl (w32 (r1.2 + 1)) (w32 (x4 * 4)))) (w32 (x4 + 1))
          else
            (f_Stream_noteTerm (zset r1.1 (k0 + 5) (Int.toNat x4) r1.2) k0 k1 x4 r1.2 x2).bind fun r2 =>
            f_Stream_readInTowns_5 r2.1 k0 k1 x2 (zor x3 (zshl (w32 (r1.2 + 1)) (w32 (x4 * 4)))) (w32 (x4 + 1))
        else none
      else none
    else none := (zsem_eq _ _ _ _ _ _).trans rfl
set_option maxRecDepth 100000 in
theorem e_Stream_noteTerm (σ : zH) (k0 : Nat) (k1 : Nat) (x2 : Int) (x3 : Int) (x4 : Int) : f_Stream_noteTerm σ k0 k1 x2 x3 x4 =
  if zin x2 6 = true then
    if zin x2 6 = true then
      (f_Country_likes (zset σ (k0 + 6) (Int.toNat x2) (w32 ((σ (k0 + 6) (Int.toNat x2)) + 1))) k1 x2 x3).bind fun r1 =>
      if r1.2 = 0 then
        if zin x2 6 = true then
          if ¬ (r1.1 (k0 + 8) (Int.toNat x2)) = (-1) then
            f_Stream_noteTerm_47 r1.1 k0 k1 x2 x3 x4
          else
            if zin x2 6 = true then
              f_Stream_noteTerm_47 (zset r1.1 (k0 + 8) (Int.toNat x2) x4) k0 k1 x2 x3 x4
            else none
        else none
      else
        if zin x2 6 = true then
          if zin x2 6 = true then
            if zin x2 6 = true then
              if ¬ ((zset r1.1 (k0 + 7) (Int.toNat x2) (w32 ((r1.1 (k0 + 7) (Int.toNat x2)) + 1))) (k0 + 8) (Int.toNat x2)) = (-1) then
                f_Stream_noteTerm_47 (zset r1.1 (k0 + 7) (Int.toNat x2) (w32 ((r1.1 (k0 + 7) (Int.toNat x2)) + 1))) k0 k1 x2 x3 x4
              else
                if zin x2 6 = true then
                  f_Stream_noteTerm_47 (zset (zset r1.1 (k0 + 7) (Int.toNat x2) (w32 ((r1.1 (k0 + 7) (Int.toNat x2)) + 1))) (k0 + 8) (Int.toNat x2) x4) k0 k1 x2 x3 x4
                else none
            else none
          else none
        else none
    else none
  else none := (zsem_eq _ _ _ _ _ _).trans rfl
set_option maxRecDepth 100000 in
theorem e_Stream_noteTerm_47 (σ : zH) (k0 : Nat) (k1 : Nat) (x2 : Int) (x3 : Int) (x4 : Int) : f_Stream_noteTerm_47 σ k0 k1 x2 x3 x4 =
  if zin x2 6 = true then
    if ¬ (σ (k0 + 10) (Int.toNat x2)) = (-1) then
      some (σ, 0)
    else
      if zin x3 10 = true then
        (f_Stream_goOnSaying σ k0 x2 (σ (k1 + 2) (Int.toNat x3)) x4).bind fun r1 =>
        some (r1.1, 0)
      else none
  else none := (zsem_eq _ _ _ _ _ _).trans rfl
set_option maxRecDepth 100000 in
theorem e_Stream_goOnSaying (σ : zH) (k0 : Nat) (x1 : Int) (x2 : Int) (x3 : Int) : f_Stream_goOnSaying σ k0 x1 x2 x3 =
  if zin x1 6 = true then
    if zin (w32 ((w32 ((σ (k0 + 9) (Int.toNat x1)) * 4)) + x2)) 20 = true then
      if ¬ (zss (Int.toNat (w32 ((w32 ((σ (k0 + 9) (Int.toNat x1)) * 4)) + x2)))) = (-1) then
        if zin x1 6 = true then
          if ¬ x2 = 3 then
            some (zset σ (k0 + 9) (Int.toNat x1) (zss (Int.toNat (w32 ((w32 ((σ (k0 + 9) (Int.toNat x1)) * 4)) + x2)))), 0)
          else
            if zin x1 6 = true then
              if zin x1 6 = true then
                some (zset (zset σ (k0 + 9) (Int.toNat x1) (zss (Int.toNat (w32 ((w32 ((σ (k0 + 9) (Int.toNat x1)) * 4)) + x2))))) (k0 + 11) (Int.toNat x1) (w32 (((zset σ (k0 + 9) (Int.toNat x1) (zss (Int.toNat (w32 ((w32 ((σ (k0 + 9) (Int.toNat x1)) * 4)) + x2))))) (k0 + 11) (Int.toNat x1)) + 1)), 0)
              else none
            else none
        else none
      else
        if zin x1 6 = true then
          some (zset σ (k0 + 10) (Int.toNat x1) x3, 0)
        else none
    else none
  else none := (zsem_eq _ _ _ _ _ _).trans rfl
set_option maxRecDepth 100000 in
theorem e_Tape_take (σ : zH) (x1 : Int) : f_Tape_take σ x1 =
  f_Tape_take_3 σ x1 24 := (zsem_eq _ _ _ _ _ _).trans rfl
set_option maxRecDepth 100000 in
theorem e_Tape_take_3 (σ : zH) (x1 : Int) (x2 : Int) : f_Tape_take_3 σ x1 x2 =
  if x2 < 0 then
    some (σ, 0)
  else
    if 940 ≤ (σ 64 1) then
      f_Tape_take_3 σ x1 (w32 (x2 + (-8)))
    else
      if zin (σ 64 1) 940 = true then
        f_Tape_take_3 (zset (zset σ 65 (Int.toNat (σ 64 1)) (zand (zushr x1 x2) 255)) 64 1 (w32 (((zset σ 65 (Int.toNat (σ 64 1)) (zand (zushr x1 x2) 255)) 64 1) + 1))) x1 (w32 (x2 + (-8)))
      else none := (zsem_eq _ _ _ _ _ _).trans rfl
set_option maxRecDepth 100000 in
theorem e_Tape_termOf (σ : zH) (x1 : Int) : f_Tape_termOf σ x1 =
  if zin x1 940 = true then
    if ¬ (σ 65 (Int.toNat x1)) = 255 then
      if zin x1 940 = true then
        some (σ, σ 65 (Int.toNat x1))
      else none
    else
      some (σ, (-1))
  else none := (zsem_eq _ _ _ _ _ _).trans rfl
set_option maxRecDepth 100000 in
theorem e_Tape_open (σ : zH) (x1 : Int) : f_Tape_open σ x1 =
  (f_Tape_advance (zset (zset (zset (zset σ 64 2 x1) 64 3 0) 64 9 0) 64 10 0)).bind fun r1 =>
  some (r1.1, 0) := (zsem_eq _ _ _ _ _ _).trans rfl
set_option maxRecDepth 100000 in
theorem e_Tape_advance (σ : zH)  : f_Tape_advance σ  =
  f_Tape_advance_12 σ (zmin (σ 64 1) (σ 64 2)) := (zsem_eq _ _ _ _ _ _).trans rfl
set_option maxRecDepth 100000 in
theorem e_Tape_advance_12 (σ : zH) (x1 : Int) : f_Tape_advance_12 σ x1 =
  if x1 ≤ (σ 64 3) then
    f_Tape_advance_61 σ
  else
    if zin (σ 64 3) 940 = true then
      if (σ 65 (Int.toNat (σ 64 3))) = 32 then
        f_Tape_advance_12 (zset σ 64 3 (w32 ((σ 64 3) + 1))) x1
      else
        if zin (σ 64 3) 940 = true then
          if ¬ (σ 65 (Int.toNat (σ 64 3))) = 10 then
            f_Tape_advance_61 σ
          else
            f_Tape_advance_12 (zset σ 64 3 (w32 ((σ 64 3) + 1))) x1
        else none
    else none := (zsem_eq _ _ _ _ _ _).trans rfl
set_option maxRecDepth 100000 in
theorem e_Tape_advance_61 (σ : zH)  : f_Tape_advance_61 σ  =
  if ((zset (zset σ 64 6 (-1)) 64 5 ((zset σ 64 6 (-1)) 64 3)) 64 3) < ((zset (zset σ 64 6 (-1)) 64 5 ((zset σ 64 6 (-1)) 64 3)) 64 2) then
    f_Tape_advance_112 (zset (zset σ 64 6 (-1)) 64 5 ((zset σ 64 6 (-1)) 64 3))
  else
    if ((zset (zset σ 64 6 (-1)) 64 5 ((zset σ 64 6 (-1)) 64 3)) 64 1) ≤ ((zset (zset σ 64 6 (-1)) 64 5 ((zset σ 64 6 (-1)) 64 3)) 64 2) then
      f_Tape_advance_112 (zset (zset σ 64 6 (-1)) 64 5 ((zset σ 64 6 (-1)) 64 3))
    else
      if ¬ ((zset (zset (zset (zset σ 64 6 (-1)) 64 5 ((zset σ 64 6 (-1)) 64 3)) 64 4 1) 64 5 ((zset (zset (zset σ 64 6 (-1)) 64 5 ((zset σ 64 6 (-1)) 64 3)) 64 4 1) 64 2)) 64 4) = 2 then
        some (zset (zset (zset (zset σ 64 6 (-1)) 64 5 ((zset σ 64 6 (-1)) 64 3)) 64 4 1) 64 5 ((zset (zset (zset σ 64 6 (-1)) 64 5 ((zset σ 64 6 (-1)) 64 3)) 64 4 1) 64 2), 0)
      else
        (f_Tape_findKey (zset (zset (zset (zset σ 64 6 (-1)) 64 5 ((zset σ 64 6 (-1)) 64 3)) 64 4 1) 64 5 ((zset (zset (zset σ 64 6 (-1)) 64 5 ((zset σ 64 6 (-1)) 64 3)) 64 4 1) 64 2))).bind fun r1 =>
        some (r1.1, 0) := (zsem_eq _ _ _ _ _ _).trans rfl
set_option maxRecDepth 100000 in
theorem e_Tape_advance_112 (σ : zH)  : f_Tape_advance_112 σ  =
  if (σ 64 3) < (σ 64 1) then
    (f_Tape_scanToken σ).bind fun r1 =>
    if ¬ (r1.1 64 4) = 2 then
      some (r1.1, 0)
    else
      (f_Tape_findKey r1.1).bind fun r2 =>
      some (r2.1, 0)
  else
    if ¬ ((zset σ 64 4 0) 64 4) = 2 then
      some (zset σ 64 4 0, 0)
    else
      (f_Tape_findKey (zset σ 64 4 0)).bind fun r3 =>
      some (r3.1, 0) := (zsem_eq _ _ _ _ _ _).trans rfl
set_option maxRecDepth 100000 in
theorem e_Tape_scanToken (σ : zH)  : f_Tape_scanToken σ  =
  f_Tape_scanToken_14 (zset (zset σ 64 8 0) 64 7 0) 0 0 := (zsem_eq _ _ _ _ _ _).trans rfl
set_option maxRecDepth 100000 in
theorem e_Tape_scanToken_14 (σ : zH) (x1 : Int) (x2 : Int) : f_Tape_scanToken_14 σ x1 x2 =
  if (σ 64 1) ≤ (σ 64 3) then
    f_Tape_scanToken_111 σ x1 x2
  else
    if zin (σ 64 3) 940 = true then
      if (σ 65 (Int.toNat (σ 64 3))) < 97 then
        f_Tape_scanToken_67 σ x1 x2 (σ 65 (Int.toNat (σ 64 3)))
      else
        if 122 < (σ 65 (Int.toNat (σ 64 3))) then
          f_Tape_scanToken_67 σ x1 x2 (σ 65 (Int.toNat (σ 64 3)))
        else
          f_Tape_scanToken_14 (zset (zset σ 64 8 (zlor (zlshl (σ 64 8) 8) (σ 65 (Int.toNat (σ 64 3))))) 64 3 (w32 (((zset σ 64 8 (zlor (zlshl (σ 64 8) 8) (σ 65 (Int.toNat (σ 64 3))))) 64 3) + 1))) (w32 (x1 + 1)) x2
    else none := (zsem_eq _ _ _ _ _ _).trans rfl
set_option maxRecDepth 100000 in
theorem e_Tape_scanToken_67 (σ : zH) (x1 : Int) (x2 : Int) (x3 : Int) : f_Tape_scanToken_67 σ x1 x2 x3 =
  if x3 < 48 then
    f_Tape_scanToken_111 σ x1 x2
  else
    if 57 < x3 then
      f_Tape_scanToken_111 σ x1 x2
    else
      f_Tape_scanToken_14 (zset (zset σ 64 7 (w32 ((w32 ((w32 ((σ 64 7) * 10)) + x3)) - 48))) 64 3 (w32 (((zset σ 64 7 (w32 ((w32 ((w32 ((σ 64 7) * 10)) + x3)) - 48))) 64 3) + 1))) x1 (w32 (x2 + 1)) := (zsem_eq _ _ _ _ _ _).trans rfl
set_option maxRecDepth 100000 in
theorem e_Tape_scanToken_111 (σ : zH) (x1 : Int) (x2 : Int) : f_Tape_scanToken_111 σ x1 x2 =
  if ¬ (w32 (x1 + x2)) = 0 then
    if ¬ x2 = 0 then
      f_Tape_scanToken_215 σ x1 x2
    else
      if 7 < x1 then
        f_Tape_scanToken_215 σ x1 x2
      else
        some (zset σ 64 4 2, 0)
  else
    if zin (σ 64 3) 940 = true then
      if (σ 65 (Int.toNat (σ 64 3))) = 59 then
        f_Tape_scanToken_168 σ (σ 65 (Int.toNat (σ 64 3))) 1
      else
        if (σ 65 (Int.toNat (σ 64 3))) < 60 then
          f_Tape_scanToken_145 σ (σ 65 (Int.toNat (σ 64 3)))
        else
          if (σ 65 (Int.toNat (σ 64 3))) ≤ 62 then
            f_Tape_scanToken_168 σ (σ 65 (Int.toNat (σ 64 3))) 1
          else
            f_Tape_scanToken_145 σ (σ 65 (Int.toNat (σ 64 3)))
    else none := (zsem_eq _ _ _ _ _ _).trans rfl
set_option maxRecDepth 100000 in
theorem e_Tape_scanToken_145 (σ : zH) (x3 : Int) : f_Tape_scanToken_145 σ x3 =
  if x3 = 40 then
    f_Tape_scanToken_168 σ x3 1
  else
    if x3 = 41 then
      f_Tape_scanToken_168 σ x3 1
    else
      if ¬ x3 = 46 then
        f_Tape_scanToken_168 σ x3 0
      else
        f_Tape_scanToken_168 σ x3 1 := (zsem_eq _ _ _ _ _ _).trans rfl
set_option maxRecDepth 100000 in
theorem e_Tape_scanToken_168 (σ : zH) (x3 : Int) (s0 : Int) : f_Tape_scanToken_168 σ x3 s0 =
  if s0 = 0 then
    some (zset (zset σ 64 4 1) 64 3 (w32 (((zset σ 64 4 1) 64 3) + 1)), 0)
  else
    some (zset (zset σ 64 4 x3) 64 3 (w32 (((zset σ 64 4 x3) 64 3) + 1)), 0) := (zsem_eq _ _ _ _ _ _).trans rfl
set_option maxRecDepth 100000 in
theorem e_Tape_scanToken_215 (σ : zH) (x1 : Int) (x2 : Int) : f_Tape_scanToken_215 σ x1 x2 =
  if ¬ x1 = 0 then
    some (zset σ 64 4 1, 0)
  else
    if 3 < x2 then
      some (zset σ 64 4 1, 0)
    else
      some (zset σ 64 4 3, 0) := (zsem_eq _ _ _ _ _ _).trans rfl
set_option maxRecDepth 100000 in
theorem e_Tape_findKey (σ : zH)  : f_Tape_findKey σ  =
  f_Tape_findKey_2 σ 0 := (zsem_eq _ _ _ _ _ _).trans rfl
set_option maxRecDepth 100000 in
theorem e_Tape_findKey_2 (σ : zH) (x1 : Int) : f_Tape_findKey_2 σ x1 =
  if 26 ≤ x1 then
    some (σ, 0)
  else
    if zin x1 26 = true then
      if ¬ (zcmp (zkw (Int.toNat x1)) (σ 64 8)) = 0 then
        f_Tape_findKey_2 σ (w32 (x1 + 1))
      else
        some (zset σ 64 6 x1, 0)
    else none := (zsem_eq _ _ _ _ _ _).trans rfl
set_option maxRecDepth 100000 in
theorem e_Tape_fail (σ : zH) (x1 : Int) : f_Tape_fail σ x1 =
  some (zset (zset σ 64 9 x1) 64 10 ((zset σ 64 9 x1) 64 5), 0) := (zsem_eq _ _ _ _ _ _).trans rfl
set_option maxRecDepth 100000 in
theorem e_Tape_passes (σ : zH) (x1 : Int) : f_Tape_passes σ x1 =
  if (σ 64 4) = x1 then
    (f_Tape_advance σ).bind fun r1 =>
    some (r1.1, 1)
  else
    (f_Tape_fail σ 1).bind fun r2 =>
    some (r2.1, r2.2) := (zsem_eq _ _ _ _ _ _).trans rfl
set_option maxRecDepth 100000 in
theorem e_Tape_isName (σ : zH)  : f_Tape_isName σ  =
  if ¬ (σ 64 4) = 2 then
    some (σ, 0)
  else
    if ¬ (σ 64 6) = (-1) then
      some (σ, 0)
    else
      some (σ, 1) := (zsem_eq _ _ _ _ _ _).trans rfl
set_option maxRecDepth 100000 in
theorem e_Tape_isNewName (σ : zH) (k1 : Nat) : f_Tape_isNewName σ k1 =
  (f_Tape_isName σ).bind fun r1 =>
  if ¬ r1.2 = 0 then
    (f_Names_find r1.1 k1 (r1.1 64 8)).bind fun r2 =>
    if r2.2 = (-1) then
      some (r2.1, 1)
    else
      (f_Tape_fail r2.1 3).bind fun r3 =>
      if r3.2 = 0 then
        some (r3.1, 0)
      else
        some (r3.1, 1)
  else
    (f_Tape_fail r1.1 1).bind fun r4 =>
    some (r4.1, r4.2) := (zsem_eq _ _ _ _ _ _).trans rfl
set_option maxRecDepth 100000 in
theorem e_Tape_toldName (σ : zH) (k1 : Nat) (x2 : Int) : f_Tape_toldName σ k1 x2 =
  (f_Tape_isName σ).bind fun r1 =>
  if ¬ r1.2 = 0 then
    (f_Names_find r1.1 k1 (r1.1 64 8)).bind fun r2 =>
    if r2.2 = (-1) then
      (f_Tape_fail r2.1 3).bind fun r3 =>
      some (r3.1, (-1))
    else
      if zin r2.2 30 = true then
        if (r2.1 (k1 + 2) (Int.toNat r2.2)) = x2 then
          if zin r2.2 30 = true then
            some (r2.1, r2.1 (k1 + 3) (Int.toNat r2.2))
          else none
        else
          (f_Tape_fail r2.1 3).bind fun r4 =>
          some (r4.1, (-1))
      else none
  else
    (f_Tape_fail r1.1 1).bind fun r5 =>
    some (r5.1, (-1)) := (zsem_eq _ _ _ _ _ _).trans rfl
set_option maxRecDepth 100000 in
theorem e_Tape_isNumber (σ : zH) (x1 : Int) (x2 : Int) : f_Tape_isNumber σ x1 x2 =
  if (σ 64 4) = 3 then
    if (σ 64 7) < x1 then
      (f_Tape_fail σ 2).bind fun r1 =>
      if r1.2 = 0 then
        some (r1.1, 0)
      else
        some (r1.1, 1)
    else
      if (σ 64 7) ≤ x2 then
        some (σ, 1)
      else
        (f_Tape_fail σ 2).bind fun r2 =>
        if r2.2 = 0 then
          some (r2.1, 0)
        else
          some (r2.1, 1)
  else
    (f_Tape_fail σ 1).bind fun r3 =>
    some (r3.1, r3.2) := (zsem_eq _ _ _ _ _ _).trans rfl
set_option maxRecDepth 100000 in
theorem e_R_feed (σ : zH) (x1 : Int) (x2 : Int) (x3 : Int) (x4 : Int) (x5 : Int) : f_R_feed σ x1 x2 x3 x4 x5 =
  if (w32 ((σ 64 1) + 20)) ≤ 940 then
    (f_Tape_take σ x1).bind fun r1 =>
    (f_Tape_take r1.1 x2).bind fun r2 =>
    (f_Tape_take r2.1 x3).bind fun r3 =>
    (f_Tape_take r3.1 x4).bind fun r4 =>
    (f_Tape_take r4.1 x5).bind fun r5 =>
    some (r5.1, r5.1 64 1)
  else
    some (σ, (-1)) := (zsem_eq _ _ _ _ _ _).trans rfl
set_option maxRecDepth 100000 in
theorem e_R_end (σ : zH) (x1 : Int) : f_R_end σ x1 =
  if x1 < 0 then
    some (σ, 0)
  else
    if x1 ≤ (σ 64 1) then
      some (zset σ 64 1 x1, 1)
    else
      some (σ, 0) := (zsem_eq _ _ _ _ _ _).trans rfl
set_option maxRecDepth 100000 in
theorem e_R_country (σ : zH)  : f_R_country σ  =
  (f_Tape_open σ 900).bind fun r1 =>
  if zio 1 (r1.1 0 13) = true then
    (f_CountryReader_readInto r1.1 (Int.toNat (r1.1 0 13))).bind fun r2 =>
    if ¬ r2.2 = 0 then
      if zio 1 ((zset (zset r2.1 0 17 (r2.1 64 9)) 64 1 0) 0 11) = true then
        if zio 1 ((zset (zset r2.1 0 17 (r2.1 64 9)) 64 1 0) 0 13) = true then
          if zio 1 ((zset (zset (zset (zset r2.1 0 17 (r2.1 64 9)) 64 1 0) 0 11 (Int.ofNat (Int.toNat ((zset (zset r2.1 0 17 (r2.1 64 9)) 64 1 0) 0 13)))) 0 13 (Int.ofNat (Int.toNat ((zset (zset r2.1 0 17 (r2.1 64 9)) 64 1 0) 0 11)))) 0 11) = true then
            (f_Stream_begin (zset (zset (zset (zset r2.1 0 17 (r2.1 64 9)) 64 1 0) 0 11 (Int.ofNat (Int.toNat ((zset (zset r2.1 0 17 (r2.1 64 9)) 64 1 0) 0 13)))) 0 13 (Int.ofNat (Int.toNat ((zset (zset r2.1 0 17 (r2.1 64 9)) 64 1 0) 0 11)))) 96 ((zset (zset (zset (zset r2.1 0 17 (r2.1 64 9)) 64 1 0) 0 11 (Int.ofNat (Int.toNat ((zset (zset r2.1 0 17 (r2.1 64 9)) 64 1 0) 0 13)))) 0 13 (Int.ofNat (Int.toNat ((zset (zset r2.1 0 17 (r2.1 64 9)) 64 1 0) 0 11)))) (Int.toNat ((zset (zset (zset (zset r2.1 0 17 (r2.1 64 9)) 64 1 0) 0 11 (Int.ofNat (Int.toNat ((zset (zset r2.1 0 17 (r2.1 64 9)) 64 1 0) 0 13)))) 0 13 (Int.ofNat (Int.toNat ((zset (zset r2.1 0 17 (r2.1 64 9)) 64 1 0) 0 11)))) 0 11)) 15)).bind fun r3 =>
            if zio 7 (r3.1 0 12) = true then
              (f_Sentence_clear r3.1 (Int.toNat (r3.1 0 12))).bind fun r4 =>
              (f_Acts_clear r4.1).bind fun r5 =>
              some (r5.1, r5.1 32 2)
            else none
          else none
        else none
      else none
    else
      some (zset (zset r2.1 0 17 (r2.1 64 9)) 64 1 0, w32 ((-1) - ((zset (zset r2.1 0 17 (r2.1 64 9)) 64 1 0) 64 10)))
  else none := (zsem_eq _ _ _ _ _ _).trans rfl
set_option maxRecDepth 100000 in
theorem e_R_fault (σ : zH)  : f_R_fault σ  =
  some (σ, σ 0 17) := (zsem_eq _ _ _ _ _ _).trans rfl
set_option maxRecDepth 100000 in
theorem e_R_term (σ : zH) (x1 : Int) : f_R_term σ x1 =
  if zio 1 (σ 0 11) = true then
    (f_Country_hasTerm σ (Int.toNat (σ 0 11)) x1).bind fun r1 =>
    if r1.2 = 0 then
      some (r1.1, (-1))
    else
      if zio 1 (r1.1 0 11) = true then
        if zin x1 10 = true then
          some (r1.1, r1.1 ((Int.toNat (r1.1 0 11)) + 2) (Int.toNat x1))
        else none
      else none
  else none := (zsem_eq _ _ _ _ _ _).trans rfl
set_option maxRecDepth 100000 in
theorem e_R_reach (σ : zH) (x1 : Int) (x2 : Int) : f_R_reach σ x1 x2 =
  if zio 1 (σ 0 11) = true then
    (f_Country_hasReach σ (Int.toNat (σ 0 11)) x1).bind fun r1 =>
    if ¬ r1.2 = 0 then
      if x2 = 0 then
        if zio 1 (r1.1 0 11) = true then
          if zin x1 8 = true then
            some (r1.1, r1.1 ((Int.toNat (r1.1 0 11)) + 3) (Int.toNat x1))
          else none
        else none
      else
      if x2 = 1 then
        if zio 1 (r1.1 0 11) = true then
          if zin x1 8 = true then
            some (r1.1, r1.1 ((Int.toNat (r1.1 0 11)) + 4) (Int.toNat x1))
          else none
        else none
      else
      if x2 = 2 then
        if zio 1 (r1.1 0 11) = true then
          if zin x1 8 = true then
            some (r1.1, r1.1 ((Int.toNat (r1.1 0 11)) + 5) (Int.toNat x1))
          else none
        else none
      else
      if x2 = 3 then
        if zio 1 (r1.1 0 11) = true then
          if zin x1 8 = true then
            some (r1.1, r1.1 ((Int.toNat (r1.1 0 11)) + 6) (Int.toNat x1))
          else none
        else none
      else
      if x2 = 4 then
        if zio 1 (r1.1 0 11) = true then
          (f_Country_saidOn r1.1 (Int.toNat (r1.1 0 11)) x1 (r1.1 96 12)).bind fun r2 =>
          some (r2.1, r2.2)
        else none
      else
      some (r1.1, (-1))
    else
      some (r1.1, (-1))
  else none := (zsem_eq _ _ _ _ _ _).trans rfl
set_option maxRecDepth 100000 in
theorem e_R_editor (σ : zH) (x1 : Int) (x2 : Int) : f_R_editor σ x1 x2 =
  if zio 1 (σ 0 11) = true then
    (f_Country_hasEditor σ (Int.toNat (σ 0 11)) x1).bind fun r1 =>
    if ¬ r1.2 = 0 then
      if x2 = 0 then
        if zio 1 (r1.1 0 11) = true then
          if zin x1 6 = true then
            some (r1.1, r1.1 ((Int.toNat (r1.1 0 11)) + 8) (Int.toNat x1))
          else none
        else none
      else
      if x2 = 1 then
        if zio 1 (r1.1 0 11) = true then
          if zin x1 6 = true then
            some (r1.1, r1.1 ((Int.toNat (r1.1 0 11)) + 9) (Int.toNat x1))
          else none
        else none
      else
      if x2 = 2 then
        (f_Stream_isAwake r1.1 96 x1).bind fun r2 =>
        if r2.2 = 0 then
          some (r2.1, 0)
        else
          some (r2.1, 1)
      else
      if x2 = 3 then
        if zin x1 6 = true then
          some (r1.1, r1.1 99 (Int.toNat x1))
        else none
      else
      if x2 = 4 then
        if zin x1 6 = true then
          some (r1.1, r1.1 100 (Int.toNat x1))
        else none
      else
      some (r1.1, (-1))
    else
      some (r1.1, (-1))
  else none := (zsem_eq _ _ _ _ _ _).trans rfl
set_option maxRecDepth 100000 in
theorem e_R_makes (σ : zH) (x1 : Int) (x2 : Int) : f_R_makes σ x1 x2 =
  if zio 1 (σ 0 11) = true then
    (f_Country_hasEditor σ (Int.toNat (σ 0 11)) x1).bind fun r1 =>
    if r1.2 = 0 then
      some (r1.1, (-2))
    else
      if zio 1 (r1.1 0 11) = true then
        (f_Country_hasTerm r1.1 (Int.toNat (r1.1 0 11)) x2).bind fun r2 =>
        if r2.2 = 0 then
          some (r2.1, (-2))
        else
          if zio 1 (r2.1 0 11) = true then
            (f_Country_madeBy r2.1 (Int.toNat (r2.1 0 11)) x1 x2).bind fun r3 =>
            some (r3.1, r3.2)
          else none
      else none
  else none := (zsem_eq _ _ _ _ _ _).trans rfl
set_option maxRecDepth 100000 in
theorem e_R_now (σ : zH) (x1 : Int) : f_R_now σ x1 =
  if x1 = 0 then
    some (σ, σ 96 12)
  else
  if x1 = 1 then
    (f_Stream_onTheirWay σ 96).bind fun r1 =>
    some (r1.1, r1.2)
  else
  if x1 = 2 then
    some (σ, σ 96 14)
  else
  if x1 = 3 then
    some (σ, σ 96 15)
  else
  if x1 = 4 then
    (f_R_sumOf σ 6 99).bind fun r2 =>
    some (r2.1, r2.2)
  else
  if x1 = 5 then
    (f_R_sumOf σ 6 100).bind fun r3 =>
    some (r3.1, r3.2)
  else
  some (σ, (-1)) := (zsem_eq _ _ _ _ _ _).trans rfl
set_option maxRecDepth 100000 in
theorem e_R_days (σ : zH) (x1 : Int) : f_R_days σ x1 =
  (f_R_isWithin σ x1 99).bind fun r1 =>
  if ¬ r1.2 = 0 then
    (f_Stream_daysLeft r1.1 96).bind fun r2 =>
    if (zmin x1 r2.2) ≤ 0 then
      some (r2.1, zmin x1 r2.2)
    else
      (f_Acts_keep r2.1 96).bind fun r3 =>
      if zio 1 (r3.1 0 11) = true then
        (f_Stream_pass r3.1 96 (Int.toNat (r3.1 0 11)) (zmin x1 r2.2)).bind fun r4 =>
        some (r4.1, zmin x1 r2.2)
      else none
  else
    some (r1.1, (-1)) := (zsem_eq _ _ _ _ _ _).trans rfl
set_option maxRecDepth 100000 in
theorem e_R_wake (σ : zH) (x1 : Int) (x2 : Int) : f_R_wake σ x1 x2 =
  if zio 1 (σ 0 11) = true then
    (f_Country_hasEditor σ (Int.toNat (σ 0 11)) x1).bind fun r1 =>
    if r1.2 = 0 then
      some (r1.1, 0)
    else
      if x2 < 0 then
        some (r1.1, 0)
      else
        if 1 < x2 then
          some (r1.1, 0)
        else
          (f_Stream_isAwake r1.1 96 x1).bind fun r2 =>
          if ¬ x2 = 1 then
            if ¬ r2.2 = 0 then
              (f_Acts_keep r2.1 96).bind fun r3 =>
              (f_Stream_toggle r3.1 96 x1).bind fun r4 =>
              some (r4.1, 1)
            else
              some (r2.1, 0)
          else
            if ¬ r2.2 = 1 then
              (f_Acts_keep r2.1 96).bind fun r5 =>
              (f_Stream_toggle r5.1 96 x1).bind fun r6 =>
              some (r6.1, 1)
            else
              some (r2.1, 0)
  else none := (zsem_eq _ _ _ _ _ _).trans rfl
set_option maxRecDepth 100000 in
theorem e_R_stone (σ : zH) (x1 : Int) (x2 : Int) (x3 : Int) : f_R_stone σ x1 x2 x3 =
  if zio 1 (σ 0 11) = true then
    (f_Country_hasPlace σ (Int.toNat (σ 0 11)) x1 x2).bind fun r1 =>
    if r1.2 = 0 then
      some (r1.1, 0)
    else
      if x3 = (-1) then
        f_R_stone_30 r1.1 x1 x2 x3
      else
        if zio 1 (r1.1 0 11) = true then
          (f_Country_hasTerm r1.1 (Int.toNat (r1.1 0 11)) x3).bind fun r2 =>
          if ¬ r2.2 = 0 then
            f_R_stone_30 r2.1 x1 x2 x3
          else
            some (r2.1, 0)
        else none
  else none := (zsem_eq _ _ _ _ _ _).trans rfl
set_option maxRecDepth 100000 in
theorem e_R_stone_30 (σ : zH) (x1 : Int) (x2 : Int) (x3 : Int) : f_R_stone_30 σ x1 x2 x3 =
  if zio 1 (σ 0 11) = true then
    (f_Stream_termAt σ 96 (Int.toNat (σ 0 11)) x1 x2).bind fun r1 =>
    if ¬ r1.2 = x3 then
      (f_Acts_keep r1.1 96).bind fun r2 =>
      if zio 1 (r2.1 0 11) = true then
        (f_Stream_put r2.1 96 (Int.toNat (r2.1 0 11)) x1 x2 x3).bind fun r3 =>
        some (r3.1, 1)
      else none
    else
      some (r1.1, 0)
  else none := (zsem_eq _ _ _ _ _ _).trans rfl
set_option maxRecDepth 100000 in
theorem e_R_undo (σ : zH)  : f_R_undo σ  =
  (f_Acts_giveBack σ 96).bind fun r1 =>
  if r1.2 = 0 then
    some (r1.1, (-1))
  else
    some (r1.1, r1.1 160 1) := (zsem_eq _ _ _ _ _ _).trans rfl
set_option maxRecDepth 100000 in
theorem e_R_well (σ : zH) (x1 : Int) (x2 : Int) : f_R_well σ x1 x2 =
  if zio 1 (σ 0 11) = true then
    (f_Country_hasTown σ (Int.toNat (σ 0 11)) x1).bind fun r1 =>
    if r1.2 = 0 then
      some (r1.1, (-2))
    else
      if x2 < 0 then
        some (r1.1, (-2))
      else
        if x2 < (r1.1 96 12) then
          (f_Stream_readOn r1.1 96 x1 x2).bind fun r2 =>
          some (r2.1, r2.2)
        else
          some (r1.1, (-2))
  else none := (zsem_eq _ _ _ _ _ _).trans rfl
set_option maxRecDepth 100000 in
theorem e_R_sense (σ : zH) (x1 : Int) : f_R_sense σ x1 =
  if zio 1 (σ 0 11) = true then
    (f_Country_hasTown σ (Int.toNat (σ 0 11)) x1).bind fun r1 =>
    if r1.2 = 0 then
      some (r1.1, (-2))
    else
      if zin x1 6 = true then
        some (r1.1, r1.1 106 (Int.toNat x1))
      else none
  else none := (zsem_eq _ _ _ _ _ _).trans rfl
set_option maxRecDepth 100000 in
theorem e_R_sayings (σ : zH) (x1 : Int) : f_R_sayings σ x1 =
  if zio 1 (σ 0 11) = true then
    (f_Country_hasTown σ (Int.toNat (σ 0 11)) x1).bind fun r1 =>
    if r1.2 = 0 then
      some (r1.1, (-1))
    else
      if zin x1 6 = true then
        some (r1.1, r1.1 107 (Int.toNat x1))
      else none
  else none := (zsem_eq _ _ _ _ _ _).trans rfl
set_option maxRecDepth 100000 in
theorem e_R_flows (σ : zH) (x1 : Int) (x2 : Int) (x3 : Int) : f_R_flows σ x1 x2 x3 =
  if zio 1 (σ 0 11) = true then
    (f_Country_hasPlace σ (Int.toNat (σ 0 11)) x1 x2).bind fun r1 =>
    if r1.2 = 0 then
      some (r1.1, (-1))
    else
      if zio 1 (r1.1 0 11) = true then
        (f_Country_hasTown r1.1 (Int.toNat (r1.1 0 11)) x3).bind fun r2 =>
        if r2.2 = 0 then
          some (r2.1, (-1))
        else
          if zio 1 (r2.1 0 11) = true then
            (f_Country_daysBetween r2.1 (Int.toNat (r2.1 0 11)) x1 x2 x3).bind fun r3 =>
            some (r3.1, r3.2)
          else none
      else none
  else none := (zsem_eq _ _ _ _ _ _).trans rfl
set_option maxRecDepth 100000 in
theorem e_R_above (σ : zH) (x1 : Int) : f_R_above σ x1 =
  if zio 1 (σ 0 11) = true then
    (f_Country_hasTown σ (Int.toNat (σ 0 11)) x1).bind fun r1 =>
    if r1.2 = 0 then
      some (r1.1, (-1))
    else
      if zio 1 (r1.1 0 11) = true then
        (f_Country_reachesAbove r1.1 (Int.toNat (r1.1 0 11)) x1).bind fun r2 =>
        some (r2.1, r2.2)
      else none
  else none := (zsem_eq _ _ _ _ _ _).trans rfl
set_option maxRecDepth 100000 in
theorem e_R_source (σ : zH) (x1 : Int) : f_R_source σ x1 =
  if zio 1 (σ 0 11) = true then
    (f_Country_hasTown σ (Int.toNat (σ 0 11)) x1).bind fun r1 =>
    if r1.2 = 0 then
      some (r1.1, (-1))
    else
      if zio 1 (r1.1 0 11) = true then
        (f_Country_oneSource r1.1 (Int.toNat (r1.1 0 11)) x1).bind fun r2 =>
        some (r2.1, r2.2)
      else none
  else none := (zsem_eq _ _ _ _ _ _).trans rfl
set_option maxRecDepth 100000 in
theorem e_R_comes (σ : zH) (x1 : Int) (x2 : Int) : f_R_comes σ x1 x2 =
  (f_R_source σ x1).bind fun r1 =>
  if r1.2 = (-1) then
    some (r1.1, (-2))
  else
    if zio 1 (r1.1 0 11) = true then
      (f_Country_hasTerm r1.1 (Int.toNat (r1.1 0 11)) x2).bind fun r2 =>
      if ¬ r2.2 = 0 then
        if zio 1 (r2.1 0 11) = true then
          (f_Country_arrival r2.1 (Int.toNat (r2.1 0 11)) x1 x2 (r2.1 96 13)).bind fun r3 =>
          some (r3.1, r3.2)
        else none
      else
        some (r2.1, (-2))
    else none := (zsem_eq _ _ _ _ _ _).trans rfl
set_option maxRecDepth 100000 in
theorem e_R_saying (σ : zH) (x1 : Int) : f_R_saying σ x1 =
  (f_R_takeRow σ 15).bind fun r1 =>
  if r1.2 = (-1) then
    some (r1.1, (-1))
  else
    (f_R_source r1.1 x1).bind fun r2 =>
    if ¬ r2.2 = (-1) then
      (f_R_fillArrivals r2.1 x1).bind fun r3 =>
      f_R_saying_35 r3.1 r1.2 1 0
    else
      some (r2.1, (-1)) := (zsem_eq _ _ _ _ _ _).trans rfl
set_option maxRecDepth 100000 in
theorem e_R_saying_35 (σ : zH) (x2 : Int) (x3 : Int) (x5 : Int) : f_R_saying_35 σ x2 x3 x5 =
  if x2 ≤ x5 then
    if (zcmp x3 0) ≤ 0 then
      some (σ, x3)
    else
      (f_R_keepFirstWay σ x2).bind fun r1 =>
      some (r1.1, x3)
  else
    (f_Tape_termOf σ x5).bind fun r2 =>
    (f_R_countOf r2.1 r2.2).bind fun r3 =>
    f_R_saying_35 r3.1 x2 (w64 (x3 * r3.2)) (w32 (x5 + 1)) := (zsem_eq _ _ _ _ _ _).trans rfl
set_option maxRecDepth 100000 in
theorem e_R_saidAt (σ : zH) (x1 : Int) : f_R_saidAt σ x1 =
  if x1 < 0 then
    some (σ, (-1))
  else
    if (σ 0 15) ≤ x1 then
      some (σ, (-1))
    else
      if zin x1 15 = true then
        some (σ, σ 10 (Int.toNat x1))
      else none := (zsem_eq _ _ _ _ _ _).trans rfl
set_option maxRecDepth 100000 in
theorem e_R_wish (σ : zH) (x1 : Int) : f_R_wish σ x1 =
  (f_R_takeRow σ 15).bind fun r1 =>
  (f_R_source r1.1 x1).bind fun r2 =>
  if r1.2 = (-1) then
    some (r2.1, (-1))
  else
    if ¬ r2.2 = (-1) then
      (f_R_fillArrivals r2.1 x1).bind fun r3 =>
      f_R_wish_36 r3.1 r1.2 r2.2 0 0
    else
      some (r2.1, (-1)) := (zsem_eq _ _ _ _ _ _).trans rfl
set_option maxRecDepth 100000 in
theorem e_R_wish_36 (σ : zH) (x2 : Int) (x3 : Int) (x4 : Int) (x5 : Int) : f_R_wish_36 σ x2 x3 x4 x5 =
  if x2 ≤ x5 then
    some (σ, x4)
  else
    (f_Tape_termOf σ x5).bind fun r1 =>
    (f_R_leastFor r1.1 r1.2).bind fun r2 =>
    if ¬ r2.2 = (-1) then
      if zio 1 (r2.1 0 11) = true then
        (f_Country_saidOn r2.1 (Int.toNat (r2.1 0 11)) x3 (w32 ((r2.1 96 12) + x5))).bind fun r3 =>
        if r3.2 = (-1) then
          f_R_wish_36 r3.1 x2 x3 (w32 (x4 + 1)) (w32 (x5 + 1))
        else
          if zin r3.2 10 = true then
            if (r3.1 9 (Int.toNat r3.2)) = r1.2 then
              f_R_wish_36 r3.1 x2 x3 x4 (w32 (x5 + 1))
            else
              f_R_wish_36 r3.1 x2 x3 (w32 (x4 + 1)) (w32 (x5 + 1))
          else none
      else none
    else
      some (r2.1, (-1)) := (zsem_eq _ _ _ _ _ _).trans rfl
set_option maxRecDepth 100000 in
theorem e_R_rests (σ : zH) (x1 : Int) (x2 : Int) : f_R_rests σ x1 x2 =
  (f_R_isWithin σ x1 60).bind fun r1 =>
  if ¬ r1.2 = 0 then
    if zio 1 (r1.1 0 11) = true then
      f_R_rests_24 r1.1 x1 x2 (zshl 1 (r1.1 (Int.toNat (r1.1 0 11)) 15)) 0
    else none
  else
    some (r1.1, (-1)) := (zsem_eq _ _ _ _ _ _).trans rfl
set_option maxRecDepth 100000 in
theorem e_R_rests_24 (σ : zH) (x1 : Int) (x2 : Int) (x3 : Int) (x4 : Int) : f_R_rests_24 σ x1 x2 x3 x4 =
  if x3 ≤ x4 then
    f_R_rests_49 σ x2 x3 0 0
  else
    (f_R_fillGains σ x4 x1).bind fun r1 =>
    f_R_rests_24 r1.1 x1 x2 x3 (w32 (x4 + 1)) := (zsem_eq _ _ _ _ _ _).trans rfl
set_option maxRecDepth 100000 in
theorem e_R_rests_49 (σ : zH) (x2 : Int) (x3 : Int) (x4 : Int) (x5 : Int) : f_R_rests_49 σ x2 x3 x4 x5 =
  if x3 ≤ x5 then
    if ¬ x2 = (-1) then
      some (σ, (-1))
    else
      some (σ, x4)
  else
    (f_R_isRest σ x5).bind fun r1 =>
    if r1.2 = 0 then
      f_R_rests_49 r1.1 x2 x3 x4 (w32 (x5 + 1))
    else
      if ¬ x4 = x2 then
        f_R_rests_49 r1.1 x2 x3 (w32 (x4 + 1)) (w32 (x5 + 1))
      else
        some (r1.1, x5) := (zsem_eq _ _ _ _ _ _).trans rfl
set_option maxRecDepth 100000 in
theorem e_R_own (σ : zH) (x1 : Int) : f_R_own σ x1 =
  if zio 1 (σ 0 11) = true then
    (f_Country_hasEditor σ (Int.toNat (σ 0 11)) x1).bind fun r1 =>
    if r1.2 = 0 then
      some (r1.1, (-1))
    else
      if zio 1 (r1.1 0 11) = true then
        (f_Country_ownTown r1.1 (Int.toNat (r1.1 0 11)) x1).bind fun r2 =>
        some (r2.1, r2.2)
      else none
  else none := (zsem_eq _ _ _ _ _ _).trans rfl
set_option maxRecDepth 100000 in
theorem e_R_liked (σ : zH) (x1 : Int) (x2 : Int) (x3 : Int) : f_R_liked σ x1 x2 x3 =
  if zio 1 (σ 0 11) = true then
    (f_Country_hasTown σ (Int.toNat (σ 0 11)) x1).bind fun r1 =>
    if r1.2 = 0 then
      some (r1.1, (-1))
    else
      if x2 < 0 then
        some (r1.1, (-1))
      else
        if zio 1 (r1.1 0 11) = true then
          if (zshl 1 (r1.1 (Int.toNat (r1.1 0 11)) 15)) ≤ x2 then
            some (r1.1, (-1))
          else
            (f_R_isWithin r1.1 x3 60).bind fun r2 =>
            if ¬ r2.2 = 0 then
              (f_R_tryDays r2.1 x2 x3).bind fun r3 =>
              if zin x1 6 = true then
                if zin x1 6 = true then
                  some (r3.1, w32 ((r3.1 135 (Int.toNat x1)) - (r3.1 103 (Int.toNat x1))))
                else none
              else none
            else
              some (r2.1, (-1))
        else none
  else none := (zsem_eq _ _ _ _ _ _).trans rfl
set_option maxRecDepth 100000 in
theorem e_R_sure (σ : zH) (x1 : Int) : f_R_sure σ x1 =
  (f_R_isWithin σ x1 99).bind fun r1 =>
  if r1.2 = 0 then
    some (r1.1, (-1))
  else
    some (r1.1, w32 (Int.tdiv (w32 (x1 - 1)) 2)) := (zsem_eq _ _ _ _ _ _).trans rfl
set_option maxRecDepth 100000 in
theorem e_R_most (σ : zH)  : f_R_most σ  =
  (f_R_takeRow σ 99).bind fun r1 =>
  if ¬ r1.2 = (-1) then
    f_R_most_17 r1.1 r1.2 0
  else
    some (r1.1, (-2)) := (zsem_eq _ _ _ _ _ _).trans rfl
set_option maxRecDepth 100000 in
theorem e_R_most_17 (σ : zH) (x1 : Int) (x2 : Int) : f_R_most_17 σ x1 x2 =
  if zio 1 (σ 0 11) = true then
    if (σ (Int.toNat (σ 0 11)) 13) ≤ x2 then
      some (σ, (-1))
    else
      f_R_most_33 σ x1 x2 0 0
  else none := (zsem_eq _ _ _ _ _ _).trans rfl
set_option maxRecDepth 100000 in
theorem e_R_most_33 (σ : zH) (x1 : Int) (x2 : Int) (x3 : Int) (x4 : Int) : f_R_most_33 σ x1 x2 x3 x4 =
  if x1 ≤ x4 then
    if x3 ≤ (w32 (x1 - x3)) then
      f_R_most_17 σ x1 (w32 (x2 + 1))
    else
      some (σ, x2)
  else
    (f_Tape_termOf σ x4).bind fun r1 =>
    if ¬ r1.2 = x2 then
      f_R_most_33 r1.1 x1 x2 x3 (w32 (x4 + 1))
    else
      f_R_most_33 r1.1 x1 x2 (w32 (x3 + 1)) (w32 (x4 + 1)) := (zsem_eq _ _ _ _ _ _).trans rfl
set_option maxRecDepth 100000 in
theorem e_R_when (σ : zH) (x1 : Int) (x2 : Int) (x3 : Int) : f_R_when σ x1 x2 x3 =
  if zio 1 (σ 0 11) = true then
    (f_Country_hasTown σ (Int.toNat (σ 0 11)) x1).bind fun r1 =>
    if r1.2 = 0 then
      some (r1.1, (-1))
    else
      if zio 1 (r1.1 0 11) = true then
        (f_Country_hasTerm r1.1 (Int.toNat (r1.1 0 11)) x2).bind fun r2 =>
        if r2.2 = 0 then
          some (r2.1, (-1))
        else
          (f_R_isWithin r2.1 x3 99).bind fun r3 =>
          if ¬ r3.2 = 0 then
            (f_Stream_copyFrom r3.1 128 96).bind fun r4 =>
            (f_Stream_daysLeft r4.1 128).bind fun r5 =>
            f_R_when_60 r5.1 x1 x2 (zmin x3 r5.2) 0
          else
            some (r3.1, (-1))
      else none
  else none := (zsem_eq _ _ _ _ _ _).trans rfl
set_option maxRecDepth 100000 in
theorem e_R_when_60 (σ : zH) (x1 : Int) (x2 : Int) (x4 : Int) (x5 : Int) : f_R_when_60 σ x1 x2 x4 x5 =
  if x4 ≤ x5 then
    some (σ, (-1))
  else
    if zio 1 (σ 0 11) = true then
      (f_Stream_passDay σ 128 (Int.toNat (σ 0 11))).bind fun r1 =>
      if zin x1 6 = true then
        if ¬ (r1.1 133 (Int.toNat x1)) = x2 then
          f_R_when_60 r1.1 x1 x2 x4 (w32 (x5 + 1))
        else
          some (r1.1, w32 ((r1.1 128 12) - 1))
      else none
    else none := (zsem_eq _ _ _ _ _ _).trans rfl
set_option maxRecDepth 100000 in
theorem e_R_clashes (σ : zH) (x1 : Int) : f_R_clashes σ x1 =
  (f_R_isWithin σ x1 99).bind fun r1 =>
  if ¬ r1.2 = 0 then
    (f_R_tryDays r1.1 (r1.1 96 13) x1).bind fun r2 =>
    some (r2.1, w32 ((r2.1 128 14) - (r2.1 96 14)))
  else
    some (r1.1, (-1)) := (zsem_eq _ _ _ _ _ _).trans rfl
set_option maxRecDepth 100000 in
theorem e_R_unlike (σ : zH) (x1 : Int) (x2 : Int) (x3 : Int) : f_R_unlike σ x1 x2 x3 =
  if zio 1 (σ 0 11) = true then
    (f_Country_hasTown σ (Int.toNat (σ 0 11)) x1).bind fun r1 =>
    if r1.2 = 0 then
      some (r1.1, (-1))
    else
      if zio 1 (r1.1 0 11) = true then
        (f_Country_hasTown r1.1 (Int.toNat (r1.1 0 11)) x2).bind fun r2 =>
        if r2.2 = 0 then
          some (r2.1, (-1))
        else
          if x3 < 0 then
            some (r2.1, (-1))
          else
            if x3 ≤ 99 then
              f_R_unlike_40 r2.1 x1 x2 x3 0 0
            else
              some (r2.1, (-1))
      else none
  else none := (zsem_eq _ _ _ _ _ _).trans rfl
set_option maxRecDepth 100000 in
theorem e_R_unlike_40 (σ : zH) (x1 : Int) (x2 : Int) (x3 : Int) (x4 : Int) (x5 : Int) : f_R_unlike_40 σ x1 x2 x3 x4 x5 =
  if (σ 96 12) ≤ (w32 (x5 + x3)) then
    some (σ, x4)
  else
    (f_Stream_readOn σ 96 x1 x5).bind fun r1 =>
    (f_Stream_readOn r1.1 96 x2 (w32 (x5 + x3))).bind fun r2 =>
    if r1.2 = r2.2 then
      f_R_unlike_40 r2.1 x1 x2 x3 x4 (w32 (x5 + 1))
    else
      f_R_unlike_40 r2.1 x1 x2 x3 (w32 (x4 + 1)) (w32 (x5 + 1)) := (zsem_eq _ _ _ _ _ _).trans rfl
set_option maxRecDepth 100000 in
theorem e_R_drawn (σ : zH) (x1 : Int) (x2 : Int) : f_R_drawn σ x1 x2 =
  (f_R_isWithin σ x1 99).bind fun r1 =>
  if r1.2 = 0 then
    some (r1.1, (-1))
  else
    if zio 1 (r1.1 0 11) = true then
      if ¬ (r1.1 (Int.toNat (r1.1 0 11)) 14) = 0 then
        (f_Stream_daysLeft r1.1 96).bind fun r2 =>
        if (zmin x1 r2.2) ≤ 0 then
          (f_Dice_begin r2.1 x2).bind fun r3 =>
          f_R_drawn_59 r3.1 (zmin x1 r2.2) 0
        else
          (f_Acts_keep r2.1 96).bind fun r4 =>
          (f_Dice_begin r4.1 x2).bind fun r5 =>
          f_R_drawn_59 r5.1 (zmin x1 r2.2) 0
      else
        some (r1.1, (-1))
    else none := (zsem_eq _ _ _ _ _ _).trans rfl
set_option maxRecDepth 100000 in
theorem e_R_drawn_59 (σ : zH) (x3 : Int) (x4 : Int) : f_R_drawn_59 σ x3 x4 =
  if x3 ≤ x4 then
    some (zset σ 0 16 (σ 352 1), x3)
  else
    if zio 1 (σ 0 11) = true then
      (f_Stream_passDrawnDay σ 96 (Int.toNat (σ 0 11))).bind fun r1 =>
      f_R_drawn_59 r1.1 x3 (w32 (x4 + 1))
    else none := (zsem_eq _ _ _ _ _ _).trans rfl
set_option maxRecDepth 100000 in
theorem e_R_stones (σ : zH)  : f_R_stones σ  =
  some (σ, σ 0 16) := (zsem_eq _ _ _ _ _ _).trans rfl
set_option maxRecDepth 100000 in
theorem e_R_odds (σ : zH) (x1 : Int) (x2 : Int) (x3 : Int) : f_R_odds σ x1 x2 x3 =
  if zio 1 (σ 0 11) = true then
    (f_Country_hasTown σ (Int.toNat (σ 0 11)) x1).bind fun r1 =>
    if r1.2 = 0 then
      some (r1.1, (-1))
    else
      (f_R_isWithin r1.1 x2 40).bind fun r2 =>
      if ¬ r2.2 = 0 then
        f_R_odds_28 r2.1 x1 x2 x3 0 0
      else
        some (r2.1, (-1))
  else none := (zsem_eq _ _ _ _ _ _).trans rfl
set_option maxRecDepth 100000 in
theorem e_R_odds_28 (σ : zH) (x1 : Int) (x2 : Int) (x3 : Int) (x4 : Int) (x5 : Int) : f_R_odds_28 σ x1 x2 x3 x4 x5 =
  if x2 ≤ x5 then
    some (σ, x4)
  else
    (f_R_staysSensible σ x1 (w32 (x3 + x5))).bind fun r1 =>
    if r1.2 = 0 then
      f_R_odds_28 r1.1 x1 x2 x3 x4 (w32 (x5 + 1))
    else
      f_R_odds_28 r1.1 x1 x2 x3 (w32 (x4 + 1)) (w32 (x5 + 1)) := (zsem_eq _ _ _ _ _ _).trans rfl
set_option maxRecDepth 100000 in
theorem e_R_daybook (σ : zH) (x1 : Int) : f_R_daybook σ x1 =
  if x1 < 0 then
    some (σ, (-1000))
  else
    if x1 ≤ 1 then
      (f_Tape_open σ 400).bind fun r1 =>
      if zio 1 (r1.1 0 11) = true then
        (f_Daybook_readFrom r1.1 ((Int.toNat (r1.1 0 11)) + 32)).bind fun r2 =>
        if ¬ r2.2 = 0 then
          (f_Stream_copyFrom (zset (zset r2.1 0 17 (r2.1 64 9)) 64 1 0) 128 96).bind fun r3 =>
          if ¬ x1 = 0 then
            if zio 1 (r3.1 0 11) = true then
              (f_Daybook_judge r3.1 (Int.toNat (r3.1 0 11)) 96).bind fun r4 =>
              if (r4.1 320 6) ≤ 0 then
                some (r4.1, r4.2)
              else
                (f_Acts_keep r4.1 128).bind fun r5 =>
                some (r5.1, r4.2)
            else none
          else
            if zio 1 (r3.1 0 11) = true then
              (f_Daybook_judge r3.1 (Int.toNat (r3.1 0 11)) 128).bind fun r6 =>
              some (r6.1, r6.2)
            else none
        else
          some (zset (zset r2.1 0 17 (r2.1 64 9)) 64 1 0, w32 ((-2) - ((zset (zset r2.1 0 17 (r2.1 64 9)) 64 1 0) 64 10)))
      else none
    else
      some (σ, (-1000)) := (zsem_eq _ _ _ _ _ _).trans rfl
set_option maxRecDepth 100000 in
theorem e_R_booked (σ : zH) (x1 : Int) : f_R_booked σ x1 =
  (f_Daybook_tell σ x1).bind fun r1 =>
  some (r1.1, r1.2) := (zsem_eq _ _ _ _ _ _).trans rfl
set_option maxRecDepth 100000 in
theorem e_R_sentence (σ : zH)  : f_R_sentence σ  =
  (f_Tape_open σ 200).bind fun r1 =>
  if zio 7 (r1.1 0 14) = true then
    if zio 1 (r1.1 0 11) = true then
      (f_Sentence_readFrom r1.1 (Int.toNat (r1.1 0 14)) ((Int.toNat (r1.1 0 11)) + 32)).bind fun r2 =>
      if ¬ r2.2 = 0 then
        if zio 7 ((zset (zset r2.1 0 17 (r2.1 64 9)) 64 1 0) 0 12) = true then
          if zio 7 ((zset (zset r2.1 0 17 (r2.1 64 9)) 64 1 0) 0 14) = true then
            if zio 7 ((zset (zset (zset (zset r2.1 0 17 (r2.1 64 9)) 64 1 0) 0 12 (Int.ofNat (Int.toNat ((zset (zset r2.1 0 17 (r2.1 64 9)) 64 1 0) 0 14)))) 0 14 (Int.ofNat (Int.toNat ((zset (zset r2.1 0 17 (r2.1 64 9)) 64 1 0) 0 12)))) 0 12) = true then
              some (zset (zset (zset (zset r2.1 0 17 (r2.1 64 9)) 64 1 0) 0 12 (Int.ofNat (Int.toNat ((zset (zset r2.1 0 17 (r2.1 64 9)) 64 1 0) 0 14)))) 0 14 (Int.ofNat (Int.toNat ((zset (zset r2.1 0 17 (r2.1 64 9)) 64 1 0) 0 12))), (zset (zset (zset (zset r2.1 0 17 (r2.1 64 9)) 64 1 0) 0 12 (Int.ofNat (Int.toNat ((zset (zset r2.1 0 17 (r2.1 64 9)) 64 1 0) 0 14)))) 0 14 (Int.ofNat (Int.toNat ((zset (zset r2.1 0 17 (r2.1 64 9)) 64 1 0) 0 12)))) (Int.toNat ((zset (zset (zset (zset r2.1 0 17 (r2.1 64 9)) 64 1 0) 0 12 (Int.ofNat (Int.toNat ((zset (zset r2.1 0 17 (r2.1 64 9)) 64 1 0) 0 14)))) 0 14 (Int.ofNat (Int.toNat ((zset (zset r2.1 0 17 (r2.1 64 9)) 64 1 0) 0 12)))) 0 12)) 4)
            else none
          else none
        else none
      else
        some (zset (zset r2.1 0 17 (r2.1 64 9)) 64 1 0, w32 ((-1) - ((zset (zset r2.1 0 17 (r2.1 64 9)) 64 1 0) 64 10)))
    else none
  else none := (zsem_eq _ _ _ _ _ _).trans rfl
set_option maxRecDepth 100000 in
theorem e_R_said (σ : zH) (x1 : Int) : f_R_said σ x1 =
  if zio 7 (σ 0 12) = true then
    if ¬ (σ (Int.toNat (σ 0 12)) 4) = 0 then
      f_R_said_16 σ x1 0 0
    else
      some (σ, (-1))
  else none := (zsem_eq _ _ _ _ _ _).trans rfl
set_option maxRecDepth 100000 in
theorem e_R_said_16 (σ : zH) (x1 : Int) (x2 : Int) (x3 : Int) : f_R_said_16 σ x1 x2 x3 =
  if zio 1 (σ 0 11) = true then
    if (σ (Int.toNat (σ 0 11)) 17) ≤ x3 then
      if ¬ x1 = (-1) then
        some (σ, (-1))
      else
        some (σ, x2)
    else
      if zio 7 (σ 0 12) = true then
        if zio 1 (σ 0 11) = true then
          (f_Sentence_holdsOf σ (Int.toNat (σ 0 12)) (Int.toNat (σ 0 11)) 96 x3).bind fun r1 =>
          if r1.2 = 0 then
            f_R_said_16 r1.1 x1 x2 (w32 (x3 + 1))
          else
            if ¬ x2 = x1 then
              f_R_said_16 r1.1 x1 (w32 (x2 + 1)) (w32 (x3 + 1))
            else
              some (r1.1, x3)
        else none
      else none
  else none := (zsem_eq _ _ _ _ _ _).trans rfl
set_option maxRecDepth 100000 in
theorem e_R_image (σ : zH) (x1 : Int) : f_R_image σ x1 =
  if x1 < 0 then
    some (σ, 0)
  else
    if x1 < 2 then
      if (zin x1 2 && zio 5 (σ 7 (Int.toNat x1))) = true then
        if zio 1 (σ 0 11) = true then
          (f_Country_copyFrom σ ((Int.toNat (σ 7 (Int.toNat x1))) + 64) (Int.toNat (σ 0 11))).bind fun r1 =>
          (f_Stream_copyFrom r1.1 ((Int.toNat (σ 7 (Int.toNat x1))) + 128) 96).bind fun r2 =>
          if zio 7 (r2.1 0 12) = true then
            (f_Sentence_copyFrom r2.1 ((Int.toNat (σ 7 (Int.toNat x1))) + 160) (Int.toNat (r2.1 0 12))).bind fun r3 =>
            some (zset r3.1 (Int.toNat (σ 7 (Int.toNat x1))) 3 1, 1)
          else none
        else none
      else none
    else
      some (σ, 0) := (zsem_eq _ _ _ _ _ _).trans rfl
set_option maxRecDepth 100000 in
theorem e_R_restore (σ : zH) (x1 : Int) : f_R_restore σ x1 =
  if x1 < 0 then
    some (σ, 0)
  else
    if 2 ≤ x1 then
      some (σ, 0)
    else
      if (zin x1 2 && zio 5 (σ 7 (Int.toNat x1))) = true then
        if ¬ (σ (Int.toNat (σ 7 (Int.toNat x1))) 3) = 0 then
          if (zin x1 2 && zio 5 (σ 7 (Int.toNat x1))) = true then
            if zio 1 (σ 0 11) = true then
              (f_Country_copyFrom σ (Int.toNat (σ 0 11)) ((Int.toNat (σ 7 (Int.toNat x1))) + 64)).bind fun r1 =>
              (f_Stream_copyFrom r1.1 96 ((Int.toNat (σ 7 (Int.toNat x1))) + 128)).bind fun r2 =>
              if zio 7 (r2.1 0 12) = true then
                (f_Sentence_copyFrom r2.1 (Int.toNat (r2.1 0 12)) ((Int.toNat (σ 7 (Int.toNat x1))) + 160)).bind fun r3 =>
                (f_Acts_clear r3.1).bind fun r4 =>
                some (r4.1, 1)
              else none
            else none
          else none
        else
          some (σ, 0)
      else none := (zsem_eq _ _ _ _ _ _).trans rfl
set_option maxRecDepth 100000 in
theorem e_R_count (σ : zH) (x1 : Int) : f_R_count σ x1 =
  if x1 = 0 then
    if zio 1 (σ 0 11) = true then
      some (σ, σ (Int.toNat (σ 0 11)) 13)
    else none
  else
  if x1 = 1 then
    if zio 1 (σ 0 11) = true then
      some (σ, σ (Int.toNat (σ 0 11)) 14)
    else none
  else
  if x1 = 2 then
    if zio 1 (σ 0 11) = true then
      some (σ, σ (Int.toNat (σ 0 11)) 15)
    else none
  else
  if x1 = 3 then
    if zio 1 (σ 0 11) = true then
      some (σ, σ (Int.toNat (σ 0 11)) 16)
    else none
  else
  if x1 = 4 then
    if zio 1 (σ 0 11) = true then
      some (σ, σ (Int.toNat (σ 0 11)) 17)
    else none
  else
  if x1 = 5 then
    if zio 1 (σ 0 11) = true then
      some (σ, σ (Int.toNat (σ 0 11)) 18)
    else none
  else
  if x1 = 6 then
    some (σ, σ 64 1)
  else
  some (σ, (-1)) := (zsem_eq _ _ _ _ _ _).trans rfl
set_option maxRecDepth 100000 in
theorem e_R_isWithin (σ : zH) (x0 : Int) (x1 : Int) : f_R_isWithin σ x0 x1 =
  if x0 < 1 then
    some (σ, 0)
  else
    if x1 < x0 then
      some (σ, 0)
    else
      some (σ, 1) := (zsem_eq _ _ _ _ _ _).trans rfl
set_option maxRecDepth 100000 in
theorem e_R_sumOf (σ : zH) (n0 : Nat) (k0 : Nat) : f_R_sumOf σ n0 k0 =
  f_R_sumOf_10 σ 0 n0 k0 (Int.ofNat n0) 0 := (zsem_eq _ _ _ _ _ _).trans rfl
set_option maxRecDepth 100000 in
theorem e_R_sumOf_10 (σ : zH) (x1 : Int) (n2 : Nat) (k2 : Nat) (x3 : Int) (x4 : Int) : f_R_sumOf_10 σ x1 n2 k2 x3 x4 =
  if x3 ≤ x4 then
    some (σ, x1)
  else
    if zin x4 n2 = true then
      f_R_sumOf_10 σ (w32 (x1 + (σ k2 (Int.toNat x4)))) n2 k2 x3 (w32 (x4 + 1))
    else none := (zsem_eq _ _ _ _ _ _).trans rfl
set_option maxRecDepth 100000 in
theorem e_R_takeRow (σ : zH) (x1 : Int) : f_R_takeRow σ x1 =
  (f_R_isWithin (zset σ 64 1 0) (σ 64 1) x1).bind fun r1 =>
  if ¬ r1.2 = 0 then
    f_R_takeRow_28 r1.1 (σ 64 1) 0
  else
    some (r1.1, (-1)) := (zsem_eq _ _ _ _ _ _).trans rfl
set_option maxRecDepth 100000 in
theorem e_R_takeRow_28 (σ : zH) (x2 : Int) (x3 : Int) : f_R_takeRow_28 σ x2 x3 =
  if x2 ≤ x3 then
    some (σ, x2)
  else
    (f_Tape_termOf σ x3).bind fun r1 =>
    if r1.2 = (-1) then
      f_R_takeRow_28 r1.1 x2 (w32 (x3 + 1))
    else
      if zio 1 (r1.1 0 11) = true then
        (f_Country_hasTerm r1.1 (Int.toNat (r1.1 0 11)) r1.2).bind fun r2 =>
        if ¬ r2.2 = 0 then
          f_R_takeRow_28 r2.1 x2 (w32 (x3 + 1))
        else
          some (r2.1, (-1))
      else none := (zsem_eq _ _ _ _ _ _).trans rfl
set_option maxRecDepth 100000 in
theorem e_R_fillArrivals (σ : zH) (x1 : Int) : f_R_fillArrivals σ x1 =
  f_R_fillArrivals_2 σ x1 0 := (zsem_eq _ _ _ _ _ _).trans rfl
set_option maxRecDepth 100000 in
theorem e_R_fillArrivals_2 (σ : zH) (x1 : Int) (x2 : Int) : f_R_fillArrivals_2 σ x1 x2 =
  if zio 1 (σ 0 11) = true then
    if (σ (Int.toNat (σ 0 11)) 13) ≤ x2 then
      some (σ, 0)
    else
      if zio 1 (σ 0 11) = true then
        (f_Country_arrival σ (Int.toNat (σ 0 11)) x1 x2 (σ 96 13)).bind fun r1 =>
        if zin x2 10 = true then
          f_R_fillArrivals_2 (zset r1.1 9 (Int.toNat x2) r1.2) x1 (w32 (x2 + 1))
        else none
      else none
  else none := (zsem_eq _ _ _ _ _ _).trans rfl
set_option maxRecDepth 100000 in
theorem e_R_countOf (σ : zH) (x1 : Int) : f_R_countOf σ x1 =
  f_R_countOf_4 σ x1 0 0 := (zsem_eq _ _ _ _ _ _).trans rfl
set_option maxRecDepth 100000 in
theorem e_R_countOf_4 (σ : zH) (x1 : Int) (x2 : Int) (x3 : Int) : f_R_countOf_4 σ x1 x2 x3 =
  if zio 1 (σ 0 11) = true then
    if (σ (Int.toNat (σ 0 11)) 13) ≤ x3 then
      some (σ, x2)
    else
      if zin x3 10 = true then
        if ¬ (σ 9 (Int.toNat x3)) = x1 then
          f_R_countOf_4 σ x1 x2 (w32 (x3 + 1))
        else
          f_R_countOf_4 σ x1 (w32 (x2 + 1)) (w32 (x3 + 1))
      else none
  else none := (zsem_eq _ _ _ _ _ _).trans rfl
set_option maxRecDepth 100000 in
theorem e_R_leastFor (σ : zH) (x1 : Int) : f_R_leastFor σ x1 =
  f_R_leastFor_2 σ x1 0 := (zsem_eq _ _ _ _ _ _).trans rfl
set_option maxRecDepth 100000 in
theorem e_R_leastFor_2 (σ : zH) (x1 : Int) (x2 : Int) : f_R_leastFor_2 σ x1 x2 =
  if zio 1 (σ 0 11) = true then
    if (σ (Int.toNat (σ 0 11)) 13) ≤ x2 then
      some (σ, (-1))
    else
      if zin x2 10 = true then
        if ¬ (σ 9 (Int.toNat x2)) = x1 then
          f_R_leastFor_2 σ x1 (w32 (x2 + 1))
        else
          some (σ, x2)
      else none
  else none := (zsem_eq _ _ _ _ _ _).trans rfl
set_option maxRecDepth 100000 in
theorem e_R_keepFirstWay (σ : zH) (x1 : Int) : f_R_keepFirstWay σ x1 =
  f_R_keepFirstWay_2 σ x1 0 := (zsem_eq _ _ _ _ _ _).trans rfl
set_option maxRecDepth 100000 in
theorem e_R_keepFirstWay_2 (σ : zH) (x1 : Int) (x2 : Int) : f_R_keepFirstWay_2 σ x1 x2 =
  if x1 ≤ x2 then
    some (zset σ 0 15 x1, 0)
  else
    (f_Tape_termOf σ x2).bind fun r1 =>
    (f_R_leastFor r1.1 r1.2).bind fun r2 =>
    if zin x2 15 = true then
      f_R_keepFirstWay_2 (zset r2.1 10 (Int.toNat x2) r2.2) x1 (w32 (x2 + 1))
    else none := (zsem_eq _ _ _ _ _ _).trans rfl
set_option maxRecDepth 100000 in
theorem e_R_tryDays (σ : zH) (x1 : Int) (x2 : Int) : f_R_tryDays σ x1 x2 =
  (f_Stream_copyFrom σ 128 96).bind fun r1 =>
  if zio 1 ((zset r1.1 128 13 x1) 0 11) = true then
    (f_Stream_pass (zset r1.1 128 13 x1) 128 (Int.toNat ((zset r1.1 128 13 x1) 0 11)) x2).bind fun r2 =>
    some (r2.1, 0)
  else none := (zsem_eq _ _ _ _ _ _).trans rfl
set_option maxRecDepth 100000 in
theorem e_R_fillGains (σ : zH) (x1 : Int) (x2 : Int) : f_R_fillGains σ x1 x2 =
  (f_R_tryDays σ x1 x2).bind fun r1 =>
  f_R_fillGains_8 r1.1 x1 0 := (zsem_eq _ _ _ _ _ _).trans rfl
set_option maxRecDepth 100000 in
theorem e_R_fillGains_8 (σ : zH) (x1 : Int) (x3 : Int) : f_R_fillGains_8 σ x1 x3 =
  if zio 1 (σ 0 11) = true then
    if (σ (Int.toNat (σ 0 11)) 15) ≤ x3 then
      some (σ, 0)
    else
      if zio 1 (σ 0 11) = true then
        (f_Country_ownTown σ (Int.toNat (σ 0 11)) x3).bind fun r1 =>
        if ¬ r1.2 = (-1) then
          if zin r1.2 6 = true then
            if zin r1.2 6 = true then
              if zin (w32 ((w32 (x1 * 6)) + x3)) 384 = true then
                f_R_fillGains_8 (zset r1.1 11 (Int.toNat (w32 ((w32 (x1 * 6)) + x3))) (w32 ((r1.1 135 (Int.toNat r1.2)) - (r1.1 103 (Int.toNat r1.2))))) x1 (w32 (x3 + 1))
              else none
            else none
          else none
        else
          if zin (w32 ((w32 (x1 * 6)) + x3)) 384 = true then
            f_R_fillGains_8 (zset r1.1 11 (Int.toNat (w32 ((w32 (x1 * 6)) + x3))) 0) x1 (w32 (x3 + 1))
          else none
      else none
  else none := (zsem_eq _ _ _ _ _ _).trans rfl
set_option maxRecDepth 100000 in
theorem e_R_isRest (σ : zH) (x1 : Int) : f_R_isRest σ x1 =
  f_R_isRest_2 σ x1 0 := (zsem_eq _ _ _ _ _ _).trans rfl
set_option maxRecDepth 100000 in
theorem e_R_isRest_2 (σ : zH) (x1 : Int) (x2 : Int) : f_R_isRest_2 σ x1 x2 =
  if zio 1 (σ 0 11) = true then
    if (σ (Int.toNat (σ 0 11)) 15) ≤ x2 then
      some (σ, 1)
    else
      if zin (w32 ((w32 ((zxor x1 (zshl 1 x2)) * 6)) + x2)) 384 = true then
        if zin (w32 ((w32 (x1 * 6)) + x2)) 384 = true then
          if (σ 11 (Int.toNat (w32 ((w32 ((zxor x1 (zshl 1 x2)) * 6)) + x2)))) ≤ (σ 11 (Int.toNat (w32 ((w32 (x1 * 6)) + x2)))) then
            f_R_isRest_2 σ x1 (w32 (x2 + 1))
          else
            some (σ, 0)
        else none
      else none
  else none := (zsem_eq _ _ _ _ _ _).trans rfl
set_option maxRecDepth 100000 in
theorem e_R_staysSensible (σ : zH) (x1 : Int) (x2 : Int) : f_R_staysSensible σ x1 x2 =
  (f_Stream_copyFrom σ 128 96).bind fun r1 =>
  (f_Dice_begin r1.1 x2).bind fun r2 =>
  (f_Stream_daysLeft r2.1 128).bind fun r3 =>
  f_R_staysSensible_35 r3.1 x1 (zmin 30 r3.2) 0 := (zsem_eq _ _ _ _ _ _).trans rfl
set_option maxRecDepth 100000 in
theorem e_R_staysSensible_35 (σ : zH) (x1 : Int) (x3 : Int) (x4 : Int) : f_R_staysSensible_35 σ x1 x3 x4 =
  if x3 ≤ x4 then
    if zin x1 6 = true then
      if ¬ (σ 138 (Int.toNat x1)) = (-1) then
        some (σ, 0)
      else
        some (σ, 1)
    else none
  else
    if zin x1 6 = true then
      if ¬ (σ 138 (Int.toNat x1)) = (-1) then
        if zin x1 6 = true then
          if ¬ (σ 138 (Int.toNat x1)) = (-1) then
            some (σ, 0)
          else
            some (σ, 1)
        else none
      else
        if zio 1 (σ 0 11) = true then
          (f_Stream_passDrawnDay σ 128 (Int.toNat (σ 0 11))).bind fun r1 =>
          f_R_staysSensible_35 r1.1 x1 x3 (w32 (x4 + 1))
        else none
    else none := (zsem_eq _ _ _ _ _ _).trans rfl
set_option maxRecDepth 100000 in
theorem e_J_fill (σ : zH) (n0 : Nat) (k0 : Nat) (x1 : Int) : f_J_fill σ n0 k0 x1 =
  f_J_fill_5 σ n0 k0 x1 0 (Int.ofNat n0) := (zsem_eq _ _ _ _ _ _).trans rfl
set_option maxRecDepth 100000 in
theorem e_J_fill_5 (σ : zH) (n0 : Nat) (k0 : Nat) (x1 : Int) (x2 : Int) (x3 : Int) : f_J_fill_5 σ n0 k0 x1 x2 x3 =
  if x3 ≤ x2 then
    some (σ, 0)
  else
    if zin x2 n0 = true then
      f_J_fill_5 (zset σ k0 (Int.toNat x2) x1) n0 k0 x1 (w32 (x2 + 1)) x3
    else none := (zsem_eq _ _ _ _ _ _).trans rfl
