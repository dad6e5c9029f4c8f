/-! THE EQUATIONS of the reference (by program) -/
set_option maxRecDepth 100000 in
theorem e_M_thrown (σ : zH)  : f_M_thrown σ  =
  some (σ, σ 0 0) := (zsem_eq _ _ _ _ _ _).trans rfl
set_option maxRecDepth 100000 in
theorem e_M_throwsIf (σ : zH) (x1 : Int) : f_M_throwsIf σ x1 =
  if x1 = 0 then
    if zbl x1 = true then some (zset σ 0 0 0, x1) else none
  else
    if zbl x1 = true then some (zset σ 0 0 1, x1) else none := (zsem_eq _ _ _ _ _ _).trans rfl
set_option maxRecDepth 100000 in
theorem e_M_feed (σ : zH) (x1 : Int) (x2 : Int) (x3 : Int) (x4 : Int) (x5 : Int) : f_M_feed σ x1 x2 x3 x4 x5 =
  if (w32 (((zset σ 0 0 0) 0 2) + 20)) ≤ 940 then
    (f_M_four (zset σ 0 0 0) x1).bind fun r1 =>
    (f_M_four r1.1 x2).bind fun r2 =>
    (f_M_four r2.1 x3).bind fun r3 =>
    (f_M_four r3.1 x4).bind fun r4 =>
    (f_M_four r4.1 x5).bind fun r5 =>
    some (r5.1, r5.1 0 2)
  else
    some (zset σ 0 0 0, (-1)) := (zsem_eq _ _ _ _ _ _).trans rfl
set_option maxRecDepth 100000 in
theorem e_M_four (σ : zH) (x1 : Int) : f_M_four σ x1 =
  f_M_four_3 σ x1 24 := (zsem_eq _ _ _ _ _ _).trans rfl
set_option maxRecDepth 100000 in
theorem e_M_four_3 (σ : zH) (x1 : Int) (x2 : Int) : f_M_four_3 σ x1 x2 =
  if x2 < 0 then
    some (σ, 0)
  else
    if zin (σ 0 2) 940 = true then
      f_M_four_3 (zset (zset σ 2 (Int.toNat (σ 0 2)) (w8 (w8 (zshr x1 x2)))) 0 2 (w32 (((zset σ 2 (Int.toNat (σ 0 2)) (w8 (w8 (zshr x1 x2)))) 0 2) + 1))) x1 (w32 (x2 + (-8)))
    else none := (zsem_eq _ _ _ _ _ _).trans rfl
set_option maxRecDepth 100000 in
theorem e_M_end (σ : zH) (x1 : Int) : f_M_end σ x1 =
  if x1 < 0 then
    some (zset σ 0 0 0, 0)
  else
    if x1 ≤ ((zset σ 0 0 0) 0 2) then
      some (zset (zset σ 0 0 0) 0 2 x1, 1)
    else
      some (zset σ 0 0 0, 0) := (zsem_eq _ _ _ _ _ _).trans rfl
set_option maxRecDepth 100000 in
theorem e_M_taken (σ : zH) (x1 : Int) : f_M_taken σ x1 =
  some (zset (zset (zset (zset σ 0 3 (σ 0 2)) 0 2 0) 0 4 0) 0 5 x1, 0) := (zsem_eq _ _ _ _ _ _).trans rfl
set_option maxRecDepth 100000 in
theorem e_M_isIn (σ : zH) (x0 : Int) (x1 : Int) (x2 : Int) : f_M_isIn σ x0 x1 x2 =
  if x0 < x1 then
    some (σ, 0)
  else
    if x2 < x0 then
      some (σ, 0)
    else
      some (σ, 1) := (zsem_eq _ _ _ _ _ _).trans rfl
set_option maxRecDepth 100000 in
theorem e_M_bitOf (σ : zH) (x0 : Int) (x1 : Int) : f_M_bitOf σ x0 x1 =
  if ¬ (zand (zshr x0 x1) 1) = 1 then
    some (σ, 0)
  else
    some (σ, 1) := (zsem_eq _ _ _ _ _ _).trans rfl
set_option maxRecDepth 100000 in
theorem e_M_octet (σ : zH) (x1 : Int) : f_M_octet σ x1 =
  if zin x1 940 = true then
    some (σ, zand (σ 2 (Int.toNat x1)) 255)
  else none := (zsem_eq _ _ _ _ _ _).trans rfl
set_option maxRecDepth 100000 in
theorem e_M_peek (σ : zH)  : f_M_peek σ  =
  if (σ 0 3) ≤ (σ 0 4) then
    some (σ, (-1))
  else
    if zin (σ 0 4) 940 = true then
      some (σ, zand (σ 2 (Int.toNat (σ 0 4))) 255)
    else none := (zsem_eq _ _ _ _ _ _).trans rfl
set_option maxRecDepth 100000 in
theorem e_M_isSmall (σ : zH) (x0 : Int) : f_M_isSmall σ x0 =
  if x0 < 97 then
    some (σ, 0)
  else
    if 122 < x0 then
      some (σ, 0)
    else
      some (σ, 1) := (zsem_eq _ _ _ _ _ _).trans rfl
set_option maxRecDepth 100000 in
theorem e_M_isDigit (σ : zH) (x0 : Int) : f_M_isDigit σ x0 =
  if x0 < 48 then
    some (σ, 0)
  else
    if 57 < x0 then
      some (σ, 0)
    else
      some (σ, 1) := (zsem_eq _ _ _ _ _ _).trans rfl
set_option maxRecDepth 100000 in
theorem e_M_next (σ : zH)  : f_M_next σ  =
  (f_M_peek σ).bind fun r1 =>
  if r1.2 = 32 then
    f_M_next (zset r1.1 0 4 (w32 ((r1.1 0 4) + 1)))
  else
    (f_M_peek r1.1).bind fun r2 =>
    if ¬ r2.2 = 10 then
      if ((zset (zset r2.1 0 12 (r2.1 0 4)) 0 13 0) 0 3) ≤ ((zset (zset r2.1 0 12 (r2.1 0 4)) 0 13 0) 0 5) then
        f_M_next_80 (zset (zset r2.1 0 12 (r2.1 0 4)) 0 13 0)
      else
        if ((zset (zset r2.1 0 12 (r2.1 0 4)) 0 13 0) 0 4) < ((zset (zset r2.1 0 12 (r2.1 0 4)) 0 13 0) 0 5) then
          f_M_next_80 (zset (zset r2.1 0 12 (r2.1 0 4)) 0 13 0)
        else
          some (zset (zset (zset (zset r2.1 0 12 (r2.1 0 4)) 0 13 0) 0 12 ((zset (zset r2.1 0 12 (r2.1 0 4)) 0 13 0) 0 5)) 0 11 4, 0)
    else
      f_M_next (zset r2.1 0 4 (w32 ((r2.1 0 4) + 1))) := (zsem_eq _ _ _ _ _ _).trans rfl
set_option maxRecDepth 100000 in
theorem e_M_next_80 (σ : zH)  : f_M_next_80 σ  =
  (f_M_peek σ).bind fun r1 =>
  if 0 ≤ r1.2 then
    (f_M_isSmall r1.1 r1.2).bind fun r2 =>
    if ¬ r2.2 = 0 then
      (f_M_isSmall r2.1 r1.2).bind fun r3 =>
      f_M_next_181 (zset (zset r3.1 0 17 0) 0 14 0) r3.2 1
    else
      (f_M_isDigit r2.1 r1.2).bind fun r4 =>
      if ¬ r4.2 = 0 then
        (f_M_isSmall r4.1 r1.2).bind fun r5 =>
        f_M_next_181 (zset (zset r5.1 0 17 0) 0 14 0) r5.2 1
      else
        if r1.2 = 59 then
          some (zset (zset (zset r4.1 0 11 3) 0 14 r1.2) 0 4 (w32 (((zset (zset r4.1 0 11 3) 0 14 r1.2) 0 4) + 1)), 0)
        else
          if r1.2 = 40 then
            some (zset (zset (zset r4.1 0 11 3) 0 14 r1.2) 0 4 (w32 (((zset (zset r4.1 0 11 3) 0 14 r1.2) 0 4) + 1)), 0)
          else
            if r1.2 = 41 then
              some (zset (zset (zset r4.1 0 11 3) 0 14 r1.2) 0 4 (w32 (((zset (zset r4.1 0 11 3) 0 14 r1.2) 0 4) + 1)), 0)
            else
              if r1.2 < 60 then
                some (zset (zset (zset r4.1 0 11 4) 0 14 r1.2) 0 4 (w32 (((zset (zset r4.1 0 11 4) 0 14 r1.2) 0 4) + 1)), 0)
              else
                if 62 < r1.2 then
                  some (zset (zset (zset r4.1 0 11 4) 0 14 r1.2) 0 4 (w32 (((zset (zset r4.1 0 11 4) 0 14 r1.2) 0 4) + 1)), 0)
                else
                  some (zset (zset (zset r4.1 0 11 3) 0 14 r1.2) 0 4 (w32 (((zset (zset r4.1 0 11 3) 0 14 r1.2) 0 4) + 1)), 0)
  else
    some (zset r1.1 0 11 0, 0) := (zsem_eq _ _ _ _ _ _).trans rfl
set_option maxRecDepth 100000 in
theorem e_M_next_181 (σ : zH) (x2 : Int) (x3 : Int) : f_M_next_181 σ x2 x3 =
  (f_M_peek σ).bind fun r1 =>
  (f_M_isSmall r1.1 r1.2).bind fun r2 =>
  if ¬ r2.2 = 0 then
    if x3 = 0 then
      f_M_next_221 r2.1 x2 0
    else
      (f_M_peek r2.1).bind fun r3 =>
      (f_M_isSmall r3.1 r3.2).bind fun r4 =>
      if ¬ r4.2 = x2 then
        f_M_next_221 r4.1 x2 0
      else
        f_M_next_221 r4.1 x2 1
  else
    (f_M_peek r2.1).bind fun r5 =>
    (f_M_isDigit r5.1 r5.2).bind fun r6 =>
    if r6.2 = 0 then
      if x3 = 0 then
        some (zset r6.1 0 11 4, 0)
      else
        if x2 = 0 then
          if (r6.1 0 13) ≤ 3 then
            if x2 = 0 then
              some (zset r6.1 0 11 2, 0)
            else
              some (zset r6.1 0 11 1, 0)
          else
            some (zset r6.1 0 11 4, 0)
        else
          if (r6.1 0 13) ≤ 7 then
            if x2 = 0 then
              some (zset r6.1 0 11 2, 0)
            else
              some (zset r6.1 0 11 1, 0)
          else
            some (zset r6.1 0 11 4, 0)
    else
      if x3 = 0 then
        f_M_next_221 r6.1 x2 0
      else
        (f_M_peek r6.1).bind fun r7 =>
        (f_M_isSmall r7.1 r7.2).bind fun r8 =>
        if ¬ r8.2 = x2 then
          f_M_next_221 r8.1 x2 0
        else
          f_M_next_221 r8.1 x2 1 := (zsem_eq _ _ _ _ _ _).trans rfl
set_option maxRecDepth 100000 in
theorem e_M_next_221 (σ : zH) (x2 : Int) (s0 : Int) : f_M_next_221 σ x2 s0 =
  if 7 ≤ (σ 0 13) then
    f_M_next_248 σ x2 s0
  else
    (f_M_peek σ).bind fun r1 =>
    f_M_next_248 (zset r1.1 0 17 (zlor (zlshl (σ 0 17) 8) r1.2)) x2 s0 := (zsem_eq _ _ _ _ _ _).trans rfl
set_option maxRecDepth 100000 in
theorem e_M_next_248 (σ : zH) (x2 : Int) (x3 : Int) : f_M_next_248 σ x2 x3 =
  if 3 ≤ (σ 0 13) then
    f_M_next_181 (zset (zset σ 0 13 (w32 ((σ 0 13) + 1))) 0 4 (w32 (((zset σ 0 13 (w32 ((σ 0 13) + 1))) 0 4) + 1))) x2 x3
  else
    (f_M_peek σ).bind fun r1 =>
    f_M_next_181 (zset (zset (zset r1.1 0 14 (w32 ((w32 ((w32 (10 * (σ 0 14))) + r1.2)) - 48))) 0 13 (w32 (((zset r1.1 0 14 (w32 ((w32 ((w32 (10 * (σ 0 14))) + r1.2)) - 48))) 0 13) + 1))) 0 4 (w32 (((zset (zset r1.1 0 14 (w32 ((w32 ((w32 (10 * (σ 0 14))) + r1.2)) - 48))) 0 13 (w32 (((zset r1.1 0 14 (w32 ((w32 ((w32 (10 * (σ 0 14))) + r1.2)) - 48))) 0 13) + 1))) 0 4) + 1))) x2 x3 := (zsem_eq _ _ _ _ _ _).trans rfl
set_option maxRecDepth 100000 in
theorem e_M_bad (σ : zH) (x1 : Int) : f_M_bad σ x1 =
  some (zset (zset σ 0 15 x1) 0 16 ((zset σ 0 15 x1) 0 12), 0) := (zsem_eq _ _ _ _ _ _).trans rfl
set_option maxRecDepth 100000 in
theorem e_M_isWord (σ : zH) (x1 : Int) : f_M_isWord σ x1 =
  if ¬ (σ 0 11) = 1 then
    some (σ, 0)
  else
    if ¬ (zcmp (σ 0 17) x1) = 0 then
      some (σ, 0)
    else
      some (σ, 1) := (zsem_eq _ _ _ _ _ _).trans rfl
set_option maxRecDepth 100000 in
theorem e_M_isSign (σ : zH) (x1 : Int) : f_M_isSign σ x1 =
  if ¬ (σ 0 11) = 3 then
    some (σ, 0)
  else
    if ¬ (σ 0 14) = x1 then
      some (σ, 0)
    else
      some (σ, 1) := (zsem_eq _ _ _ _ _ _).trans rfl
set_option maxRecDepth 100000 in
theorem e_M_sign (σ : zH) (x1 : Int) : f_M_sign σ x1 =
  (f_M_isSign σ x1).bind fun r1 =>
  if ¬ r1.2 = 0 then
    (f_M_next r1.1).bind fun r2 =>
    some (r2.1, 1)
  else
    (f_M_bad r1.1 1).bind fun r3 =>
    some (r3.1, r3.2) := (zsem_eq _ _ _ _ _ _).trans rfl
set_option maxRecDepth 100000 in
theorem e_M_isName (σ : zH)  : f_M_isName σ  =
  if ¬ (σ 0 11) = 1 then
    f_M_isName_16 σ 0 0
  else
    f_M_isName_16 σ 1 0 := (zsem_eq _ _ _ _ _ _).trans rfl
set_option maxRecDepth 100000 in
theorem e_M_isName_16 (σ : zH) (x1 : Int) (x2 : Int) : f_M_isName_16 σ x1 x2 =
  if 27 ≤ x2 then
    if zbl x1 = true then some (σ, x1) else none
  else
    if x1 = 0 then
      f_M_isName_16 σ 0 (w32 (x2 + 1))
    else
      if zin x2 27 = true then
        if (zcmp (σ 0 17) (σ 11 (Int.toNat x2))) = 0 then
          f_M_isName_16 σ 0 (w32 (x2 + 1))
        else
          f_M_isName_16 σ 1 (w32 (x2 + 1))
      else none := (zsem_eq _ _ _ _ _ _).trans rfl
set_option maxRecDepth 100000 in
theorem e_M_takes (σ : zH) (x1 : Int) (x2 : Int) : f_M_takes σ x1 x2 =
  if (σ 0 11) = 2 then
    (f_M_isIn σ (σ 0 14) x1 x2).bind fun r1 =>
    if ¬ r1.2 = 0 then
      (f_M_next (zset r1.1 0 18 (r1.1 0 14))).bind fun r2 =>
      some (r2.1, 1)
    else
      (f_M_bad r1.1 2).bind fun r3 =>
      some (r3.1, r3.2)
  else
    (f_M_bad σ 1).bind fun r4 =>
    some (r4.1, r4.2) := (zsem_eq _ _ _ _ _ _).trans rfl
set_option maxRecDepth 100000 in
theorem e_M_find (σ : zH) (x1 : Int) (x2 : Int) : f_M_find σ x1 x2 =
  f_M_find_2 σ x1 x2 0 := (zsem_eq _ _ _ _ _ _).trans rfl
set_option maxRecDepth 100000 in
theorem e_M_find_2 (σ : zH) (x1 : Int) (x2 : Int) (x3 : Int) : f_M_find_2 σ x1 x2 x3 =
  if x2 ≤ x3 then
    some (σ, (-1))
  else
    if zin (w32 (x1 + x3)) 60 = true then
      if ¬ (zcmp (σ 10 (Int.toNat (w32 (x1 + x3)))) (σ 0 17)) = 0 then
        f_M_find_2 σ x1 x2 (w32 (x3 + 1))
      else
        some (σ, x3)
    else none := (zsem_eq _ _ _ _ _ _).trans rfl
set_option maxRecDepth 100000 in
theorem e_M_fresh (σ : zH) (x1 : Int) : f_M_fresh σ x1 =
  (f_M_isName σ).bind fun r1 =>
  if ¬ r1.2 = 0 then
    (f_M_find r1.1 30 (r1.1 8 0)).bind fun r2 =>
    if 0 ≤ r2.2 then
      (f_M_bad r2.1 3).bind fun r3 =>
      some (r3.1, r3.2)
    else
      (f_M_find r2.1 40 (r2.1 8 1)).bind fun r4 =>
      if 0 ≤ r4.2 then
        (f_M_bad r4.1 3).bind fun r5 =>
        some (r5.1, r5.2)
      else
        (f_M_find r4.1 48 (r4.1 8 2)).bind fun r6 =>
        if 0 ≤ r6.2 then
          (f_M_bad r6.1 3).bind fun r7 =>
          some (r7.1, r7.2)
        else
          (f_M_find r6.1 54 (r6.1 8 4)).bind fun r8 =>
          if r8.2 < 0 then
            if zin x1 60 = true then
              (f_M_next (zset r8.1 10 (Int.toNat x1) (r8.1 0 17))).bind fun r9 =>
              some (r9.1, 1)
            else none
          else
            (f_M_bad r8.1 3).bind fun r10 =>
            some (r10.1, r10.2)
  else
    (f_M_bad r1.1 1).bind fun r11 =>
    some (r11.1, r11.2) := (zsem_eq _ _ _ _ _ _).trans rfl
set_option maxRecDepth 100000 in
theorem e_M_looksAt (σ : zH) (x1 : Int) (x2 : Int) : f_M_looksAt σ x1 x2 =
  (f_M_isName σ).bind fun r1 =>
  if ¬ r1.2 = 0 then
    (f_M_find r1.1 x1 x2).bind fun r2 =>
    if 0 ≤ ((zset r2.1 0 18 r2.2) 0 18) then
      some (zset r2.1 0 18 r2.2, 1)
    else
      (f_M_bad (zset r2.1 0 18 r2.2) 3).bind fun r3 =>
      if r3.2 = 0 then
        some (r3.1, 0)
      else
        some (r3.1, 1)
  else
    (f_M_bad r1.1 1).bind fun r4 =>
    some (r4.1, r4.2) := (zsem_eq _ _ _ _ _ _).trans rfl
set_option maxRecDepth 100000 in
theorem e_M_looksAtTerm (σ : zH)  : f_M_looksAtTerm σ  =
  (f_M_looksAt σ 30 (σ 8 0)).bind fun r1 =>
  some (r1.1, r1.2) := (zsem_eq _ _ _ _ _ _).trans rfl
set_option maxRecDepth 100000 in
theorem e_M_looksAtReach (σ : zH)  : f_M_looksAtReach σ  =
  (f_M_looksAt σ 40 (σ 8 1)).bind fun r1 =>
  some (r1.1, r1.2) := (zsem_eq _ _ _ _ _ _).trans rfl
set_option maxRecDepth 100000 in
theorem e_M_sortOf (σ : zH)  : f_M_sortOf σ  =
  (f_M_isWord σ 1852798318).bind fun r1 =>
  if r1.2 = 0 then
    (f_M_isWord r1.1 1986359906).bind fun r2 =>
    if r2.2 = 0 then
      (f_M_isWord r2.1 1818848101).bind fun r3 =>
      if r3.2 = 0 then
        (f_M_isWord r3.1 1937010544).bind fun r4 =>
        if r4.2 = 0 then
          some (r4.1, (-1))
        else
          some (r4.1, 3)
      else
        some (r3.1, 2)
    else
      some (r2.1, 1)
  else
    some (r1.1, 0) := (zsem_eq _ _ _ _ _ _).trans rfl
set_option maxRecDepth 100000 in
theorem e_M_line (σ : zH)  : f_M_line σ  =
  (f_M_sortOf σ).bind fun r1 =>
  if r1.2 < 0 then
    (f_M_isWord r1.1 491327153000).bind fun r2 =>
    if r2.2 = 0 then
      (f_M_isWord r2.1 1935767923).bind fun r3 =>
      if r3.2 = 0 then
        (f_M_isWord r3.1 111481940373362).bind fun r4 =>
        if r4.2 = 0 then
          (f_M_isWord r4.1 126943972911973).bind fun r5 =>
          if ¬ r5.2 = 0 then
            (f_M_readRule r5.1).bind fun r6 =>
            some (r6.1, r6.2)
          else
            (f_M_isWord r5.1 1953854062).bind fun r7 =>
            if r7.2 = 0 then
              (f_M_isWord r7.1 1953462126).bind fun r8 =>
              if r8.2 = 0 then
                (f_M_isWord r8.1 499851162725).bind fun r9 =>
                if ¬ r9.2 = 0 then
                  if ¬ (r9.1 8 5) = 12 then
                    (f_M_next r9.1).bind fun r10 =>
                    (f_M_looksAt r10.1 54 (r10.1 8 4)).bind fun r11 =>
                    if ¬ r11.2 = 0 then
                      (f_M_next r11.1).bind fun r12 =>
                      (f_M_looksAtTerm r12.1).bind fun r13 =>
                      if ¬ r13.2 = 0 then
                        if zin (w32 ((w32 (228 + (w32 (10 * (r11.1 0 18))))) + (r13.1 0 18))) 288 = true then
                          if ¬ (r13.1 8 (Int.toNat (w32 ((w32 (228 + (w32 (10 * (r11.1 0 18))))) + (r13.1 0 18))))) = 1 then
                            if zin (w32 ((w32 (228 + (w32 (10 * (r11.1 0 18))))) + (r13.1 0 18))) 288 = true then
                              (f_M_next (zset (zset r13.1 8 (Int.toNat (w32 ((w32 (228 + (w32 (10 * (r11.1 0 18))))) + (r13.1 0 18)))) 1) 8 5 (w32 (((zset r13.1 8 (Int.toNat (w32 ((w32 (228 + (w32 (10 * (r11.1 0 18))))) + (r13.1 0 18)))) 1) 8 5) + 1)))).bind fun r14 =>
                              some (r14.1, 1)
                            else none
                          else
                            (f_M_bad r13.1 3).bind fun r15 =>
                            some (r15.1, r15.2)
                        else none
                      else
                        some (r13.1, 0)
                    else
                      some (r11.1, 0)
                  else
                    (f_M_bad r9.1 4).bind fun r16 =>
                    some (r16.1, r16.2)
                else
                  (f_M_bad r9.1 1).bind fun r17 =>
                  some (r17.1, r17.2)
              else
                (f_M_readAt r8.1 54 4 216 222).bind fun r18 =>
                some (r18.1, r18.2)
            else
              (f_M_readRule r7.1).bind fun r19 =>
              some (r19.1, r19.2)
        else
          (f_M_readAt r4.1 48 2 144 150).bind fun r20 =>
          some (r20.1, r20.2)
      else
        (f_M_readSays r3.1).bind fun r21 =>
        some (r21.1, r21.2)
    else
      (f_M_readReach r2.1).bind fun r22 =>
      some (r22.1, r22.2)
  else
    if ¬ (r1.1 8 0) = 10 then
      (f_M_next r1.1).bind fun r23 =>
      (f_M_fresh r23.1 (w32 (30 + (r1.1 8 0)))).bind fun r24 =>
      if ¬ r24.2 = 0 then
        if zin (w32 (6 + (r1.1 8 0))) 288 = true then
          some (zset (zset r24.1 8 (Int.toNat (w32 (6 + (r1.1 8 0)))) r1.2) 8 0 (w32 (((zset r24.1 8 (Int.toNat (w32 (6 + (r1.1 8 0)))) r1.2) 8 0) + 1)), 1)
        else none
      else
        some (r24.1, 0)
    else
      (f_M_bad r1.1 4).bind fun r25 =>
      some (r25.1, r25.2) := (zsem_eq _ _ _ _ _ _).trans rfl
set_option maxRecDepth 100000 in
theorem e_M_readReach (σ : zH)  : f_M_readReach σ  =
  if ¬ (σ 8 1) = 8 then
    (f_M_next σ).bind fun r1 =>
    (f_M_fresh r1.1 (w32 (40 + (σ 8 1)))).bind fun r2 =>
    if ¬ r2.2 = 0 then
      (f_M_takes r2.1 1 9).bind fun r3 =>
      if ¬ r3.2 = 0 then
        if zin (w32 (16 + (σ 8 1))) 288 = true then
          if zin (w32 (24 + (σ 8 1))) 288 = true then
            (f_M_isWord (zset (zset r3.1 8 (Int.toNat (w32 (16 + (σ 8 1)))) (r3.1 0 18)) 8 (Int.toNat (w32 (24 + (σ 8 1)))) (-1)) 1768846447).bind fun r4 =>
            if r4.2 = 0 then
              some (zset r4.1 8 1 (w32 ((r4.1 8 1) + 1)), 1)
            else
              (f_M_next r4.1).bind fun r5 =>
              (f_M_looksAtReach r5.1).bind fun r6 =>
              if ¬ r6.2 = 0 then
                if zin (w32 (40 + (r6.1 0 18))) 288 = true then
                  if (r6.1 8 (Int.toNat (w32 (40 + (r6.1 0 18))))) ≤ 0 then
                    if zin (w32 (24 + (σ 8 1))) 288 = true then
                      if zin (w32 (32 + ((zset r6.1 8 (Int.toNat (w32 (24 + (σ 8 1)))) (r6.1 0 18)) 0 18))) 288 = true then
                        if zin (w32 (32 + ((zset r6.1 8 (Int.toNat (w32 (24 + (σ 8 1)))) (r6.1 0 18)) 0 18))) 288 = true then
                          (f_M_next (zset (zset r6.1 8 (Int.toNat (w32 (24 + (σ 8 1)))) (r6.1 0 18)) 8 (Int.toNat (w32 (32 + ((zset r6.1 8 (Int.toNat (w32 (24 + (σ 8 1)))) (r6.1 0 18)) 0 18)))) (w32 (((zset r6.1 8 (Int.toNat (w32 (24 + (σ 8 1)))) (r6.1 0 18)) 8 (Int.toNat (w32 (32 + ((zset r6.1 8 (Int.toNat (w32 (24 + (σ 8 1)))) (r6.1 0 18)) 0 18))))) + 1)))).bind fun r7 =>
                          some (zset r7.1 8 1 (w32 ((r7.1 8 1) + 1)), 1)
                        else none
                      else none
                    else none
                  else
                    (f_M_bad r6.1 3).bind fun r8 =>
                    some (r8.1, r8.2)
                else none
              else
                some (r6.1, 0)
          else none
        else none
      else
        some (r3.1, 0)
    else
      some (r2.1, 0)
  else
    (f_M_bad σ 4).bind fun r9 =>
    some (r9.1, r9.2) := (zsem_eq _ _ _ _ _ _).trans rfl
set_option maxRecDepth 100000 in
theorem e_M_readSays (σ : zH)  : f_M_readSays σ  =
  (f_M_next σ).bind fun r1 =>
  (f_M_looksAtReach r1.1).bind fun r2 =>
  if ¬ r2.2 = 0 then
    if zin (w32 (40 + (r2.1 0 18))) 288 = true then
      if 0 < (r2.1 8 (Int.toNat (w32 (40 + (r2.1 0 18))))) then
        (f_M_bad r2.1 3).bind fun r3 =>
        some (r3.1, r3.2)
      else
        if zin (w32 (32 + (r2.1 0 18))) 288 = true then
          if (r2.1 8 (Int.toNat (w32 (32 + (r2.1 0 18))))) ≤ 0 then
            (f_M_next r2.1).bind fun r4 =>
            f_M_readSays_54 r4.1 (r2.1 0 18) 0
          else
            (f_M_bad r2.1 3).bind fun r5 =>
            some (r5.1, r5.2)
        else none
    else none
  else
    some (r2.1, 0) := (zsem_eq _ _ _ _ _ _).trans rfl
set_option maxRecDepth 100000 in
theorem e_M_readSays_54 (σ : zH) (x1 : Int) (x2 : Int) : f_M_readSays_54 σ x1 x2 =
  if x2 = 0 then
    f_M_readSays_67 σ x1 x2
  else
    (f_M_isSign σ 59).bind fun r1 =>
    if ¬ r1.2 = 0 then
      if zin (w32 (40 + x1)) 288 = true then
        some (zset r1.1 8 (Int.toNat (w32 (40 + x1))) x2, 1)
      else none
    else
      f_M_readSays_67 r1.1 x1 x2 := (zsem_eq _ _ _ _ _ _).trans rfl
set_option maxRecDepth 100000 in
theorem e_M_readSays_67 (σ : zH) (x1 : Int) (x2 : Int) : f_M_readSays_67 σ x1 x2 =
  (f_M_looksAtTerm σ).bind fun r1 =>
  if ¬ r1.2 = 0 then
    if ¬ x2 = 12 then
      if zin (w32 ((w32 (48 + (w32 (12 * x1)))) + x2)) 288 = true then
        (f_M_next (zset r1.1 8 (Int.toNat (w32 ((w32 (48 + (w32 (12 * x1)))) + x2))) (r1.1 0 18))).bind fun r2 =>
        f_M_readSays_54 r2.1 x1 (w32 (x2 + 1))
      else none
    else
      (f_M_bad r1.1 4).bind fun r3 =>
      some (r3.1, r3.2)
  else
    some (r1.1, 0) := (zsem_eq _ _ _ _ _ _).trans rfl
set_option maxRecDepth 100000 in
theorem e_M_readAt (σ : zH) (x1 : Int) (x2 : Int) (x3 : Int) (x4 : Int) : f_M_readAt σ x1 x2 x3 x4 =
  if zin x2 288 = true then
    if ¬ (σ 8 (Int.toNat x2)) = 6 then
      (f_M_next σ).bind fun r1 =>
      (f_M_fresh r1.1 (w32 (x1 + (σ 8 (Int.toNat x2))))).bind fun r2 =>
      if r2.2 = 0 then
        some (r2.1, 0)
      else
        (f_M_looksAtReach r2.1).bind fun r3 =>
        if ¬ r3.2 = 0 then
          (f_M_next r3.1).bind fun r4 =>
          if (r4.1 0 11) = 2 then
            if zin (w32 (16 + (r3.1 0 18))) 288 = true then
              if (r4.1 0 14) < (r4.1 8 (Int.toNat (w32 (16 + (r3.1 0 18))))) then
                f_M_readAt_98 r4.1 x2 x3 x4 (σ 8 (Int.toNat x2)) (r3.1 0 18) 1 0
              else
                (f_M_bad r4.1 2).bind fun r5 =>
                some (r5.1, r5.2)
            else none
          else
            (f_M_bad r4.1 1).bind fun r6 =>
            some (r6.1, r6.2)
        else
          some (r3.1, 0)
    else
      (f_M_bad σ 4).bind fun r7 =>
      some (r7.1, r7.2)
  else none := (zsem_eq _ _ _ _ _ _).trans rfl
set_option maxRecDepth 100000 in
theorem e_M_readAt_98 (σ : zH) (x2 : Int) (x3 : Int) (x4 : Int) (x5 : Int) (x6 : Int) (x7 : Int) (x8 : Int) : f_M_readAt_98 σ x2 x3 x4 x5 x6 x7 x8 =
  if x5 ≤ x8 then
    f_M_readAt_159 σ x2 x3 x4 x5 x6 x7
  else
    if ¬ x2 = 2 then
      f_M_readAt_159 σ x2 x3 x4 x5 x6 x7
    else
      if x7 = 0 then
        f_M_readAt_98 σ x2 x3 x4 x5 x6 0 (w32 (x8 + 1))
      else
        if zin (w32 (x3 + x8)) 288 = true then
          if ¬ (σ 8 (Int.toNat (w32 (x3 + x8)))) = x6 then
            f_M_readAt_98 σ x2 x3 x4 x5 x6 1 (w32 (x8 + 1))
          else
            if zin (w32 (x4 + x8)) 288 = true then
              if (σ 8 (Int.toNat (w32 (x4 + x8)))) = (σ 0 14) then
                f_M_readAt_98 σ x2 x3 x4 x5 x6 0 (w32 (x8 + 1))
              else
                f_M_readAt_98 σ x2 x3 x4 x5 x6 1 (w32 (x8 + 1))
            else none
        else none := (zsem_eq _ _ _ _ _ _).trans rfl
set_option maxRecDepth 100000 in
theorem e_M_readAt_159 (σ : zH) (x2 : Int) (x3 : Int) (x4 : Int) (x5 : Int) (x6 : Int) (x7 : Int) : f_M_readAt_159 σ x2 x3 x4 x5 x6 x7 =
  if ¬ x7 = 0 then
    if zin (w32 (x3 + x5)) 288 = true then
      if zin (w32 (x4 + x5)) 288 = true then
        if zin x2 288 = true then
          if zin x2 288 = true then
            (f_M_next (zset (zset (zset σ 8 (Int.toNat (w32 (x3 + x5))) x6) 8 (Int.toNat (w32 (x4 + x5))) ((zset σ 8 (Int.toNat (w32 (x3 + x5))) x6) 0 14)) 8 (Int.toNat x2) (w32 (((zset (zset σ 8 (Int.toNat (w32 (x3 + x5))) x6) 8 (Int.toNat (w32 (x4 + x5))) ((zset σ 8 (Int.toNat (w32 (x3 + x5))) x6) 0 14)) 8 (Int.toNat x2)) + 1)))).bind fun r1 =>
            some (r1.1, 1)
          else none
        else none
      else none
    else none
  else
    (f_M_bad σ 3).bind fun r2 =>
    some (r2.1, r2.2) := (zsem_eq _ _ _ _ _ _).trans rfl
set_option maxRecDepth 100000 in
theorem e_M_readRule (σ : zH)  : f_M_readRule σ  =
  (f_M_isWord σ 1953854062).bind fun r1 =>
  if ¬ (r1.1 8 3) = 20 then
    (f_M_next r1.1).bind fun r2 =>
    (f_M_looksAt r2.1 48 (r2.1 8 2)).bind fun r3 =>
    if ¬ r3.2 = 0 then
      (f_M_next r3.1).bind fun r4 =>
      (f_M_looksAtTerm r4.1).bind fun r5 =>
      if ¬ r5.2 = 0 then
        if zin (w32 ((w32 (156 + (w32 (10 * (r3.1 0 18))))) + (r5.1 0 18))) 288 = true then
          if (r5.1 8 (Int.toNat (w32 ((w32 (156 + (w32 (10 * (r3.1 0 18))))) + (r5.1 0 18))))) ≤ 0 then
            (f_M_next r5.1).bind fun r6 =>
            if r1.2 = 0 then
              f_M_readRule_139 r6.1 (w32 (156 + (w32 (10 * (r3.1 0 18))))) (r5.1 0 18) 1
            else
              (f_M_looksAtTerm r6.1).bind fun r7 =>
              if ¬ r7.2 = 0 then
                if ¬ (r7.1 0 18) = (r5.1 0 18) then
                  (f_M_next r7.1).bind fun r8 =>
                  f_M_readRule_139 r8.1 (w32 (156 + (w32 (10 * (r3.1 0 18))))) (r5.1 0 18) (w32 (2 + (r7.1 0 18)))
                else
                  (f_M_bad r7.1 3).bind fun r9 =>
                  some (r9.1, r9.2)
              else
                some (r7.1, 0)
          else
            (f_M_bad r5.1 3).bind fun r10 =>
            some (r10.1, r10.2)
        else none
      else
        some (r5.1, 0)
    else
      some (r3.1, 0)
  else
    (f_M_bad r1.1 4).bind fun r11 =>
    some (r11.1, r11.2) := (zsem_eq _ _ _ _ _ _).trans rfl
set_option maxRecDepth 100000 in
theorem e_M_readRule_139 (σ : zH) (x2 : Int) (x3 : Int) (x4 : Int) : f_M_readRule_139 σ x2 x3 x4 =
  if zin (w32 (x2 + x3)) 288 = true then
    some (zset (zset σ 8 (Int.toNat (w32 (x2 + x3))) x4) 8 3 (w32 (((zset σ 8 (Int.toNat (w32 (x2 + x3))) x4) 8 3) + 1)), 1)
  else none := (zsem_eq _ _ _ _ _ _).trans rfl
set_option maxRecDepth 100000 in
theorem e_M_country (σ : zH)  : f_M_country σ  =
  (f_M_taken (zset σ 0 0 0) 900).bind fun r1 =>
  f_M_country_24 (zset (zset r1.1 0 15 0) 0 19 0) 0 := (zsem_eq _ _ _ _ _ _).trans rfl
set_option maxRecDepth 100000 in
theorem e_M_country_24 (σ : zH) (x1 : Int) : f_M_country_24 σ x1 =
  if 288 ≤ x1 then
    (f_M_next σ).bind fun r1 =>
    f_M_country_48 r1.1
  else
    if zin x1 288 = true then
      f_M_country_24 (zset σ 8 (Int.toNat x1) 0) (w32 (x1 + 1))
    else none := (zsem_eq _ _ _ _ _ _).trans rfl
set_option maxRecDepth 100000 in
theorem e_M_country_48 (σ : zH)  : f_M_country_48 σ  =
  if (σ 0 11) = 0 then
    f_M_country_93 σ 0
  else
    (f_M_line σ).bind fun r1 =>
    if r1.2 = 0 then
      some (r1.1, w32 ((-1) - (r1.1 0 16)))
    else
      (f_M_sign r1.1 59).bind fun r2 =>
      if ¬ r2.2 = 0 then
        f_M_country_48 (zset r2.1 0 19 (w32 ((r2.1 0 19) + 1)))
      else
        some (r2.1, w32 ((-1) - (r2.1 0 16))) := (zsem_eq _ _ _ _ _ _).trans rfl
set_option maxRecDepth 100000 in
theorem e_M_country_93 (σ : zH) (x1 : Int) : f_M_country_93 σ x1 =
  if 2959 ≤ x1 then
    f_M_country_131 σ 0
  else
    if 288 ≤ x1 then
      if zin x1 2959 = true then
        f_M_country_93 (zset σ 7 (Int.toNat x1) 0) (w32 (x1 + 1))
      else none
    else
      if zin x1 288 = true then
        if zin x1 2959 = true then
          f_M_country_93 (zset σ 7 (Int.toNat x1) (σ 8 (Int.toNat x1))) (w32 (x1 + 1))
        else none
      else none := (zsem_eq _ _ _ _ _ _).trans rfl
set_option maxRecDepth 100000 in
theorem e_M_country_131 (σ : zH) (x1 : Int) : f_M_country_131 σ x1 =
  if 30 ≤ x1 then
    some (zset σ 0 23 0, (zset σ 0 23 0) 0 19)
  else
    if zin (w32 (30 + x1)) 60 = true then
      if zin x1 60 = true then
        f_M_country_131 (zset σ 10 (Int.toNat x1) (σ 10 (Int.toNat (w32 (30 + x1))))) (w32 (x1 + 1))
      else none
    else none := (zsem_eq _ _ _ _ _ _).trans rfl
set_option maxRecDepth 100000 in
theorem e_M_fault (σ : zH)  : f_M_fault σ  =
  some (zset σ 0 0 0, (zset σ 0 0 0) 0 15) := (zsem_eq _ _ _ _ _ _).trans rfl
set_option maxRecDepth 100000 in
theorem e_M_isTerm (σ : zH) (x1 : Int) : f_M_isTerm σ x1 =
  (f_M_isIn σ x1 0 (w32 ((σ 7 0) - 1))).bind fun r1 =>
  some (r1.1, r1.2) := (zsem_eq _ _ _ _ _ _).trans rfl
set_option maxRecDepth 100000 in
theorem e_M_isReach (σ : zH) (x1 : Int) : f_M_isReach σ x1 =
  (f_M_isIn σ x1 0 (w32 ((σ 7 1) - 1))).bind fun r1 =>
  some (r1.1, r1.2) := (zsem_eq _ _ _ _ _ _).trans rfl
set_option maxRecDepth 100000 in
theorem e_M_isEditor (σ : zH) (x1 : Int) : f_M_isEditor σ x1 =
  (f_M_isIn σ x1 0 (w32 ((σ 7 2) - 1))).bind fun r1 =>
  some (r1.1, r1.2) := (zsem_eq _ _ _ _ _ _).trans rfl
set_option maxRecDepth 100000 in
theorem e_M_isTown (σ : zH) (x1 : Int) : f_M_isTown σ x1 =
  (f_M_isIn σ x1 0 (w32 ((σ 7 4) - 1))).bind fun r1 =>
  some (r1.1, r1.2) := (zsem_eq _ _ _ _ _ _).trans rfl
set_option maxRecDepth 100000 in
theorem e_M_isPlace (σ : zH) (x1 : Int) (x2 : Int) : f_M_isPlace σ x1 x2 =
  (f_M_isReach σ x1).bind fun r1 =>
  if r1.2 = 0 then
    some (r1.1, 0)
  else
    if zin (w32 (16 + x1)) 2959 = true then
      (f_M_isIn r1.1 x2 0 (w32 ((r1.1 7 (Int.toNat (w32 (16 + x1)))) - 1))).bind fun r2 =>
      if r2.2 = 0 then
        some (r2.1, 0)
      else
        some (r2.1, 1)
    else none := (zsem_eq _ _ _ _ _ _).trans rfl
set_option maxRecDepth 100000 in
theorem e_M_term (σ : zH) (x1 : Int) : f_M_term σ x1 =
  (f_M_isTerm (zset σ 0 0 0) x1).bind fun r1 =>
  if r1.2 = 0 then
    some (r1.1, (-1))
  else
    if zin (w32 (6 + x1)) 2959 = true then
      some (r1.1, r1.1 7 (Int.toNat (w32 (6 + x1))))
    else none := (zsem_eq _ _ _ _ _ _).trans rfl
set_option maxRecDepth 100000 in
theorem e_M_saysOn (σ : zH) (x1 : Int) (x2 : Int) : f_M_saysOn σ x1 x2 =
  if zin (w32 (40 + x1)) 2959 = true then
    if znz (σ 7 (Int.toNat (w32 (40 + x1)))) = true then
      if zin (w32 ((w32 (48 + (w32 (12 * x1)))) + (Int.tmod x2 (σ 7 (Int.toNat (w32 (40 + x1))))))) 2959 = true then
        some (σ, σ 7 (Int.toNat (w32 ((w32 (48 + (w32 (12 * x1)))) + (Int.tmod x2 (σ 7 (Int.toNat (w32 (40 + x1)))))))))
      else none
    else none
  else none := (zsem_eq _ _ _ _ _ _).trans rfl
set_option maxRecDepth 100000 in
theorem e_M_reach (σ : zH) (x1 : Int) (x2 : Int) : f_M_reach σ x1 x2 =
  (f_M_isReach (zset σ 0 0 0) x1).bind fun r1 =>
  if ¬ r1.2 = 0 then
    if x2 = 0 then
      if zin (w32 (16 + x1)) 2959 = true then
        some (r1.1, r1.1 7 (Int.toNat (w32 (16 + x1))))
      else none
    else
    if x2 = 1 then
      if zin (w32 (24 + x1)) 2959 = true then
        some (r1.1, r1.1 7 (Int.toNat (w32 (24 + x1))))
      else none
    else
    if x2 = 2 then
      if zin (w32 (32 + x1)) 2959 = true then
        some (r1.1, r1.1 7 (Int.toNat (w32 (32 + x1))))
      else none
    else
    if x2 = 3 then
      if zin (w32 (40 + x1)) 2959 = true then
        some (r1.1, r1.1 7 (Int.toNat (w32 (40 + x1))))
      else none
    else
    if x2 = 4 then
      if zin (w32 (40 + x1)) 2959 = true then
        if ¬ (r1.1 7 (Int.toNat (w32 (40 + x1)))) = 0 then
          (f_M_saysOn r1.1 x1 (r1.1 7 288)).bind fun r2 =>
          some (r2.1, r2.2)
        else
          some (r1.1, (-1))
      else none
    else
    some (r1.1, (-1))
  else
    some (r1.1, (-1)) := (zsem_eq _ _ _ _ _ _).trans rfl
set_option maxRecDepth 100000 in
theorem e_M_at (σ : zH) (x1 : Int) (x2 : Int) : f_M_at σ x1 x2 =
  (f_M_isPlace σ x1 x2).bind fun r1 =>
  if ¬ r1.2 = 0 then
    f_M_at_15 r1.1 x1 x2 0
  else
    f_M_at_15 r1.1 x1 x2 1 := (zsem_eq _ _ _ _ _ _).trans rfl
set_option maxRecDepth 100000 in
theorem e_M_at_15 (σ : zH) (x1 : Int) (x2 : Int) (s1 : Int) : f_M_at_15 σ x1 x2 s1 =
  (f_M_throwsIf σ s1).bind fun r1 =>
  if r1.2 = 0 then
    if zin (w32 ((w32 (306 + (w32 (9 * x1)))) + x2)) 2959 = true then
      some (r1.1, w32 ((r1.1 7 (Int.toNat (w32 ((w32 (306 + (w32 (9 * x1)))) + x2)))) - 1))
    else none
  else
    some (r1.1, 0) := (zsem_eq _ _ _ _ _ _).trans rfl
set_option maxRecDepth 100000 in
theorem e_M_editor (σ : zH) (x1 : Int) (x2 : Int) : f_M_editor σ x1 x2 =
  (f_M_isEditor (zset σ 0 0 0) x1).bind fun r1 =>
  if ¬ r1.2 = 0 then
    if x2 = 0 then
      if zin (w32 (144 + x1)) 2959 = true then
        some (r1.1, r1.1 7 (Int.toNat (w32 (144 + x1))))
      else none
    else
    if x2 = 1 then
      if zin (w32 (150 + x1)) 2959 = true then
        some (r1.1, r1.1 7 (Int.toNat (w32 (150 + x1))))
      else none
    else
    if x2 = 2 then
      (f_M_bitOf r1.1 (r1.1 7 293) x1).bind fun r2 =>
      if r2.2 = 0 then
        some (r2.1, 1)
      else
        some (r2.1, 0)
    else
    if x2 = 3 then
      if zin (w32 (294 + x1)) 2959 = true then
        some (r1.1, r1.1 7 (Int.toNat (w32 (294 + x1))))
      else none
    else
    if x2 = 4 then
      if zin (w32 (300 + x1)) 2959 = true then
        some (r1.1, r1.1 7 (Int.toNat (w32 (300 + x1))))
      else none
    else
    some (r1.1, (-1))
  else
    some (r1.1, (-1)) := (zsem_eq _ _ _ _ _ _).trans rfl
set_option maxRecDepth 100000 in
theorem e_M_madeOf (σ : zH) (x1 : Int) (x2 : Int) : f_M_madeOf σ x1 x2 =
  if zin (w32 ((w32 (156 + (w32 (10 * x1)))) + x2)) 2959 = true then
    if ¬ (σ 7 (Int.toNat (w32 ((w32 (156 + (w32 (10 * x1)))) + x2)))) = 0 then
      some (σ, w32 ((σ 7 (Int.toNat (w32 ((w32 (156 + (w32 (10 * x1)))) + x2)))) - 2))
    else
      some (σ, x2)
  else none := (zsem_eq _ _ _ _ _ _).trans rfl
set_option maxRecDepth 100000 in
theorem e_M_makes (σ : zH) (x1 : Int) (x2 : Int) : f_M_makes σ x1 x2 =
  (f_M_isEditor (zset σ 0 0 0) x1).bind fun r1 =>
  if r1.2 = 0 then
    some (r1.1, (-2))
  else
    (f_M_isTerm r1.1 x2).bind fun r2 =>
    if r2.2 = 0 then
      some (r2.1, (-2))
    else
      (f_M_madeOf r2.1 x1 x2).bind fun r3 =>
      some (r3.1, r3.2) := (zsem_eq _ _ _ _ _ _).trans rfl
set_option maxRecDepth 100000 in
theorem e_M_wellOf (σ : zH) (x1 : Int) (x2 : Int) : f_M_wellOf σ x1 x2 =
  if zin (w32 ((w32 (378 + (w32 (400 * x1)))) + x2)) 2959 = true then
    some (σ, w32 ((σ 7 (Int.toNat (w32 ((w32 (378 + (w32 (400 * x1)))) + x2)))) - 1))
  else none := (zsem_eq _ _ _ _ _ _).trans rfl
set_option maxRecDepth 100000 in
theorem e_M_wordsOf (σ : zH) (x1 : Int) (x2 : Int) (x3 : Int) : f_M_wordsOf σ x1 x2 x3 =
  f_M_wordsOf_6 σ x1 x3 0 x2 := (zsem_eq _ _ _ _ _ _).trans rfl
set_option maxRecDepth 100000 in
theorem e_M_wordsOf_6 (σ : zH) (x1 : Int) (x3 : Int) (x4 : Int) (x5 : Int) : f_M_wordsOf_6 σ x1 x3 x4 x5 =
  if (σ 7 288) ≤ x5 then
    some (σ, x4)
  else
    (f_M_wellOf σ x1 x5).bind fun r1 =>
    if r1.2 < 0 then
      f_M_wordsOf_6 r1.1 x1 x3 (w32 (x4 + 0)) (w32 (x5 + 1))
    else
      if x3 = 0 then
        f_M_wordsOf_6 r1.1 x1 x3 (w32 (x4 + 1)) (w32 (x5 + 1))
      else
        if zin (w32 ((w32 (228 + (w32 (10 * x1)))) + r1.2)) 2959 = true then
          if ¬ (r1.1 7 (Int.toNat (w32 ((w32 (228 + (w32 (10 * x1)))) + r1.2)))) = 1 then
            f_M_wordsOf_6 r1.1 x1 x3 (w32 (x4 + 0)) (w32 (x5 + 1))
          else
            f_M_wordsOf_6 r1.1 x1 x3 (w32 (x4 + 1)) (w32 (x5 + 1))
        else none := (zsem_eq _ _ _ _ _ _).trans rfl
set_option maxRecDepth 100000 in
theorem e_M_lastOf (σ : zH) (x1 : Int) : f_M_lastOf σ x1 =
  if ¬ (σ 7 288) = 0 then
    (f_M_wellOf σ x1 (w32 ((σ 7 288) - 1))).bind fun r1 =>
    some (r1.1, r1.2)
  else
    some (σ, (-1)) := (zsem_eq _ _ _ _ _ _).trans rfl
set_option maxRecDepth 100000 in
theorem e_M_town (σ : zH) (x1 : Int) (x2 : Int) : f_M_town σ x1 x2 =
  (f_M_isTown σ x1).bind fun r1 =>
  if r1.2 = 0 then
    f_M_town_23 r1.1 x1 x2 1
  else
    (f_M_isIn r1.1 x2 0 5).bind fun r2 =>
    if ¬ r2.2 = 0 then
      f_M_town_23 r2.1 x1 x2 0
    else
      f_M_town_23 r2.1 x1 x2 1 := (zsem_eq _ _ _ _ _ _).trans rfl
set_option maxRecDepth 100000 in
theorem e_M_town_23 (σ : zH) (x1 : Int) (x2 : Int) (s1 : Int) : f_M_town_23 σ x1 x2 s1 =
  (f_M_throwsIf σ s1).bind fun r1 =>
  if r1.2 = 0 then
    if x2 = 0 then
      if zin (w32 (216 + x1)) 2959 = true then
        some (r1.1, r1.1 7 (Int.toNat (w32 (216 + x1))))
      else none
    else
    if x2 = 1 then
      if zin (w32 (222 + x1)) 2959 = true then
        some (r1.1, r1.1 7 (Int.toNat (w32 (222 + x1))))
      else none
    else
    if x2 = 2 then
      (f_M_lastOf r1.1 x1).bind fun r2 =>
      some (r2.1, r2.2)
    else
    if x2 = 3 then
      (f_M_wordsOf r1.1 x1 0 0).bind fun r3 =>
      some (r3.1, r3.2)
    else
    if x2 = 4 then
      (f_M_wordsOf r1.1 x1 0 1).bind fun r4 =>
      some (r4.1, r4.2)
    else
    f_M_town_114 r1.1 x1 0
  else
    some (r1.1, 0) := (zsem_eq _ _ _ _ _ _).trans rfl
set_option maxRecDepth 100000 in
theorem e_M_town_114 (σ : zH) (x1 : Int) (x3 : Int) : f_M_town_114 σ x1 x3 =
  if (σ 7 288) ≤ x3 then
    some (σ, (-1))
  else
    (f_M_wellOf σ x1 x3).bind fun r1 =>
    if r1.2 < 0 then
      f_M_town_114 r1.1 x1 (w32 (x3 + 1))
    else
      some (r1.1, x3) := (zsem_eq _ _ _ _ _ _).trans rfl
set_option maxRecDepth 100000 in
theorem e_M_now (σ : zH) (x1 : Int) : f_M_now σ x1 =
  f_M_now_9 (zset σ 0 0 0) x1 0 0 := (zsem_eq _ _ _ _ _ _).trans rfl
set_option maxRecDepth 100000 in
theorem e_M_now_9 (σ : zH) (x1 : Int) (x2 : Int) (x3 : Int) : f_M_now_9 σ x1 x2 x3 =
  if 72 ≤ x3 then
    if ¬ x1 = 1 then
      if ¬ x1 = 0 then
        if ¬ x1 = 2 then
          if ¬ x1 = 3 then
            if ¬ x1 = 4 then
              if ¬ x1 = 5 then
                some (σ, (-1))
              else
                some (σ, σ 7 292)
            else
              some (σ, σ 7 291)
          else
            some (σ, σ 7 290)
        else
          some (σ, σ 7 289)
      else
        some (σ, σ 7 288)
    else
      some (σ, x2)
  else
    if zin (w32 (306 + x3)) 2959 = true then
      if (σ 7 (Int.toNat (w32 (306 + x3)))) ≤ 0 then
        f_M_now_9 σ x1 (w32 (x2 + 0)) (w32 (x3 + 1))
      else
        f_M_now_9 σ x1 (w32 (x2 + 1)) (w32 (x3 + 1))
    else none := (zsem_eq _ _ _ _ _ _).trans rfl
set_option maxRecDepth 100000 in
theorem e_M_comesTo (σ : zH) (x1 : Int) : f_M_comesTo σ x1 =
  if zin (w32 (40 + x1)) 2959 = true then
    if (σ 7 (Int.toNat (w32 (40 + x1)))) ≤ 0 then
      f_M_comesTo_32 σ x1 0 0
    else
      (f_M_saysOn σ x1 (σ 7 288)).bind fun r1 =>
      some (r1.1, w32 (r1.2 + 1))
  else none := (zsem_eq _ _ _ _ _ _).trans rfl
set_option maxRecDepth 100000 in
theorem e_M_comesTo_32 (σ : zH) (x1 : Int) (x2 : Int) (x3 : Int) : f_M_comesTo_32 σ x1 x2 x3 =
  if (σ 7 1) ≤ x3 then
    some (σ, x2)
  else
    if zin (w32 (24 + x3)) 2959 = true then
      if ¬ (σ 7 (Int.toNat (w32 (24 + x3)))) = x1 then
        f_M_comesTo_80 σ x1 x2 x3 0
      else
        if zin (w32 (16 + x3)) 2959 = true then
          if zin (w32 ((w32 ((w32 (9 * x3)) + (σ 7 (Int.toNat (w32 (16 + x3)))))) - 1)) 72 = true then
            f_M_comesTo_80 σ x1 x2 x3 (σ 21 (Int.toNat (w32 ((w32 ((w32 (9 * x3)) + (σ 7 (Int.toNat (w32 (16 + x3)))))) - 1))))
          else none
        else none
    else none := (zsem_eq _ _ _ _ _ _).trans rfl
set_option maxRecDepth 100000 in
theorem e_M_comesTo_80 (σ : zH) (x1 : Int) (x2 : Int) (x3 : Int) (s0 : Int) : f_M_comesTo_80 σ x1 x2 x3 s0 =
  if ¬ s0 = 0 then
    if x2 ≤ 0 then
      if ¬ x2 = 0 then
        f_M_comesTo_32 σ x1 x2 (w32 (x3 + 1))
      else
        f_M_comesTo_32 σ x1 s0 (w32 (x3 + 1))
    else
      if s0 = x2 then
        if ¬ x2 = 0 then
          f_M_comesTo_32 σ x1 x2 (w32 (x3 + 1))
        else
          f_M_comesTo_32 σ x1 s0 (w32 (x3 + 1))
      else
        if ¬ x2 = 0 then
          f_M_comesTo_32 (zset σ 7 289 (w32 ((σ 7 289) + 1))) x1 x2 (w32 (x3 + 1))
        else
          f_M_comesTo_32 (zset σ 7 289 (w32 ((σ 7 289) + 1))) x1 s0 (w32 (x3 + 1))
  else
    f_M_comesTo_32 σ x1 x2 (w32 (x3 + 1)) := (zsem_eq _ _ _ _ _ _).trans rfl
set_option maxRecDepth 100000 in
theorem e_M_edits (σ : zH) (x1 : Int) : f_M_edits σ x1 =
  if zin (w32 (144 + x1)) 2959 = true then
    if zin (w32 (150 + x1)) 2959 = true then
      (f_M_bitOf σ (σ 7 293) x1).bind fun r1 =>
      if ¬ r1.2 = 0 then
        some (r1.1, 0)
      else
        if zin (w32 ((w32 (306 + (w32 (9 * (σ 7 (Int.toNat (w32 (144 + x1)))))))) + (σ 7 (Int.toNat (w32 (150 + x1)))))) 2959 = true then
          if ¬ (r1.1 7 (Int.toNat (w32 ((w32 (306 + (w32 (9 * (σ 7 (Int.toNat (w32 (144 + x1)))))))) + (σ 7 (Int.toNat (w32 (150 + x1)))))))) = 0 then
            if zin (w32 ((w32 (306 + (w32 (9 * (σ 7 (Int.toNat (w32 (144 + x1)))))))) + (σ 7 (Int.toNat (w32 (150 + x1)))))) 2959 = true then
              (f_M_madeOf r1.1 x1 (w32 ((r1.1 7 (Int.toNat (w32 ((w32 (306 + (w32 (9 * (σ 7 (Int.toNat (w32 (144 + x1)))))))) + (σ 7 (Int.toNat (w32 (150 + x1)))))))) - 1))).bind fun r2 =>
              if zin (w32 ((w32 (306 + (w32 (9 * (σ 7 (Int.toNat (w32 (144 + x1)))))))) + (σ 7 (Int.toNat (w32 (150 + x1)))))) 2959 = true then
                if ¬ r2.2 = (w32 ((r2.1 7 (Int.toNat (w32 ((w32 (306 + (w32 (9 * (σ 7 (Int.toNat (w32 (144 + x1)))))))) + (σ 7 (Int.toNat (w32 (150 + x1)))))))) - 1)) then
                  if 0 ≤ r2.2 then
                    if 0 ≤ r2.2 then
                      f_M_edits_120 (zset r2.1 7 292 (w32 ((r2.1 7 292) + 1))) x1 (w32 ((w32 (306 + (w32 (9 * (σ 7 (Int.toNat (w32 (144 + x1)))))))) + (σ 7 (Int.toNat (w32 (150 + x1)))))) r2.2 300
                    else
                      f_M_edits_120 (zset r2.1 7 292 (w32 ((r2.1 7 292) + 1))) x1 (w32 ((w32 (306 + (w32 (9 * (σ 7 (Int.toNat (w32 (144 + x1)))))))) + (σ 7 (Int.toNat (w32 (150 + x1)))))) r2.2 294
                  else
                    if 0 ≤ r2.2 then
                      f_M_edits_120 (zset r2.1 7 291 (w32 ((r2.1 7 291) + 1))) x1 (w32 ((w32 (306 + (w32 (9 * (σ 7 (Int.toNat (w32 (144 + x1)))))))) + (σ 7 (Int.toNat (w32 (150 + x1)))))) r2.2 300
                    else
                      f_M_edits_120 (zset r2.1 7 291 (w32 ((r2.1 7 291) + 1))) x1 (w32 ((w32 (306 + (w32 (9 * (σ 7 (Int.toNat (w32 (144 + x1)))))))) + (σ 7 (Int.toNat (w32 (150 + x1)))))) r2.2 294
                else
                  some (r2.1, 0)
              else none
            else none
          else
            some (r1.1, 0)
        else none
    else none
  else none := (zsem_eq _ _ _ _ _ _).trans rfl
set_option maxRecDepth 100000 in
theorem e_M_edits_120 (σ : zH) (x1 : Int) (x2 : Int) (x3 : Int) (s1 : Int) : f_M_edits_120 σ x1 x2 x3 s1 =
  if zin (w32 (s1 + x1)) 2959 = true then
    if zin (w32 (s1 + x1)) 2959 = true then
      if zin x2 2959 = true then
        some (zset (zset σ 7 (Int.toNat (w32 (s1 + x1))) (w32 ((σ 7 (Int.toNat (w32 (s1 + x1)))) + 1))) 7 (Int.toNat x2) (w32 (x3 + 1)), 0)
      else none
    else none
  else none := (zsem_eq _ _ _ _ _ _).trans rfl
set_option maxRecDepth 100000 in
theorem e_M_day (σ : zH)  : f_M_day σ  =
  f_M_day_2 σ 0 := (zsem_eq _ _ _ _ _ _).trans rfl
set_option maxRecDepth 100000 in
theorem e_M_day_2 (σ : zH) (x1 : Int) : f_M_day_2 σ x1 =
  if 72 ≤ x1 then
    f_M_day_32 σ 0
  else
    if zin (w32 (306 + x1)) 2959 = true then
      if zin x1 72 = true then
        f_M_day_2 (zset σ 21 (Int.toNat x1) (σ 7 (Int.toNat (w32 (306 + x1))))) (w32 (x1 + 1))
      else none
    else none := (zsem_eq _ _ _ _ _ _).trans rfl
set_option maxRecDepth 100000 in
theorem e_M_day_32 (σ : zH) (x1 : Int) : f_M_day_32 σ x1 =
  if (σ 7 1) ≤ x1 then
    f_M_day_168 σ 0
  else
    if zin (w32 (16 + x1)) 2959 = true then
      if zin (w32 ((w32 ((w32 (9 * x1)) + (σ 7 (Int.toNat (w32 (16 + x1)))))) - 1)) 72 = true then
        if zin (w32 (24 + x1)) 2959 = true then
          if 0 ≤ (σ 7 (Int.toNat (w32 (24 + x1)))) then
            if zin (w32 (16 + x1)) 2959 = true then
              f_M_day_104 σ x1 (w32 ((σ 7 (Int.toNat (w32 (16 + x1)))) - 1))
            else none
          else
            if (σ 21 (Int.toNat (w32 ((w32 ((w32 (9 * x1)) + (σ 7 (Int.toNat (w32 (16 + x1)))))) - 1)))) ≤ 0 then
              if zin (w32 (16 + x1)) 2959 = true then
                f_M_day_104 σ x1 (w32 ((σ 7 (Int.toNat (w32 (16 + x1)))) - 1))
              else none
            else
              if zin (w32 (16 + x1)) 2959 = true then
                f_M_day_104 (zset σ 7 290 (w32 ((σ 7 290) + 1))) x1 (w32 (((zset σ 7 290 (w32 ((σ 7 290) + 1))) 7 (Int.toNat (w32 (16 + x1)))) - 1))
              else none
        else none
      else none
    else none := (zsem_eq _ _ _ _ _ _).trans rfl
set_option maxRecDepth 100000 in
theorem e_M_day_104 (σ : zH) (x1 : Int) (x3 : Int) : f_M_day_104 σ x1 x3 =
  if x3 ≤ 0 then
    (f_M_comesTo σ x1).bind fun r1 =>
    if zin (w32 (306 + (w32 (9 * x1)))) 2959 = true then
      f_M_day_32 (zset r1.1 7 (Int.toNat (w32 (306 + (w32 (9 * x1))))) r1.2) (w32 (x1 + 1))
    else none
  else
    if zin (w32 ((w32 ((w32 (9 * x1)) + x3)) - 1)) 72 = true then
      if zin (w32 ((w32 (306 + (w32 (9 * x1)))) + x3)) 2959 = true then
        f_M_day_104 (zset σ 7 (Int.toNat (w32 ((w32 (306 + (w32 (9 * x1)))) + x3))) (σ 21 (Int.toNat (w32 ((w32 ((w32 (9 * x1)) + x3)) - 1))))) x1 (w32 (x3 + (-1)))
      else none
    else none := (zsem_eq _ _ _ _ _ _).trans rfl
set_option maxRecDepth 100000 in
theorem e_M_day_168 (σ : zH) (x1 : Int) : f_M_day_168 σ x1 =
  if (σ 7 2) ≤ x1 then
    f_M_day_191 σ 0
  else
    (f_M_edits σ x1).bind fun r1 =>
    f_M_day_168 r1.1 (w32 (x1 + 1)) := (zsem_eq _ _ _ _ _ _).trans rfl
set_option maxRecDepth 100000 in
theorem e_M_day_191 (σ : zH) (x1 : Int) : f_M_day_191 σ x1 =
  if (σ 7 4) ≤ x1 then
    some (zset σ 7 288 (w32 ((σ 7 288) + 1)), 0)
  else
    if zin (w32 (216 + x1)) 2959 = true then
      if zin (w32 (222 + x1)) 2959 = true then
        if zin (w32 ((w32 (306 + (w32 (9 * (σ 7 (Int.toNat (w32 (216 + x1)))))))) + (σ 7 (Int.toNat (w32 (222 + x1)))))) 2959 = true then
          if zin (w32 ((w32 (378 + (w32 (400 * x1)))) + (σ 7 288))) 2959 = true then
            f_M_day_191 (zset σ 7 (Int.toNat (w32 ((w32 (378 + (w32 (400 * x1)))) + (σ 7 288)))) (σ 7 (Int.toNat (w32 ((w32 (306 + (w32 (9 * (σ 7 (Int.toNat (w32 (216 + x1)))))))) + (σ 7 (Int.toNat (w32 (222 + x1))))))))) (w32 (x1 + 1))
          else none
        else none
      else none
    else none := (zsem_eq _ _ _ _ _ _).trans rfl
set_option maxRecDepth 100000 in
theorem e_M_goes (σ : zH) (x1 : Int) : f_M_goes σ x1 =
  f_M_goes_2 σ x1 0 := (zsem_eq _ _ _ _ _ _).trans rfl
set_option maxRecDepth 100000 in
theorem e_M_goes_2 (σ : zH) (x1 : Int) (x2 : Int) : f_M_goes_2 σ x1 x2 =
  if x1 ≤ x2 then
    some (σ, x2)
  else
    if 400 ≤ (σ 7 288) then
      some (σ, x2)
    else
      (f_M_day σ).bind fun r1 =>
      f_M_goes_2 r1.1 x1 (w32 (x2 + 1)) := (zsem_eq _ _ _ _ _ _).trans rfl
set_option maxRecDepth 100000 in
theorem e_M_days (σ : zH) (x1 : Int) : f_M_days σ x1 =
  (f_M_isIn (zset σ 0 0 0) x1 1 99).bind fun r1 =>
  if ¬ r1.2 = 0 then
    if ¬ (r1.1 7 288) = 400 then
      (f_M_keep r1.1).bind fun r2 =>
      (f_M_goes r2.1 x1).bind fun r3 =>
      some (r3.1, r3.2)
    else
      some (r1.1, 0)
  else
    some (r1.1, (-1)) := (zsem_eq _ _ _ _ _ _).trans rfl
set_option maxRecDepth 100000 in
theorem e_M_wake (σ : zH) (x1 : Int) (x2 : Int) : f_M_wake σ x1 x2 =
  (f_M_isEditor (zset σ 0 0 0) x1).bind fun r1 =>
  if r1.2 = 0 then
    some (r1.1, 0)
  else
    (f_M_isIn r1.1 x2 0 1).bind fun r2 =>
    if r2.2 = 0 then
      some (r2.1, 0)
    else
      (f_M_bitOf r2.1 (r2.1 7 293) x1).bind fun r3 =>
      if ¬ x2 = 0 then
        f_M_wake_43 r3.1 x1 r3.2 0
      else
        f_M_wake_43 r3.1 x1 r3.2 1 := (zsem_eq _ _ _ _ _ _).trans rfl
set_option maxRecDepth 100000 in
theorem e_M_wake_43 (σ : zH) (x1 : Int) (s0 : Int) (s1 : Int) : f_M_wake_43 σ x1 s0 s1 =
  if ¬ s0 = s1 then
    (f_M_keep σ).bind fun r1 =>
    some (zset r1.1 7 293 (zxor (r1.1 7 293) (zshl 1 x1)), 1)
  else
    some (σ, 0) := (zsem_eq _ _ _ _ _ _).trans rfl
set_option maxRecDepth 100000 in
theorem e_M_stone (σ : zH) (x1 : Int) (x2 : Int) (x3 : Int) : f_M_stone σ x1 x2 x3 =
  (f_M_isPlace (zset σ 0 0 0) x1 x2).bind fun r1 =>
  if r1.2 = 0 then
    some (r1.1, 0)
  else
    if x3 = (-1) then
      f_M_stone_27 r1.1 x1 x2 x3
    else
      (f_M_isTerm r1.1 x3).bind fun r2 =>
      if r2.2 = 0 then
        some (r2.1, 0)
      else
        f_M_stone_27 r2.1 x1 x2 x3 := (zsem_eq _ _ _ _ _ _).trans rfl
set_option maxRecDepth 100000 in
theorem e_M_stone_27 (σ : zH) (x1 : Int) (x2 : Int) (x3 : Int) : f_M_stone_27 σ x1 x2 x3 =
  if zin (w32 ((w32 (306 + (w32 (9 * x1)))) + x2)) 2959 = true then
    if ¬ (σ 7 (Int.toNat (w32 ((w32 (306 + (w32 (9 * x1)))) + x2)))) = (w32 (x3 + 1)) then
      (f_M_keep σ).bind fun r1 =>
      if zin (w32 ((w32 (306 + (w32 (9 * x1)))) + x2)) 2959 = true then
        some (zset r1.1 7 (Int.toNat (w32 ((w32 (306 + (w32 (9 * x1)))) + x2))) (w32 (x3 + 1)), 1)
      else none
    else
      some (σ, 0)
  else none := (zsem_eq _ _ _ _ _ _).trans rfl
set_option maxRecDepth 100000 in
theorem e_M_keep (σ : zH)  : f_M_keep σ  =
  if ¬ (σ 0 23) = 4 then
    f_M_keep_46 σ 0
  else
    f_M_keep_10 σ 0 := (zsem_eq _ _ _ _ _ _).trans rfl
set_option maxRecDepth 100000 in
theorem e_M_keep_10 (σ : zH) (x1 : Int) : f_M_keep_10 σ x1 =
  if 7470 ≤ x1 then
    f_M_keep_46 (zset σ 0 23 3) 0
  else
    if zin (w32 (x1 + 2490)) 9960 = true then
      if zin x1 9960 = true then
        f_M_keep_10 (zset σ 22 (Int.toNat x1) (σ 22 (Int.toNat (w32 (x1 + 2490))))) (w32 (x1 + 1))
      else none
    else none := (zsem_eq _ _ _ _ _ _).trans rfl
set_option maxRecDepth 100000 in
theorem e_M_keep_46 (σ : zH) (x1 : Int) : f_M_keep_46 σ x1 =
  if 2490 ≤ x1 then
    some (zset σ 0 23 (w32 ((σ 0 23) + 1)), 0)
  else
    if zin (w32 (288 + x1)) 2959 = true then
      if zin (w32 ((w32 (2490 * (σ 0 23))) + x1)) 9960 = true then
        f_M_keep_46 (zset σ 22 (Int.toNat (w32 ((w32 (2490 * (σ 0 23))) + x1))) (σ 7 (Int.toNat (w32 (288 + x1))))) (w32 (x1 + 1))
      else none
    else none := (zsem_eq _ _ _ _ _ _).trans rfl
set_option maxRecDepth 100000 in
theorem e_M_undo (σ : zH)  : f_M_undo σ  =
  if ¬ ((zset σ 0 0 0) 0 23) = 0 then
    f_M_undo_26 (zset (zset σ 0 0 0) 0 23 (w32 (((zset σ 0 0 0) 0 23) - 1))) 0
  else
    some (zset σ 0 0 0, (-1)) := (zsem_eq _ _ _ _ _ _).trans rfl
set_option maxRecDepth 100000 in
theorem e_M_undo_26 (σ : zH) (x1 : Int) : f_M_undo_26 σ x1 =
  if 2490 ≤ x1 then
    some (σ, σ 0 23)
  else
    if zin (w32 ((w32 (2490 * (σ 0 23))) + x1)) 9960 = true then
      if zin (w32 (288 + x1)) 2959 = true then
        f_M_undo_26 (zset σ 7 (Int.toNat (w32 (288 + x1))) (σ 22 (Int.toNat (w32 ((w32 (2490 * (σ 0 23))) + x1))))) (w32 (x1 + 1))
      else none
    else none := (zsem_eq _ _ _ _ _ _).trans rfl
set_option maxRecDepth 100000 in
theorem e_M_tries (σ : zH)  : f_M_tries σ  =
  f_M_tries_2 σ 0 := (zsem_eq _ _ _ _ _ _).trans rfl
set_option maxRecDepth 100000 in
theorem e_M_tries_2 (σ : zH) (x1 : Int) : f_M_tries_2 σ x1 =
  if 2490 ≤ x1 then
    some (σ, 0)
  else
    if zin (w32 (288 + x1)) 2959 = true then
      if zin x1 2490 = true then
        f_M_tries_2 (zset σ 23 (Int.toNat x1) (σ 7 (Int.toNat (w32 (288 + x1))))) (w32 (x1 + 1))
      else none
    else none := (zsem_eq _ _ _ _ _ _).trans rfl
set_option maxRecDepth 100000 in
theorem e_M_back (σ : zH)  : f_M_back σ  =
  f_M_back_2 σ 0 := (zsem_eq _ _ _ _ _ _).trans rfl
set_option maxRecDepth 100000 in
theorem e_M_back_2 (σ : zH) (x1 : Int) : f_M_back_2 σ x1 =
  if 2490 ≤ x1 then
    some (σ, 0)
  else
    if zin x1 2490 = true then
      if zin (w32 (288 + x1)) 2959 = true then
        f_M_back_2 (zset σ 7 (Int.toNat (w32 (288 + x1))) (σ 23 (Int.toNat x1))) (w32 (x1 + 1))
      else none
    else none := (zsem_eq _ _ _ _ _ _).trans rfl
set_option maxRecDepth 100000 in
theorem e_M_well (σ : zH) (x1 : Int) (x2 : Int) : f_M_well σ x1 x2 =
  (f_M_isTown (zset σ 0 0 0) x1).bind fun r1 =>
  if r1.2 = 0 then
    some (r1.1, (-2))
  else
    (f_M_isIn r1.1 x2 0 (w32 ((r1.1 7 288) - 1))).bind fun r2 =>
    if r2.2 = 0 then
      some (r2.1, (-2))
    else
      (f_M_wellOf r2.1 x1 x2).bind fun r3 =>
      some (r3.1, r3.2) := (zsem_eq _ _ _ _ _ _).trans rfl
set_option maxRecDepth 100000 in
theorem e_M_behind0 (σ : zH) (x0 : Int) (x1 : Int) : f_M_behind0 σ x0 x1 =
  if 2 ≤ x0 then
    f_M_behind0_10 σ x0 x1 0
  else
    f_M_behind0_10 σ x0 x1 1 := (zsem_eq _ _ _ _ _ _).trans rfl
set_option maxRecDepth 100000 in
theorem e_M_behind0_10 (σ : zH) (x0 : Int) (x1 : Int) (s0 : Int) : f_M_behind0_10 σ x0 x1 s0 =
  if ¬ x1 = 0 then
    if ¬ x1 = 1 then
      if ¬ x1 = 2 then
        if x0 = 3 then
          some (σ, 0)
        else
          if ¬ x0 = 5 then
            some (σ, (-1))
          else
            some (σ, 0)
      else
        if s0 = 0 then
          if x0 = 3 then
            some (σ, 4)
          else
            if ¬ x0 = 4 then
              some (σ, (-1))
            else
              some (σ, 4)
        else
          some (σ, 1)
    else
      if ¬ x0 = 2 then
        some (σ, (-1))
      else
        some (σ, 3)
  else
    if s0 = 0 then
      if x0 = 3 then
        some (σ, 5)
      else
        if ¬ x0 = 4 then
          some (σ, (-1))
        else
          some (σ, 5)
    else
      some (σ, 2) := (zsem_eq _ _ _ _ _ _).trans rfl
set_option maxRecDepth 100000 in
theorem e_M_senseOf (σ : zH) (x1 : Int) : f_M_senseOf σ x1 =
  f_M_senseOf_9 (zset σ 0 24 0) x1 0 0 := (zsem_eq _ _ _ _ _ _).trans rfl
set_option maxRecDepth 100000 in
theorem e_M_senseOf_9 (σ : zH) (x1 : Int) (x2 : Int) (x3 : Int) : f_M_senseOf_9 σ x1 x2 x3 =
  if (σ 7 288) ≤ x3 then
    some (σ, (-1))
  else
    (f_M_wellOf σ x1 x3).bind fun r1 =>
    if 0 ≤ r1.2 then
      if zin (w32 (6 + r1.2)) 2959 = true then
        (f_M_behind0 r1.1 x2 (r1.1 7 (Int.toNat (w32 (6 + r1.2))))).bind fun r2 =>
        if 0 ≤ r2.2 then
          if ¬ r2.2 = 0 then
            f_M_senseOf_9 (zset r2.1 0 24 (w32 ((r2.1 0 24) + 0))) x1 r2.2 (w32 (x3 + 1))
          else
            f_M_senseOf_9 (zset r2.1 0 24 (w32 ((r2.1 0 24) + 1))) x1 r2.2 (w32 (x3 + 1))
        else
          some (r2.1, x3)
      else none
    else
      f_M_senseOf_9 r1.1 x1 x2 (w32 (x3 + 1)) := (zsem_eq _ _ _ _ _ _).trans rfl
set_option maxRecDepth 100000 in
theorem e_M_sense (σ : zH) (x1 : Int) : f_M_sense σ x1 =
  (f_M_isTown (zset σ 0 0 0) x1).bind fun r1 =>
  if r1.2 = 0 then
    some (r1.1, (-2))
  else
    (f_M_senseOf r1.1 x1).bind fun r2 =>
    some (r2.1, r2.2) := (zsem_eq _ _ _ _ _ _).trans rfl
set_option maxRecDepth 100000 in
theorem e_M_sayings (σ : zH) (x1 : Int) : f_M_sayings σ x1 =
  (f_M_isTown (zset σ 0 0 0) x1).bind fun r1 =>
  if ¬ r1.2 = 0 then
    (f_M_senseOf r1.1 x1).bind fun r2 =>
    some (r2.1, r2.1 0 24)
  else
    some (r1.1, (-1)) := (zsem_eq _ _ _ _ _ _).trans rfl
set_option maxRecDepth 100000 in
theorem e_M_flows (σ : zH) (x1 : Int) (x2 : Int) (x3 : Int) : f_M_flows σ x1 x2 x3 =
  (f_M_isPlace (zset σ 0 0 0) x1 x2).bind fun r1 =>
  if r1.2 = 0 then
    some (r1.1, (-1))
  else
    (f_M_isTown r1.1 x3).bind fun r2 =>
    if ¬ r2.2 = 0 then
      f_M_flows_31 r2.1 x3 (w32 (- x2)) x1
    else
      some (r2.1, (-1)) := (zsem_eq _ _ _ _ _ _).trans rfl
set_option maxRecDepth 100000 in
theorem e_M_flows_31 (σ : zH) (x3 : Int) (x4 : Int) (x5 : Int) : f_M_flows_31 σ x3 x4 x5 =
  if x5 < 0 then
    some (σ, (-1))
  else
    if zin (w32 (216 + x3)) 2959 = true then
      if ¬ x5 = (σ 7 (Int.toNat (w32 (216 + x3)))) then
        if zin (w32 (16 + x5)) 2959 = true then
          if zin (w32 (24 + x5)) 2959 = true then
            f_M_flows_31 σ x3 (w32 (x4 + (σ 7 (Int.toNat (w32 (16 + x5)))))) (σ 7 (Int.toNat (w32 (24 + x5))))
          else none
        else none
      else
        if zin (w32 (222 + x3)) 2959 = true then
          if 0 ≤ (w32 (x4 + (σ 7 (Int.toNat (w32 (222 + x3)))))) then
            if zin (w32 (222 + x3)) 2959 = true then
              some (σ, w32 (x4 + (σ 7 (Int.toNat (w32 (222 + x3))))))
            else none
          else
            some (σ, (-1))
        else none
    else none := (zsem_eq _ _ _ _ _ _).trans rfl
set_option maxRecDepth 100000 in
theorem e_M_aboveOf (σ : zH) (x1 : Int) : f_M_aboveOf σ x1 =
  f_M_aboveOf_4 σ x1 0 0 := (zsem_eq _ _ _ _ _ _).trans rfl
set_option maxRecDepth 100000 in
theorem e_M_aboveOf_4 (σ : zH) (x1 : Int) (x2 : Int) (x3 : Int) : f_M_aboveOf_4 σ x1 x2 x3 =
  if (σ 7 1) ≤ x3 then
    some (σ, x2)
  else
    f_M_aboveOf_17 σ x1 x2 x3 x3 := (zsem_eq _ _ _ _ _ _).trans rfl
set_option maxRecDepth 100000 in
theorem e_M_aboveOf_17 (σ : zH) (x1 : Int) (x2 : Int) (x3 : Int) (x4 : Int) : f_M_aboveOf_17 σ x1 x2 x3 x4 =
  if x4 < 0 then
    f_M_aboveOf_4 σ x1 x2 (w32 (x3 + 1))
  else
    if zin (w32 (216 + x1)) 2959 = true then
      if ¬ x4 = (σ 7 (Int.toNat (w32 (216 + x1)))) then
        if zin (w32 (24 + x4)) 2959 = true then
          f_M_aboveOf_17 σ x1 x2 x3 (σ 7 (Int.toNat (w32 (24 + x4))))
        else none
      else
        if zin (w32 (24 + x4)) 2959 = true then
          f_M_aboveOf_17 σ x1 (zor x2 (zshl 1 x3)) x3 (σ 7 (Int.toNat (w32 (24 + x4))))
        else none
    else none := (zsem_eq _ _ _ _ _ _).trans rfl
set_option maxRecDepth 100000 in
theorem e_M_above (σ : zH) (x1 : Int) : f_M_above σ x1 =
  (f_M_isTown (zset σ 0 0 0) x1).bind fun r1 =>
  if r1.2 = 0 then
    some (r1.1, (-1))
  else
    (f_M_aboveOf r1.1 x1).bind fun r2 =>
    some (r2.1, r2.2) := (zsem_eq _ _ _ _ _ _).trans rfl
set_option maxRecDepth 100000 in
theorem e_M_sourceOf (σ : zH) (x1 : Int) : f_M_sourceOf σ x1 =
  (f_M_aboveOf σ x1).bind fun r1 =>
  f_M_sourceOf_14 r1.1 r1.2 0 (-1) 0 := (zsem_eq _ _ _ _ _ _).trans rfl
set_option maxRecDepth 100000 in
theorem e_M_sourceOf_14 (σ : zH) (x2 : Int) (x3 : Int) (x4 : Int) (x5 : Int) : f_M_sourceOf_14 σ x2 x3 x4 x5 =
  if (σ 7 1) ≤ x5 then
    if ¬ x3 = 1 then
      some (σ, (-1))
    else
      some (σ, x4)
  else
    (f_M_bitOf σ x2 x5).bind fun r1 =>
    if ¬ r1.2 = 0 then
      if zin (w32 (32 + x5)) 2959 = true then
        if (r1.1 7 (Int.toNat (w32 (32 + x5)))) ≤ 1 then
          if zin (w32 (40 + x5)) 2959 = true then
            if ¬ (r1.1 7 (Int.toNat (w32 (40 + x5)))) = 0 then
              f_M_sourceOf_14 r1.1 x2 (w32 (x3 + 1)) x5 (w32 (x5 + 1))
            else
              f_M_sourceOf_14 r1.1 x2 x3 x4 (w32 (x5 + 1))
          else none
        else
          some (r1.1, (-1))
      else none
    else
      f_M_sourceOf_14 r1.1 x2 x3 x4 (w32 (x5 + 1)) := (zsem_eq _ _ _ _ _ _).trans rfl
set_option maxRecDepth 100000 in
theorem e_M_source (σ : zH) (x1 : Int) : f_M_source σ x1 =
  (f_M_isTown (zset σ 0 0 0) x1).bind fun r1 =>
  if r1.2 = 0 then
    some (r1.1, (-1))
  else
    (f_M_sourceOf r1.1 x1).bind fun r2 =>
    some (r2.1, r2.2) := (zsem_eq _ _ _ _ _ _).trans rfl
set_option maxRecDepth 100000 in
theorem e_M_madeAt (σ : zH) (x1 : Int) (x2 : Int) (x3 : Int) : f_M_madeAt σ x1 x2 x3 =
  f_M_madeAt_3 σ x1 x2 x3 0 := (zsem_eq _ _ _ _ _ _).trans rfl
set_option maxRecDepth 100000 in
theorem e_M_madeAt_3 (σ : zH) (x1 : Int) (x2 : Int) (x3 : Int) (x4 : Int) : f_M_madeAt_3 σ x1 x2 x3 x4 =
  if (σ 7 2) ≤ x4 then
    some (σ, x3)
  else
    if zin (w32 (144 + x4)) 2959 = true then
      if ¬ (σ 7 (Int.toNat (w32 (144 + x4)))) = x1 then
        f_M_madeAt_3 σ x1 x2 x3 (w32 (x4 + 1))
      else
        if zin (w32 (150 + x4)) 2959 = true then
          if ¬ (σ 7 (Int.toNat (w32 (150 + x4)))) = x2 then
            f_M_madeAt_3 σ x1 x2 x3 (w32 (x4 + 1))
          else
            (f_M_bitOf σ (σ 7 293) x4).bind fun r1 =>
            if ¬ r1.2 = 0 then
              f_M_madeAt_3 r1.1 x1 x2 x3 (w32 (x4 + 1))
            else
              (f_M_madeOf r1.1 x4 x3).bind fun r2 =>
              some (r2.1, r2.2)
        else none
    else none := (zsem_eq _ _ _ _ _ _).trans rfl
set_option maxRecDepth 100000 in
theorem e_M_comesOf (σ : zH) (x1 : Int) (x2 : Int) : f_M_comesOf σ x1 x2 =
  (f_M_sourceOf σ x1).bind fun r1 =>
  f_M_comesOf_9 r1.1 x1 x2 r1.2 := (zsem_eq _ _ _ _ _ _).trans rfl
set_option maxRecDepth 100000 in
theorem e_M_comesOf_9 (σ : zH) (x1 : Int) (x3 : Int) (x4 : Int) : f_M_comesOf_9 σ x1 x3 x4 =
  if x4 < 0 then
    some (σ, x3)
  else
    if zin (w32 (216 + x1)) 2959 = true then
      if ¬ x4 = (σ 7 (Int.toNat (w32 (216 + x1)))) then
        if zin (w32 (16 + x4)) 2959 = true then
          f_M_comesOf_59 σ x1 x3 x4 (w32 ((σ 7 (Int.toNat (w32 (16 + x4)))) - 1)) 0
        else none
      else
        if zin (w32 (222 + x1)) 2959 = true then
          f_M_comesOf_59 σ x1 x3 x4 (σ 7 (Int.toNat (w32 (222 + x1)))) 0
        else none
    else none := (zsem_eq _ _ _ _ _ _).trans rfl
set_option maxRecDepth 100000 in
theorem e_M_comesOf_59 (σ : zH) (x1 : Int) (x3 : Int) (x4 : Int) (x5 : Int) (x6 : Int) : f_M_comesOf_59 σ x1 x3 x4 x5 x6 =
  if x5 < x6 then
    f_M_comesOf_86 σ x1 x3 x4
  else
    if x3 < 0 then
      f_M_comesOf_86 σ x1 x3 x4
    else
      (f_M_madeAt σ x4 x6 x3).bind fun r1 =>
      f_M_comesOf_59 r1.1 x1 r1.2 x4 x5 (w32 (x6 + 1)) := (zsem_eq _ _ _ _ _ _).trans rfl
set_option maxRecDepth 100000 in
theorem e_M_comesOf_86 (σ : zH) (x1 : Int) (x3 : Int) (x4 : Int) : f_M_comesOf_86 σ x1 x3 x4 =
  if zin (w32 (216 + x1)) 2959 = true then
    if ¬ x4 = (σ 7 (Int.toNat (w32 (216 + x1)))) then
      if zin (w32 (24 + x4)) 2959 = true then
        f_M_comesOf_9 σ x1 x3 (σ 7 (Int.toNat (w32 (24 + x4))))
      else none
    else
      f_M_comesOf_9 σ x1 x3 (-1)
  else none := (zsem_eq _ _ _ _ _ _).trans rfl
set_option maxRecDepth 100000 in
theorem e_M_hasSource (σ : zH) (x1 : Int) : f_M_hasSource σ x1 =
  (f_M_isTown σ x1).bind fun r1 =>
  if r1.2 = 0 then
    some (r1.1, 0)
  else
    (f_M_sourceOf r1.1 x1).bind fun r2 =>
    if r2.2 < 0 then
      some (r2.1, 0)
    else
      some (r2.1, 1) := (zsem_eq _ _ _ _ _ _).trans rfl
set_option maxRecDepth 100000 in
theorem e_M_comes (σ : zH) (x1 : Int) (x2 : Int) : f_M_comes σ x1 x2 =
  (f_M_hasSource (zset σ 0 0 0) x1).bind fun r1 =>
  if r1.2 = 0 then
    some (r1.1, (-2))
  else
    (f_M_isTerm r1.1 x2).bind fun r2 =>
    if r2.2 = 0 then
      some (r2.1, (-2))
    else
      (f_M_comesOf r2.1 x1 x2).bind fun r3 =>
      some (r3.1, r3.2) := (zsem_eq _ _ _ _ _ _).trans rfl
set_option maxRecDepth 100000 in
theorem e_M_termAt (σ : zH) (x1 : Int) : f_M_termAt σ x1 =
  (f_M_octet σ x1).bind fun r1 =>
  if ¬ r1.2 = 255 then
    (f_M_octet r1.1 x1).bind fun r2 =>
    some (r2.1, r2.2)
  else
    some (r1.1, (-1)) := (zsem_eq _ _ _ _ _ _).trans rfl
set_option maxRecDepth 100000 in
theorem e_M_areTerms (σ : zH) (x1 : Int) : f_M_areTerms σ x1 =
  (f_M_isIn σ (σ 0 3) 1 x1).bind fun r1 =>
  if ¬ r1.2 = 0 then
    f_M_areTerms_16 r1.1 0
  else
    some (r1.1, 0) := (zsem_eq _ _ _ _ _ _).trans rfl
set_option maxRecDepth 100000 in
theorem e_M_areTerms_16 (σ : zH) (x2 : Int) : f_M_areTerms_16 σ x2 =
  if (σ 0 3) ≤ x2 then
    some (σ, 1)
  else
    (f_M_octet σ x2).bind fun r1 =>
    if r1.2 = 255 then
      f_M_areTerms_16 r1.1 (w32 (x2 + 1))
    else
      (f_M_octet r1.1 x2).bind fun r2 =>
      if r2.2 < (r2.1 7 0) then
        f_M_areTerms_16 r2.1 (w32 (x2 + 1))
      else
        some (r2.1, 0) := (zsem_eq _ _ _ _ _ _).trans rfl
set_option maxRecDepth 100000 in
theorem e_M_saying (σ : zH) (x1 : Int) : f_M_saying σ x1 =
  (f_M_taken (zset σ 0 0 0) 940).bind fun r1 =>
  (f_M_hasSource r1.1 x1).bind fun r2 =>
  if r2.2 = 0 then
    some (r2.1, (-1))
  else
    (f_M_areTerms r2.1 15).bind fun r3 =>
    if ¬ r3.2 = 0 then
      f_M_saying_38 r3.1 x1 1 0
    else
      some (r3.1, (-1)) := (zsem_eq _ _ _ _ _ _).trans rfl
set_option maxRecDepth 100000 in
theorem e_M_saying_38 (σ : zH) (x1 : Int) (x2 : Int) (x4 : Int) : f_M_saying_38 σ x1 x2 x4 =
  if (σ 0 3) ≤ x4 then
    if ¬ (zcmp x2 0) = 0 then
      f_M_saying_137 (zset σ 0 27 (σ 0 3)) x2 0
    else
      some (σ, 0)
  else
    f_M_saying_53 σ x1 x2 x4 0 0 := (zsem_eq _ _ _ _ _ _).trans rfl
set_option maxRecDepth 100000 in
theorem e_M_saying_53 (σ : zH) (x1 : Int) (x2 : Int) (x4 : Int) (x5 : Int) (x6 : Int) : f_M_saying_53 σ x1 x2 x4 x5 x6 =
  if (σ 7 0) ≤ x6 then
    f_M_saying_38 σ x1 (w64 (x2 * x5)) (w32 (x4 + 1))
  else
    (f_M_comesOf σ x1 x6).bind fun r1 =>
    (f_M_termAt r1.1 x4).bind fun r2 =>
    if r1.2 = r2.2 then
      if ¬ x5 = 0 then
        f_M_saying_53 r2.1 x1 x2 x4 (w32 (x5 + 1)) (w32 (x6 + 1))
      else
        if zin x4 15 = true then
          f_M_saying_53 (zset r2.1 27 (Int.toNat x4) x6) x1 x2 x4 (w32 (x5 + 1)) (w32 (x6 + 1))
        else none
    else
      f_M_saying_53 r2.1 x1 x2 x4 x5 (w32 (x6 + 1)) := (zsem_eq _ _ _ _ _ _).trans rfl
set_option maxRecDepth 100000 in
theorem e_M_saying_137 (σ : zH) (x2 : Int) (x4 : Int) : f_M_saying_137 σ x2 x4 =
  if (σ 0 3) ≤ x4 then
    some (σ, x2)
  else
    if zin x4 15 = true then
      if zin x4 15 = true then
        f_M_saying_137 (zset σ 26 (Int.toNat x4) (σ 27 (Int.toNat x4))) x2 (w32 (x4 + 1))
      else none
    else none := (zsem_eq _ _ _ _ _ _).trans rfl
set_option maxRecDepth 100000 in
theorem e_M_saidAt (σ : zH) (x1 : Int) : f_M_saidAt σ x1 =
  (f_M_isIn (zset σ 0 0 0) x1 0 (w32 (((zset σ 0 0 0) 0 27) - 1))).bind fun r1 =>
  if r1.2 = 0 then
    some (r1.1, (-1))
  else
    if zin x1 15 = true then
      some (r1.1, r1.1 26 (Int.toNat x1))
    else none := (zsem_eq _ _ _ _ _ _).trans rfl
set_option maxRecDepth 100000 in
theorem e_M_wish (σ : zH) (x1 : Int) : f_M_wish σ x1 =
  (f_M_taken (zset σ 0 0 0) 940).bind fun r1 =>
  (f_M_hasSource r1.1 x1).bind fun r2 =>
  if r2.2 = 0 then
    some (r2.1, (-1))
  else
    (f_M_areTerms r2.1 15).bind fun r3 =>
    if ¬ r3.2 = 0 then
      (f_M_sourceOf r3.1 x1).bind fun r4 =>
      f_M_wish_42 r4.1 x1 r4.2 0 0
    else
      some (r3.1, (-1)) := (zsem_eq _ _ _ _ _ _).trans rfl
set_option maxRecDepth 100000 in
theorem e_M_wish_42 (σ : zH) (x1 : Int) (x2 : Int) (x3 : Int) (x4 : Int) : f_M_wish_42 σ x1 x2 x3 x4 =
  if (σ 0 3) ≤ x4 then
    some (σ, x3)
  else
    f_M_wish_57 σ x1 x2 x3 x4 0 0 := (zsem_eq _ _ _ _ _ _).trans rfl
set_option maxRecDepth 100000 in
theorem e_M_wish_57 (σ : zH) (x1 : Int) (x2 : Int) (x3 : Int) (x4 : Int) (x5 : Int) (x6 : Int) : f_M_wish_57 σ x1 x2 x3 x4 x5 x6 =
  if (σ 7 0) ≤ x6 then
    if ¬ x5 = 0 then
      (f_M_saysOn σ x2 (w32 ((σ 7 288) + x4))).bind fun r1 =>
      (f_M_comesOf r1.1 x1 r1.2).bind fun r2 =>
      (f_M_termAt r2.1 x4).bind fun r3 =>
      if r2.2 = r3.2 then
        f_M_wish_42 r3.1 x1 x2 (w32 (x3 + 0)) (w32 (x4 + 1))
      else
        f_M_wish_42 r3.1 x1 x2 (w32 (x3 + 1)) (w32 (x4 + 1))
    else
      some (σ, (-1))
  else
    if ¬ x5 = 0 then
      f_M_wish_57 σ x1 x2 x3 x4 1 (w32 (x6 + 1))
    else
      (f_M_comesOf σ x1 x6).bind fun r4 =>
      (f_M_termAt r4.1 x4).bind fun r5 =>
      if ¬ r4.2 = r5.2 then
        f_M_wish_57 r5.1 x1 x2 x3 x4 0 (w32 (x6 + 1))
      else
        f_M_wish_57 r5.1 x1 x2 x3 x4 1 (w32 (x6 + 1)) := (zsem_eq _ _ _ _ _ _).trans rfl
set_option maxRecDepth 100000 in
theorem e_M_ownOf (σ : zH) (x1 : Int) : f_M_ownOf σ x1 =
  f_M_ownOf_4 σ x1 (-1) 0 := (zsem_eq _ _ _ _ _ _).trans rfl
set_option maxRecDepth 100000 in
theorem e_M_ownOf_4 (σ : zH) (x1 : Int) (x2 : Int) (x3 : Int) : f_M_ownOf_4 σ x1 x2 x3 =
  if (σ 7 4) ≤ x3 then
    some (σ, x2)
  else
    if zin (w32 (216 + x3)) 2959 = true then
      if zin (w32 (144 + x1)) 2959 = true then
        if ¬ (σ 7 (Int.toNat (w32 (216 + x3)))) = (σ 7 (Int.toNat (w32 (144 + x1)))) then
          f_M_ownOf_4 σ x1 x2 (w32 (x3 + 1))
        else
          if zin (w32 (222 + x3)) 2959 = true then
            if zin (w32 (150 + x1)) 2959 = true then
              if (σ 7 (Int.toNat (w32 (222 + x3)))) < (σ 7 (Int.toNat (w32 (150 + x1)))) then
                f_M_ownOf_4 σ x1 x2 (w32 (x3 + 1))
              else
                if x2 < 0 then
                  f_M_ownOf_4 σ x1 x3 (w32 (x3 + 1))
                else
                  if zin (w32 (222 + x3)) 2959 = true then
                    if zin (w32 (222 + x2)) 2959 = true then
                      if (σ 7 (Int.toNat (w32 (222 + x2)))) ≤ (σ 7 (Int.toNat (w32 (222 + x3)))) then
                        f_M_ownOf_4 σ x1 x2 (w32 (x3 + 1))
                      else
                        f_M_ownOf_4 σ x1 x3 (w32 (x3 + 1))
                    else none
                  else none
            else none
          else none
      else none
    else none := (zsem_eq _ _ _ _ _ _).trans rfl
set_option maxRecDepth 100000 in
theorem e_M_own (σ : zH) (x1 : Int) : f_M_own σ x1 =
  (f_M_isEditor (zset σ 0 0 0) x1).bind fun r1 =>
  if r1.2 = 0 then
    some (r1.1, (-1))
  else
    (f_M_ownOf r1.1 x1).bind fun r2 =>
    some (r2.1, r2.2) := (zsem_eq _ _ _ _ _ _).trans rfl
set_option maxRecDepth 100000 in
theorem e_M_likesBy (σ : zH) (x1 : Int) (x2 : Int) : f_M_likesBy σ x1 x2 =
  (f_M_tries σ).bind fun r1 =>
  (f_M_goes (zset r1.1 7 293 (zand (w32 ((zshl 1 (r1.1 7 2)) - 1)) (zxor x1 (-1)))) x2).bind fun r2 =>
  f_M_likesBy_44 r2.1 x1 (r1.1 7 288) 0 := (zsem_eq _ _ _ _ _ _).trans rfl
set_option maxRecDepth 100000 in
theorem e_M_likesBy_44 (σ : zH) (x1 : Int) (x3 : Int) (x4 : Int) : f_M_likesBy_44 σ x1 x3 x4 =
  if (σ 7 4) ≤ x4 then
    (f_M_back σ).bind fun r1 =>
    some (r1.1, 0)
  else
    (f_M_wordsOf σ x4 x3 1).bind fun r2 =>
    if zin (w32 ((w32 (6 * x1)) + x4)) 384 = true then
      f_M_likesBy_44 (zset r2.1 29 (Int.toNat (w32 ((w32 (6 * x1)) + x4))) r2.2) x1 x3 (w32 (x4 + 1))
    else none := (zsem_eq _ _ _ _ _ _).trans rfl
set_option maxRecDepth 100000 in
theorem e_M_rests (σ : zH) (x1 : Int) (x2 : Int) : f_M_rests σ x1 x2 =
  (f_M_isIn (zset σ 0 0 0) x1 1 60).bind fun r1 =>
  if r1.2 = 0 then
    some (r1.1, (-1))
  else
    if (-1) ≤ x2 then
      f_M_rests_24 r1.1 x1 x2 0
    else
      some (r1.1, (-1)) := (zsem_eq _ _ _ _ _ _).trans rfl
set_option maxRecDepth 100000 in
theorem e_M_rests_24 (σ : zH) (x1 : Int) (x2 : Int) (x3 : Int) : f_M_rests_24 σ x1 x2 x3 =
  if (zshl 1 (σ 7 2)) ≤ x3 then
    f_M_rests_53 σ x2 0 0
  else
    (f_M_likesBy σ x3 x1).bind fun r1 =>
    f_M_rests_24 r1.1 x1 x2 (w32 (x3 + 1)) := (zsem_eq _ _ _ _ _ _).trans rfl
set_option maxRecDepth 100000 in
theorem e_M_rests_53 (σ : zH) (x2 : Int) (x3 : Int) (x4 : Int) : f_M_rests_53 σ x2 x3 x4 =
  if (zshl 1 (σ 7 2)) ≤ x4 then
    if ¬ x2 = (-1) then
      some (σ, (-1))
    else
      some (σ, x3)
  else
    f_M_rests_72 σ x2 x3 x4 1 0 := (zsem_eq _ _ _ _ _ _).trans rfl
set_option maxRecDepth 100000 in
theorem e_M_rests_72 (σ : zH) (x2 : Int) (x3 : Int) (x4 : Int) (x5 : Int) (x6 : Int) : f_M_rests_72 σ x2 x3 x4 x5 x6 =
  if (σ 7 2) ≤ x6 then
    if ¬ x5 = 0 then
      if ¬ x3 = x2 then
        f_M_rests_53 σ x2 (w32 (x3 + 1)) (w32 (x4 + 1))
      else
        some (σ, x4)
    else
      f_M_rests_53 σ x2 x3 (w32 (x4 + 1))
  else
    if x5 = 0 then
      f_M_rests_72 σ x2 x3 x4 0 (w32 (x6 + 1))
    else
      (f_M_ownOf σ x6).bind fun r1 =>
      if r1.2 < 0 then
        f_M_rests_72 r1.1 x2 x3 x4 1 (w32 (x6 + 1))
      else
        (f_M_ownOf r1.1 x6).bind fun r2 =>
        if zin (w32 ((w32 (6 * (zxor x4 (zshl 1 x6)))) + r2.2)) 384 = true then
          (f_M_ownOf r2.1 x6).bind fun r3 =>
          if zin (w32 ((w32 (6 * x4)) + r3.2)) 384 = true then
            if (r3.1 29 (Int.toNat (w32 ((w32 (6 * x4)) + r3.2)))) < (r2.1 29 (Int.toNat (w32 ((w32 (6 * (zxor x4 (zshl 1 x6)))) + r2.2)))) then
              f_M_rests_72 r3.1 x2 x3 x4 0 (w32 (x6 + 1))
            else
              f_M_rests_72 r3.1 x2 x3 x4 1 (w32 (x6 + 1))
          else none
        else none := (zsem_eq _ _ _ _ _ _).trans rfl
set_option maxRecDepth 100000 in
theorem e_M_liked (σ : zH) (x1 : Int) (x2 : Int) (x3 : Int) : f_M_liked σ x1 x2 x3 =
  (f_M_isTown (zset σ 0 0 0) x1).bind fun r1 =>
  if r1.2 = 0 then
    some (r1.1, (-1))
  else
    if x2 < 0 then
      some (r1.1, (-1))
    else
      if (zshl 1 (r1.1 7 2)) ≤ x2 then
        some (r1.1, (-1))
      else
        (f_M_isIn r1.1 x3 1 60).bind fun r2 =>
        if ¬ r2.2 = 0 then
          (f_M_likesBy r2.1 x2 x3).bind fun r3 =>
          if zin (w32 ((w32 (6 * x2)) + x1)) 384 = true then
            some (r3.1, r3.1 29 (Int.toNat (w32 ((w32 (6 * x2)) + x1))))
          else none
        else
          some (r2.1, (-1)) := (zsem_eq _ _ _ _ _ _).trans rfl
set_option maxRecDepth 100000 in
theorem e_M_sure (σ : zH) (x1 : Int) : f_M_sure σ x1 =
  (f_M_isIn (zset σ 0 0 0) x1 1 99).bind fun r1 =>
  if r1.2 = 0 then
    some (r1.1, (-1))
  else
    some (r1.1, w32 (Int.tdiv (w32 (x1 - 1)) 2)) := (zsem_eq _ _ _ _ _ _).trans rfl
set_option maxRecDepth 100000 in
theorem e_M_most (σ : zH)  : f_M_most σ  =
  (f_M_taken (zset σ 0 0 0) 940).bind fun r1 =>
  (f_M_areTerms r1.1 99).bind fun r2 =>
  if ¬ r2.2 = 0 then
    f_M_most_26 r2.1 0
  else
    some (r2.1, (-2)) := (zsem_eq _ _ _ _ _ _).trans rfl
set_option maxRecDepth 100000 in
theorem e_M_most_26 (σ : zH) (x1 : Int) : f_M_most_26 σ x1 =
  if (σ 7 0) ≤ x1 then
    some (σ, (-1))
  else
    f_M_most_40 σ x1 0 0 := (zsem_eq _ _ _ _ _ _).trans rfl
set_option maxRecDepth 100000 in
theorem e_M_most_40 (σ : zH) (x1 : Int) (x2 : Int) (x3 : Int) : f_M_most_40 σ x1 x2 x3 =
  if (σ 0 3) ≤ x3 then
    if (w32 (2 * x2)) ≤ (σ 0 3) then
      f_M_most_26 σ (w32 (x1 + 1))
    else
      some (σ, x1)
  else
    (f_M_octet σ x3).bind fun r1 =>
    if ¬ r1.2 = x1 then
      f_M_most_40 r1.1 x1 (w32 (x2 + 0)) (w32 (x3 + 1))
    else
      f_M_most_40 r1.1 x1 (w32 (x2 + 1)) (w32 (x3 + 1)) := (zsem_eq _ _ _ _ _ _).trans rfl
set_option maxRecDepth 100000 in
theorem e_M_when (σ : zH) (x1 : Int) (x2 : Int) (x3 : Int) : f_M_when σ x1 x2 x3 =
  (f_M_isTown (zset σ 0 0 0) x1).bind fun r1 =>
  if r1.2 = 0 then
    some (r1.1, (-1))
  else
    (f_M_isTerm r1.1 x2).bind fun r2 =>
    if r2.2 = 0 then
      some (r2.1, (-1))
    else
      (f_M_isIn r2.1 x3 1 99).bind fun r3 =>
      if ¬ r3.2 = 0 then
        (f_M_tries r3.1).bind fun r4 =>
        f_M_when_43 r4.1 x1 x2 x3 (-1) 0
      else
        some (r3.1, (-1)) := (zsem_eq _ _ _ _ _ _).trans rfl
set_option maxRecDepth 100000 in
theorem e_M_when_43 (σ : zH) (x1 : Int) (x2 : Int) (x3 : Int) (x4 : Int) (x5 : Int) : f_M_when_43 σ x1 x2 x3 x4 x5 =
  if x3 ≤ x5 then
    (f_M_back σ).bind fun r1 =>
    some (r1.1, x4)
  else
    if 0 ≤ x4 then
      (f_M_back σ).bind fun r2 =>
      some (r2.1, x4)
    else
      (f_M_goes σ 1).bind fun r3 =>
      if ¬ r3.2 = 1 then
        (f_M_back r3.1).bind fun r4 =>
        some (r4.1, x4)
      else
        (f_M_lastOf r3.1 x1).bind fun r5 =>
        if ¬ r5.2 = x2 then
          f_M_when_43 r5.1 x1 x2 x3 x4 (w32 (x5 + 1))
        else
          f_M_when_43 r5.1 x1 x2 x3 (w32 ((r5.1 7 288) - 1)) (w32 (x5 + 1)) := (zsem_eq _ _ _ _ _ _).trans rfl
set_option maxRecDepth 100000 in
theorem e_M_clashes (σ : zH) (x1 : Int) : f_M_clashes σ x1 =
  (f_M_isIn (zset σ 0 0 0) x1 1 99).bind fun r1 =>
  if ¬ r1.2 = 0 then
    (f_M_tries r1.1).bind fun r2 =>
    (f_M_goes r2.1 x1).bind fun r3 =>
    (f_M_back r3.1).bind fun r4 =>
    some (r4.1, w32 ((r3.1 7 289) - (r4.1 7 289)))
  else
    some (r1.1, (-1)) := (zsem_eq _ _ _ _ _ _).trans rfl
set_option maxRecDepth 100000 in
theorem e_M_unlike (σ : zH) (x1 : Int) (x2 : Int) (x3 : Int) : f_M_unlike σ x1 x2 x3 =
  (f_M_isTown (zset σ 0 0 0) x1).bind fun r1 =>
  if r1.2 = 0 then
    some (r1.1, (-1))
  else
    (f_M_isTown r1.1 x2).bind fun r2 =>
    if r2.2 = 0 then
      some (r2.1, (-1))
    else
      (f_M_isIn r2.1 x3 0 99).bind fun r3 =>
      if ¬ r3.2 = 0 then
        f_M_unlike_39 r3.1 x1 x2 x3 0 0
      else
        some (r3.1, (-1)) := (zsem_eq _ _ _ _ _ _).trans rfl
set_option maxRecDepth 100000 in
theorem e_M_unlike_39 (σ : zH) (x1 : Int) (x2 : Int) (x3 : Int) (x4 : Int) (x5 : Int) : f_M_unlike_39 σ x1 x2 x3 x4 x5 =
  if (σ 7 288) ≤ (w32 (x5 + x3)) then
    some (σ, x4)
  else
    (f_M_wellOf σ x1 x5).bind fun r1 =>
    (f_M_wellOf r1.1 x2 (w32 (x5 + x3))).bind fun r2 =>
    if r1.2 = r2.2 then
      f_M_unlike_39 r2.1 x1 x2 x3 (w32 (x4 + 0)) (w32 (x5 + 1))
    else
      f_M_unlike_39 r2.1 x1 x2 x3 (w32 (x4 + 1)) (w32 (x5 + 1)) := (zsem_eq _ _ _ _ _ _).trans rfl
set_option maxRecDepth 100000 in
theorem e_M_draw (σ : zH) (x1 : Int) : f_M_draw σ x1 =
  if znz x1 = true then
    some (zset σ 0 29 (w32 ((w32 ((σ 0 29) * 1103515245)) + 12345)), Int.tmod (zushr ((zset σ 0 29 (w32 ((w32 ((σ 0 29) * 1103515245)) + 12345))) 0 29) 8) x1)
  else none := (zsem_eq _ _ _ _ _ _).trans rfl
set_option maxRecDepth 100000 in
theorem e_M_draws (σ : zH) (x1 : Int) (x2 : Int) : f_M_draws σ x1 x2 =
  f_M_draws_12 (zset (zset σ 0 29 x2) 0 30 0) x1 0 := (zsem_eq _ _ _ _ _ _).trans rfl
set_option maxRecDepth 100000 in
theorem e_M_draws_12 (σ : zH) (x1 : Int) (x3 : Int) : f_M_draws_12 σ x1 x3 =
  if x1 ≤ x3 then
    some (σ, x3)
  else
    if 400 ≤ (σ 7 288) then
      some (σ, x3)
    else
      (f_M_draw σ 4).bind fun r1 =>
      if ¬ r1.2 = 0 then
        (f_M_day r1.1).bind fun r2 =>
        f_M_draws_12 r2.1 x1 (w32 (x3 + 1))
      else
        (f_M_draw r1.1 (r1.1 7 1)).bind fun r3 =>
        if zin (w32 (16 + r3.2)) 2959 = true then
          (f_M_draw r3.1 (r3.1 7 (Int.toNat (w32 (16 + r3.2))))).bind fun r4 =>
          (f_M_draw r4.1 (w32 ((r4.1 7 0) + 1))).bind fun r5 =>
          if ¬ r5.2 = (r5.1 7 0) then
            if zin (w32 ((w32 (306 + (w32 (9 * r3.2)))) + r4.2)) 2959 = true then
              (f_M_day (zset (zset r5.1 7 (Int.toNat (w32 ((w32 (306 + (w32 (9 * r3.2)))) + r4.2))) (w32 (r5.2 + 1))) 0 30 (w32 (((zset r5.1 7 (Int.toNat (w32 ((w32 (306 + (w32 (9 * r3.2)))) + r4.2))) (w32 (r5.2 + 1))) 0 30) + 1)))).bind fun r6 =>
              f_M_draws_12 r6.1 x1 (w32 (x3 + 1))
            else none
          else
            if zin (w32 ((w32 (306 + (w32 (9 * r3.2)))) + r4.2)) 2959 = true then
              (f_M_day (zset (zset r5.1 7 (Int.toNat (w32 ((w32 (306 + (w32 (9 * r3.2)))) + r4.2))) 0) 0 30 (w32 (((zset r5.1 7 (Int.toNat (w32 ((w32 (306 + (w32 (9 * r3.2)))) + r4.2))) 0) 0 30) + 1)))).bind fun r7 =>
              f_M_draws_12 r7.1 x1 (w32 (x3 + 1))
            else none
        else none := (zsem_eq _ _ _ _ _ _).trans rfl
set_option maxRecDepth 100000 in
theorem e_M_drawn (σ : zH) (x1 : Int) (x2 : Int) : f_M_drawn σ x1 x2 =
  (f_M_isIn (zset σ 0 0 0) x1 1 99).bind fun r1 =>
  if r1.2 = 0 then
    some (r1.1, (-1))
  else
    if ¬ (r1.1 7 1) = 0 then
      if 400 ≤ (r1.1 7 288) then
        (f_M_draws r1.1 x1 x2).bind fun r2 =>
        some (zset (zset r2.1 0 32 1) 0 31 ((zset r2.1 0 32 1) 0 30), r2.2)
      else
        (f_M_keep r1.1).bind fun r3 =>
        (f_M_draws r3.1 x1 x2).bind fun r4 =>
        some (zset (zset r4.1 0 32 1) 0 31 ((zset r4.1 0 32 1) 0 30), r4.2)
    else
      some (r1.1, (-1)) := (zsem_eq _ _ _ _ _ _).trans rfl
set_option maxRecDepth 100000 in
theorem e_M_stones (σ : zH)  : f_M_stones σ  =
  if ((zset σ 0 0 0) 0 32) = 0 then
    some (zset σ 0 0 0, (-1))
  else
    some (zset σ 0 0 0, (zset σ 0 0 0) 0 31) := (zsem_eq _ _ _ _ _ _).trans rfl
set_option maxRecDepth 100000 in
theorem e_M_odds (σ : zH) (x1 : Int) (x2 : Int) (x3 : Int) : f_M_odds σ x1 x2 x3 =
  (f_M_isTown (zset σ 0 0 0) x1).bind fun r1 =>
  if r1.2 = 0 then
    some (r1.1, (-1))
  else
    (f_M_isIn r1.1 x2 1 40).bind fun r2 =>
    if ¬ r2.2 = 0 then
      (f_M_tries r2.1).bind fun r3 =>
      f_M_odds_35 r3.1 x1 x2 x3 0 0
    else
      some (r2.1, (-1)) := (zsem_eq _ _ _ _ _ _).trans rfl
set_option maxRecDepth 100000 in
theorem e_M_odds_35 (σ : zH) (x1 : Int) (x2 : Int) (x3 : Int) (x4 : Int) (x5 : Int) : f_M_odds_35 σ x1 x2 x3 x4 x5 =
  if x2 ≤ x5 then
    some (σ, x4)
  else
    (f_M_draws σ 30 (w32 (x3 + x5))).bind fun r1 =>
    (f_M_senseOf r1.1 x1).bind fun r2 =>
    if 0 ≤ r2.2 then
      (f_M_back r2.1).bind fun r3 =>
      f_M_odds_35 r3.1 x1 x2 x3 (w32 (x4 + 0)) (w32 (x5 + 1))
    else
      (f_M_back r2.1).bind fun r4 =>
      f_M_odds_35 r4.1 x1 x2 x3 (w32 (x4 + 1)) (w32 (x5 + 1)) := (zsem_eq _ _ _ _ _ _).trans rfl
set_option maxRecDepth 100000 in
theorem e_M_bookLine (σ : zH)  : f_M_bookLine σ  =
  (f_M_isWord σ 6578553).bind fun r1 =>
  if r1.2 = 0 then
    (f_M_isName r1.1).bind fun r2 =>
    if ¬ r2.2 = 0 then
      (f_M_find r2.1 24 (r2.1 7 4)).bind fun r3 =>
      (f_M_find r3.1 18 (r3.1 7 2)).bind fun r4 =>
      if 0 ≤ r3.2 then
        f_M_bookLine_122 r4.1 (w32 (3 * (σ 0 33))) r3.2 r4.2
      else
        if 0 ≤ r4.2 then
          f_M_bookLine_122 r4.1 (w32 (3 * (σ 0 33))) r3.2 r4.2
        else
          (f_M_bad r4.1 3).bind fun r5 =>
          some (r5.1, r5.2)
    else
      (f_M_bad r2.1 1).bind fun r6 =>
      some (r6.1, r6.2)
  else
    if ¬ (r1.1 0 33) = 30 then
      (f_M_next r1.1).bind fun r7 =>
      (f_M_takes r7.1 1 99).bind fun r8 =>
      if ¬ r8.2 = 0 then
        if zin (w32 (3 * (σ 0 33))) 135 = true then
          if zin (w32 ((w32 (3 * (σ 0 33))) + 1)) 135 = true then
            some (zset (zset r8.1 9 (Int.toNat (w32 (3 * (σ 0 33)))) 0) 9 (Int.toNat (w32 ((w32 (3 * (σ 0 33))) + 1))) ((zset r8.1 9 (Int.toNat (w32 (3 * (σ 0 33)))) 0) 0 18), 1)
          else none
        else none
      else
        some (r8.1, 0)
    else
      (f_M_bad r1.1 4).bind fun r9 =>
      some (r9.1, r9.2) := (zsem_eq _ _ _ _ _ _).trans rfl
set_option maxRecDepth 100000 in
theorem e_M_bookLine_122 (σ : zH) (x1 : Int) (x2 : Int) (x3 : Int) : f_M_bookLine_122 σ x1 x2 x3 =
  if ¬ (σ 0 33) = 30 then
    (f_M_next σ).bind fun r1 =>
    if x2 < 0 then
      if zin x1 135 = true then
        if x2 < 0 then
          f_M_bookLine_172 (zset r1.1 9 (Int.toNat x1) 2) x1 x2 (w32 (x1 + 1)) x3
        else
          f_M_bookLine_172 (zset r1.1 9 (Int.toNat x1) 2) x1 x2 (w32 (x1 + 1)) x2
      else none
    else
      if zin x1 135 = true then
        if x2 < 0 then
          f_M_bookLine_172 (zset r1.1 9 (Int.toNat x1) 1) x1 x2 (w32 (x1 + 1)) x3
        else
          f_M_bookLine_172 (zset r1.1 9 (Int.toNat x1) 1) x1 x2 (w32 (x1 + 1)) x2
      else none
  else
    (f_M_bad σ 4).bind fun r2 =>
    some (r2.1, r2.2) := (zsem_eq _ _ _ _ _ _).trans rfl
set_option maxRecDepth 100000 in
theorem e_M_bookLine_172 (σ : zH) (x1 : Int) (x2 : Int) (s1 : Int) (s2 : Int) : f_M_bookLine_172 σ x1 x2 s1 s2 =
  if zin s1 135 = true then
    if 0 ≤ x2 then
      (f_M_isWord (zset σ 9 (Int.toNat s1) s2) 491327153267).bind fun r1 =>
      if ¬ r1.2 = 0 then
        (f_M_next r1.1).bind fun r2 =>
        if zin (w32 (x1 + 2)) 135 = true then
          (f_M_isWord (zset r2.1 9 (Int.toNat (w32 (x1 + 2))) (-1)) 1852796517).bind fun r3 =>
          if r3.2 = 0 then
            (f_M_looksAt r3.1 0 (r3.1 7 0)).bind fun r4 =>
            if ¬ r4.2 = 0 then
              if zin (w32 (x1 + 2)) 135 = true then
                (f_M_next (zset r4.1 9 (Int.toNat (w32 (x1 + 2))) (r4.1 0 18))).bind fun r5 =>
                some (r5.1, 1)
              else none
            else
              some (r4.1, 0)
          else
            (f_M_next r3.1).bind fun r6 =>
            some (r6.1, 1)
        else none
      else
        (f_M_bad r1.1 1).bind fun r7 =>
        some (r7.1, r7.2)
    else
      (f_M_isWord (zset σ 9 (Int.toNat s1) s2) 512735536499).bind fun r8 =>
      if ¬ r8.2 = 0 then
        f_M_bookLine_203 r8.1 x1
      else
        (f_M_isWord r8.1 126909394808947).bind fun r9 =>
        if ¬ r9.2 = 0 then
          f_M_bookLine_203 r9.1 x1
        else
          (f_M_bad r9.1 1).bind fun r10 =>
          some (r10.1, r10.2)
  else none := (zsem_eq _ _ _ _ _ _).trans rfl
set_option maxRecDepth 100000 in
theorem e_M_bookLine_203 (σ : zH) (x1 : Int) : f_M_bookLine_203 σ x1 =
  (f_M_isWord σ 512735536499).bind fun r1 =>
  if r1.2 = 0 then
    if zin (w32 (x1 + 2)) 135 = true then
      (f_M_next (zset r1.1 9 (Int.toNat (w32 (x1 + 2))) 0)).bind fun r2 =>
      some (r2.1, 1)
    else none
  else
    if zin (w32 (x1 + 2)) 135 = true then
      (f_M_next (zset r1.1 9 (Int.toNat (w32 (x1 + 2))) 1)).bind fun r3 =>
      some (r3.1, 1)
    else none := (zsem_eq _ _ _ _ _ _).trans rfl
set_option maxRecDepth 100000 in
theorem e_M_does (σ : zH) (x1 : Int) : f_M_does σ x1 =
  if zin (w32 (x1 + 1)) 135 = true then
    if zin (w32 (x1 + 2)) 135 = true then
      if zin x1 135 = true then
        if ¬ (σ 9 (Int.toNat x1)) = 0 then
          if zin x1 135 = true then
            if ¬ (σ 9 (Int.toNat x1)) = 1 then
              (f_M_bitOf σ (σ 7 293) (σ 9 (Int.toNat (w32 (x1 + 1))))).bind fun r1 =>
              if ¬ (σ 9 (Int.toNat (w32 (x1 + 2)))) = 0 then
                f_M_does_99 r1.1 (σ 9 (Int.toNat (w32 (x1 + 1)))) r1.2 0
              else
                f_M_does_99 r1.1 (σ 9 (Int.toNat (w32 (x1 + 1)))) r1.2 1
            else
              (f_M_lastOf σ (σ 9 (Int.toNat (w32 (x1 + 1))))).bind fun r2 =>
              if ¬ r2.2 = (σ 9 (Int.toNat (w32 (x1 + 2)))) then
                some (r2.1, 2)
              else
                some (r2.1, 0)
          else none
        else
          if (w32 ((σ 7 288) + (σ 9 (Int.toNat (w32 (x1 + 1)))))) ≤ 400 then
            (f_M_goes σ (σ 9 (Int.toNat (w32 (x1 + 1))))).bind fun r3 =>
            some (r3.1, 0)
          else
            some (σ, 1)
      else none
    else none
  else none := (zsem_eq _ _ _ _ _ _).trans rfl
set_option maxRecDepth 100000 in
theorem e_M_does_99 (σ : zH) (x2 : Int) (s0 : Int) (s1 : Int) : f_M_does_99 σ x2 s0 s1 =
  if ¬ s0 = s1 then
    some (zset σ 7 293 (zxor (σ 7 293) (zshl 1 x2)), 0)
  else
    some (σ, 3) := (zsem_eq _ _ _ _ _ _).trans rfl
set_option maxRecDepth 100000 in
theorem e_M_daybook (σ : zH) (x1 : Int) : f_M_daybook σ x1 =
  (f_M_isIn (zset σ 0 0 0) x1 0 1).bind fun r1 =>
  if ¬ r1.2 = 0 then
    (f_M_taken r1.1 400).bind fun r2 =>
    (f_M_next (zset (zset r2.1 0 15 0) 0 33 0)).bind fun r3 =>
    f_M_daybook_39 r3.1 x1
  else
    some (r1.1, (-1000)) := (zsem_eq _ _ _ _ _ _).trans rfl
set_option maxRecDepth 100000 in
theorem e_M_daybook_39 (σ : zH) (x1 : Int) : f_M_daybook_39 σ x1 =
  if (σ 0 11) = 0 then
    (f_M_tries σ).bind fun r1 =>
    f_M_daybook_89 r1.1 x1 0
  else
    (f_M_bookLine σ).bind fun r2 =>
    if r2.2 = 0 then
      some (r2.1, w32 ((-2) - (r2.1 0 16)))
    else
      (f_M_sign r2.1 59).bind fun r3 =>
      if ¬ r3.2 = 0 then
        f_M_daybook_39 (zset r3.1 0 33 (w32 ((r3.1 0 33) + 1))) x1
      else
        some (r3.1, w32 ((-2) - (r3.1 0 16))) := (zsem_eq _ _ _ _ _ _).trans rfl
set_option maxRecDepth 100000 in
theorem e_M_daybook_89 (σ : zH) (x1 : Int) (x2 : Int) : f_M_daybook_89 σ x1 x2 =
  if 4 ≤ x2 then
    f_M_daybook_121 σ x1 (σ 7 289) (-1) 0
  else
    if zin x2 4 = true then
      f_M_daybook_89 (zset σ 35 (Int.toNat x2) 0) x1 (w32 (x2 + 1))
    else none := (zsem_eq _ _ _ _ _ _).trans rfl
set_option maxRecDepth 100000 in
theorem e_M_daybook_121 (σ : zH) (x1 : Int) (x2 : Int) (x3 : Int) (x4 : Int) : f_M_daybook_121 σ x1 x2 x3 x4 =
  if (σ 0 33) ≤ x4 then
    f_M_daybook_179 σ x1 x2 x3
  else
    if 0 ≤ x3 then
      f_M_daybook_179 σ x1 x2 x3
    else
      (f_M_does σ (w32 (3 * x4))).bind fun r1 =>
      if ((zset r1.1 35 0 r1.2) 35 0) ≤ 0 then
        f_M_daybook_121 (zset (zset r1.1 35 0 r1.2) 35 1 (w32 (((zset r1.1 35 0 r1.2) 35 1) + 1))) x1 x2 x3 (w32 (x4 + 1))
      else
        f_M_daybook_121 (zset r1.1 35 0 r1.2) x1 x2 x4 (w32 (x4 + 1)) := (zsem_eq _ _ _ _ _ _).trans rfl
set_option maxRecDepth 100000 in
theorem e_M_daybook_179 (σ : zH) (x1 : Int) (x2 : Int) (x3 : Int) : f_M_daybook_179 σ x1 x2 x3 =
  if ¬ x1 = 1 then
    if ¬ x1 = 0 then
      some (zset (zset (zset σ 35 2 (σ 7 288)) 35 3 (w32 (((zset σ 35 2 (σ 7 288)) 7 289) - x2))) 0 35 1, x3)
    else
      (f_M_back (zset (zset (zset σ 35 2 (σ 7 288)) 35 3 (w32 (((zset σ 35 2 (σ 7 288)) 7 289) - x2))) 0 35 1)).bind fun r1 =>
      some (r1.1, x3)
  else
    if ((zset (zset (zset σ 35 2 (σ 7 288)) 35 3 (w32 (((zset σ 35 2 (σ 7 288)) 7 289) - x2))) 0 35 1) 35 1) ≤ 0 then
      if ¬ x1 = 0 then
        some (zset (zset (zset σ 35 2 (σ 7 288)) 35 3 (w32 (((zset σ 35 2 (σ 7 288)) 7 289) - x2))) 0 35 1, x3)
      else
        (f_M_back (zset (zset (zset σ 35 2 (σ 7 288)) 35 3 (w32 (((zset σ 35 2 (σ 7 288)) 7 289) - x2))) 0 35 1)).bind fun r2 =>
        some (r2.1, x3)
    else
      (f_M_keep (zset (zset (zset σ 35 2 (σ 7 288)) 35 3 (w32 (((zset σ 35 2 (σ 7 288)) 7 289) - x2))) 0 35 1)).bind fun r3 =>
      f_M_daybook_235 r3.1 x1 x3 0 := (zsem_eq _ _ _ _ _ _).trans rfl
set_option maxRecDepth 100000 in
theorem e_M_daybook_235 (σ : zH) (x1 : Int) (x3 : Int) (x4 : Int) : f_M_daybook_235 σ x1 x3 x4 =
  if 2490 ≤ x4 then
    if ¬ x1 = 0 then
      some (σ, x3)
    else
      (f_M_back σ).bind fun r1 =>
      some (r1.1, x3)
  else
    if zin x4 2490 = true then
      if zin (w32 ((w32 (2490 * (w32 ((σ 0 23) - 1)))) + x4)) 9960 = true then
        f_M_daybook_235 (zset σ 22 (Int.toNat (w32 ((w32 (2490 * (w32 ((σ 0 23) - 1)))) + x4))) (σ 23 (Int.toNat x4))) x1 x3 (w32 (x4 + 1))
      else none
    else none := (zsem_eq _ _ _ _ _ _).trans rfl
set_option maxRecDepth 100000 in
theorem e_M_booked (σ : zH) (x1 : Int) : f_M_booked σ x1 =
  if ((zset σ 0 0 0) 0 35) = 0 then
    some (zset σ 0 0 0, (-1))
  else
    (f_M_isIn (zset σ 0 0 0) x1 0 3).bind fun r1 =>
    if r1.2 = 0 then
      some (r1.1, (-1))
    else
      if zin x1 4 = true then
        some (r1.1, r1.1 35 (Int.toNat x1))
      else none := (zsem_eq _ _ _ _ _ _).trans rfl
set_option maxRecDepth 100000 in
theorem e_M_code (σ : zH) (x1 : Int) (x2 : Int) (x3 : Int) : f_M_code σ x1 x2 x3 =
  if zin (w32 (3 * (σ 0 37))) 135 = true then
    if zin (w32 ((w32 (3 * ((zset σ 9 (Int.toNat (w32 (3 * (σ 0 37)))) x1) 0 37))) + 1)) 135 = true then
      if zin (w32 ((w32 (3 * ((zset (zset σ 9 (Int.toNat (w32 (3 * (σ 0 37)))) x1) 9 (Int.toNat (w32 ((w32 (3 * ((zset σ 9 (Int.toNat (w32 (3 * (σ 0 37)))) x1) 0 37))) + 1))) x2) 0 37))) + 2)) 135 = true then
        some (zset (zset (zset (zset σ 9 (Int.toNat (w32 (3 * (σ 0 37)))) x1) 9 (Int.toNat (w32 ((w32 (3 * ((zset σ 9 (Int.toNat (w32 (3 * (σ 0 37)))) x1) 0 37))) + 1))) x2) 9 (Int.toNat (w32 ((w32 (3 * ((zset (zset σ 9 (Int.toNat (w32 (3 * (σ 0 37)))) x1) 9 (Int.toNat (w32 ((w32 (3 * ((zset σ 9 (Int.toNat (w32 (3 * (σ 0 37)))) x1) 0 37))) + 1))) x2) 0 37))) + 2))) x3) 0 37 (w32 (((zset (zset (zset σ 9 (Int.toNat (w32 (3 * (σ 0 37)))) x1) 9 (Int.toNat (w32 ((w32 (3 * ((zset σ 9 (Int.toNat (w32 (3 * (σ 0 37)))) x1) 0 37))) + 1))) x2) 9 (Int.toNat (w32 ((w32 (3 * ((zset (zset σ 9 (Int.toNat (w32 (3 * (σ 0 37)))) x1) 9 (Int.toNat (w32 ((w32 (3 * ((zset σ 9 (Int.toNat (w32 (3 * (σ 0 37)))) x1) 0 37))) + 1))) x2) 0 37))) + 2))) x3) 0 37) + 1)), 0)
      else none
    else none
  else none := (zsem_eq _ _ _ _ _ _).trans rfl
set_option maxRecDepth 100000 in
theorem e_M_joins (σ : zH) (x1 : Int) : f_M_joins σ x1 =
  if (σ 0 39) ≤ 0 then
    some (σ, 0)
  else
    if zin (w32 ((σ 0 39) - 1)) 45 = true then
      if (σ 37 (Int.toNat (w32 ((σ 0 39) - 1)))) = 21 then
        f_M_joins_45 σ x1
      else
        if zin (w32 ((σ 0 39) - 1)) 45 = true then
          if ¬ (σ 37 (Int.toNat (w32 ((σ 0 39) - 1)))) = 22 then
            some (σ, 0)
          else
            if ¬ x1 = 22 then
              some (σ, 0)
            else
              f_M_joins_45 σ x1
        else none
    else none := (zsem_eq _ _ _ _ _ _).trans rfl
set_option maxRecDepth 100000 in
theorem e_M_joins_45 (σ : zH) (x1 : Int) : f_M_joins_45 σ x1 =
  if zin ((zset σ 0 39 (w32 ((σ 0 39) - 1))) 0 39) 45 = true then
    (f_M_code (zset σ 0 39 (w32 ((σ 0 39) - 1))) ((zset σ 0 39 (w32 ((σ 0 39) - 1))) 37 (Int.toNat ((zset σ 0 39 (w32 ((σ 0 39) - 1))) 0 39))) 0 0).bind fun r1 =>
    f_M_joins r1.1 x1
  else none := (zsem_eq _ _ _ _ _ _).trans rfl
set_option maxRecDepth 100000 in
theorem e_M_nots (σ : zH)  : f_M_nots σ  =
  if (σ 0 39) ≤ 0 then
    some (σ, 0)
  else
    if zin (w32 ((σ 0 39) - 1)) 45 = true then
      if ¬ (σ 37 (Int.toNat (w32 ((σ 0 39) - 1)))) = 20 then
        some (σ, 0)
      else
        (f_M_code (zset (zset σ 0 39 (w32 ((σ 0 39) - 1))) 0 40 (w32 (((zset σ 0 39 (w32 ((σ 0 39) - 1))) 0 40) - 1))) 20 0 0).bind fun r1 =>
        f_M_nots r1.1
    else none := (zsem_eq _ _ _ _ _ _).trans rfl
set_option maxRecDepth 100000 in
theorem e_M_leafOf (σ : zH)  : f_M_leafOf σ  =
  (f_M_isWord σ 491327153267).bind fun r1 =>
  if r1.2 = 0 then
    (f_M_isWord r1.1 28526).bind fun r2 =>
    if r2.2 = 0 then
      (f_M_isWord r2.1 495622976357).bind fun r3 =>
      if r3.2 = 0 then
        (f_M_isWord r3.1 24948).bind fun r4 =>
        if r4.2 = 0 then
          (f_M_isWord r4.1 512970876019).bind fun r5 =>
          if r5.2 = 0 then
            (f_M_isWord r5.1 465625113956).bind fun r6 =>
            if r6.2 = 0 then
              (f_M_isWord r6.1 121450625394034).bind fun r7 =>
              if r7.2 = 0 then
                some (r7.1, (-1))
              else
                some (r7.1, 6)
            else
              some (r6.1, 5)
          else
            some (r5.1, 4)
        else
          some (r4.1, 3)
      else
        some (r3.1, 2)
    else
      some (r2.1, 1)
  else
    some (r1.1, 0) := (zsem_eq _ _ _ _ _ _).trans rfl
set_option maxRecDepth 100000 in
theorem e_M_operand (σ : zH)  : f_M_operand σ  =
  (f_M_isWord σ 7237492).bind fun r1 =>
  (f_M_isSign r1.1 40).bind fun r2 =>
  (f_M_leafOf r2.1).bind fun r3 =>
  if ¬ r1.2 = 0 then
    f_M_operand_38 r3.1 r1.2 r2.2 r3.2
  else
    if ¬ r2.2 = 0 then
      f_M_operand_38 r3.1 r1.2 r2.2 r3.2
    else
      if 0 ≤ r3.2 then
        f_M_operand_38 r3.1 r1.2 r2.2 r3.2
      else
        (f_M_bad r3.1 1).bind fun r4 =>
        some (r4.1, r4.2) := (zsem_eq _ _ _ _ _ _).trans rfl
set_option maxRecDepth 100000 in
theorem e_M_operand_38 (σ : zH) (x1 : Int) (x2 : Int) (x3 : Int) : f_M_operand_38 σ x1 x2 x3 =
  if (σ 0 38) = 20 then
    (f_M_bad σ 4).bind fun r1 =>
    some (r1.1, r1.2)
  else
    if (σ 0 40) ≤ 8 then
      (f_M_next (zset σ 0 38 (w32 ((σ 0 38) + 1)))).bind fun r2 =>
      if ¬ x1 = 0 then
        if x1 = 0 then
          f_M_operand_103 r2.1 (r2.1 0 39) 23
        else
          f_M_operand_103 r2.1 (r2.1 0 39) 20
      else
        if x2 = 0 then
          if ¬ x3 = 2 then
            if 2 ≤ x3 then
              if ¬ ((zset r2.1 0 41 1) 0 11) = 3 then
                (f_M_bad (zset r2.1 0 41 1) 1).bind fun r3 =>
                some (r3.1, r3.2)
              else
                if ((zset r2.1 0 41 1) 0 14) < 60 then
                  (f_M_bad (zset r2.1 0 41 1) 1).bind fun r4 =>
                  some (r4.1, r4.2)
                else
                  if ((zset r2.1 0 41 1) 0 14) ≤ 62 then
                    (f_M_next (zset r2.1 0 41 1)).bind fun r5 =>
                    if (r5.1 0 11) = 2 then
                      (f_M_code r5.1 x3 ((zset r2.1 0 41 1) 0 14) (r5.1 0 14)).bind fun r6 =>
                      (f_M_next r6.1).bind fun r7 =>
                      some (r7.1, 1)
                    else
                      (f_M_bad r5.1 1).bind fun r8 =>
                      some (r8.1, r8.2)
                  else
                    (f_M_bad (zset r2.1 0 41 1) 1).bind fun r9 =>
                    some (r9.1, r9.2)
            else
              if ¬ x3 = 0 then
                if ¬ x3 = 0 then
                  f_M_operand_174 (zset r2.1 0 41 1) x3 10 1
                else
                  f_M_operand_174 (zset r2.1 0 41 1) x3 10 0
              else
                if ¬ x3 = 0 then
                  f_M_operand_174 (zset r2.1 0 41 1) x3 0 1
                else
                  f_M_operand_174 (zset r2.1 0 41 1) x3 0 0
          else
            (f_M_code (zset r2.1 0 41 1) x3 0 0).bind fun r10 =>
            some (r10.1, 1)
        else
          if x1 = 0 then
            f_M_operand_103 r2.1 (r2.1 0 39) 23
          else
            f_M_operand_103 r2.1 (r2.1 0 39) 20
    else
      (f_M_bad σ 4).bind fun r11 =>
      some (r11.1, r11.2) := (zsem_eq _ _ _ _ _ _).trans rfl
set_option maxRecDepth 100000 in
theorem e_M_operand_103 (σ : zH) (s1 : Int) (s2 : Int) : f_M_operand_103 σ s1 s2 =
  if zin s1 45 = true then
    some (zset (zset (zset σ 37 (Int.toNat s1) s2) 0 39 (w32 (((zset σ 37 (Int.toNat s1) s2) 0 39) + 1))) 0 40 (w32 (((zset (zset σ 37 (Int.toNat s1) s2) 0 39 (w32 (((zset σ 37 (Int.toNat s1) s2) 0 39) + 1))) 0 40) + 1)), 1)
  else none := (zsem_eq _ _ _ _ _ _).trans rfl
set_option maxRecDepth 100000 in
theorem e_M_operand_174 (σ : zH) (x3 : Int) (s1 : Int) (s3 : Int) : f_M_operand_174 σ x3 s1 s3 =
  if zin s3 2959 = true then
    (f_M_looksAt σ s1 (σ 7 (Int.toNat s3))).bind fun r1 =>
    if ¬ r1.2 = 0 then
      (f_M_code r1.1 x3 0 (r1.1 0 18)).bind fun r2 =>
      (f_M_next r2.1).bind fun r3 =>
      some (r3.1, 1)
    else
      some (r1.1, 0)
  else none := (zsem_eq _ _ _ _ _ _).trans rfl
set_option maxRecDepth 100000 in
theorem e_M_behind1 (σ : zH)  : f_M_behind1 σ  =
  (f_M_nots σ).bind fun r1 =>
  (f_M_isWord r1.1 6385252).bind fun r2 =>
  if ¬ r2.2 = 0 then
    (f_M_isWord r2.1 6385252).bind fun r3 =>
    if r3.2 = 0 then
      f_M_behind1_42 r3.1 22
    else
      f_M_behind1_42 r3.1 21
  else
    (f_M_isWord r2.1 28530).bind fun r4 =>
    if r4.2 = 0 then
      (f_M_joins r4.1 22).bind fun r5 =>
      (f_M_isSign r5.1 41).bind fun r6 =>
      if r6.2 = 0 then
        (f_M_bad r6.1 1).bind fun r7 =>
        some (r7.1, r7.2)
      else
        if ¬ (r6.1 0 39) = 0 then
          (f_M_next (zset (zset r6.1 0 39 (w32 ((r6.1 0 39) - 1))) 0 40 (w32 (((zset r6.1 0 39 (w32 ((r6.1 0 39) - 1))) 0 40) - 1)))).bind fun r8 =>
          some (r8.1, 1)
        else
          (f_M_bad r6.1 1).bind fun r9 =>
          some (r9.1, r9.2)
    else
      (f_M_isWord r4.1 6385252).bind fun r10 =>
      if r10.2 = 0 then
        f_M_behind1_42 r10.1 22
      else
        f_M_behind1_42 r10.1 21 := (zsem_eq _ _ _ _ _ _).trans rfl
set_option maxRecDepth 100000 in
theorem e_M_behind1_42 (σ : zH) (s1 : Int) : f_M_behind1_42 σ s1 =
  (f_M_joins σ s1).bind fun r1 =>
  (f_M_isWord r1.1 6385252).bind fun r2 =>
  if r2.2 = 0 then
    if zin (r1.1 0 39) 45 = true then
      (f_M_next (zset (zset (zset r2.1 37 (Int.toNat (r1.1 0 39)) 22) 0 39 (w32 (((zset r2.1 37 (Int.toNat (r1.1 0 39)) 22) 0 39) + 1))) 0 41 0)).bind fun r3 =>
      some (r3.1, 1)
    else none
  else
    if zin (r1.1 0 39) 45 = true then
      (f_M_next (zset (zset (zset r2.1 37 (Int.toNat (r1.1 0 39)) 21) 0 39 (w32 (((zset r2.1 37 (Int.toNat (r1.1 0 39)) 21) 0 39) + 1))) 0 41 0)).bind fun r4 =>
      some (r4.1, 1)
    else none := (zsem_eq _ _ _ _ _ _).trans rfl
set_option maxRecDepth 100000 in
theorem e_M_sentence (σ : zH)  : f_M_sentence σ  =
  (f_M_taken (zset σ 0 0 0) 200).bind fun r1 =>
  (f_M_next (zset (zset (zset (zset (zset (zset r1.1 0 15 0) 0 37 0) 0 38 0) 0 39 0) 0 40 1) 0 41 0)).bind fun r2 =>
  f_M_sentence_48 r2.1 1 := (zsem_eq _ _ _ _ _ _).trans rfl
set_option maxRecDepth 100000 in
theorem e_M_sentence_48 (σ : zH) (x1 : Int) : f_M_sentence_48 σ x1 =
  if x1 = 0 then
    f_M_sentence_146 (zset σ 7 2778 (σ 0 37)) 0
  else
    if (σ 0 41) = 0 then
      f_M_sentence_101 σ x1
    else
      if ¬ (σ 0 11) = 0 then
        f_M_sentence_101 σ x1
      else
        (f_M_nots σ).bind fun r1 =>
        (f_M_joins r1.1 22).bind fun r2 =>
        if (r2.1 0 39) ≤ 0 then
          f_M_sentence_48 r2.1 0
        else
          (f_M_bad r2.1 1).bind fun r3 =>
          some (r3.1, w32 ((-1) - (r3.1 0 16))) := (zsem_eq _ _ _ _ _ _).trans rfl
set_option maxRecDepth 100000 in
theorem e_M_sentence_101 (σ : zH) (x1 : Int) : f_M_sentence_101 σ x1 =
  if (σ 0 41) = 0 then
    (f_M_operand σ).bind fun r1 =>
    if ¬ r1.2 = 0 then
      f_M_sentence_48 r1.1 x1
    else
      some (r1.1, w32 ((-1) - (r1.1 0 16)))
  else
    (f_M_behind1 σ).bind fun r2 =>
    if ¬ r2.2 = 0 then
      f_M_sentence_48 r2.1 x1
    else
      some (r2.1, w32 ((-1) - (r2.1 0 16))) := (zsem_eq _ _ _ _ _ _).trans rfl
set_option maxRecDepth 100000 in
theorem e_M_sentence_146 (σ : zH) (x2 : Int) : f_M_sentence_146 σ x2 =
  if (w32 (3 * (σ 0 37))) ≤ x2 then
    some (σ, σ 0 38)
  else
    if zin x2 135 = true then
      if zin (w32 (2779 + x2)) 2959 = true then
        f_M_sentence_146 (zset σ 7 (Int.toNat (w32 (2779 + x2))) (σ 9 (Int.toNat x2))) (w32 (x2 + 1))
      else none
    else none := (zsem_eq _ _ _ _ _ _).trans rfl
set_option maxRecDepth 100000 in
theorem e_M_isLeaf (σ : zH) (x1 : Int) (x2 : Int) (x3 : Int) (x4 : Int) : f_M_isLeaf σ x1 x2 x3 x4 =
  if ¬ x2 = 0 then
    if ¬ x2 = 1 then
      if ¬ x2 = 2 then
        if ¬ x2 = 3 then
          if ¬ x2 = 4 then
            if ¬ x2 = 5 then
              f_M_isLeaf_114 σ x3 x4 x1
            else
              (f_M_wordsOf σ x1 0 1).bind fun r1 =>
              f_M_isLeaf_114 r1.1 x3 x4 r1.2
          else
            (f_M_wordsOf σ x1 0 0).bind fun r2 =>
            f_M_isLeaf_114 r2.1 x3 x4 r2.2
        else
          if zin (w32 (222 + x1)) 2959 = true then
            f_M_isLeaf_114 σ x3 x4 (σ 7 (Int.toNat (w32 (222 + x1))))
          else none
      else
        (f_M_senseOf σ x1).bind fun r3 =>
        if 0 ≤ r3.2 then
          some (r3.1, 0)
        else
          some (r3.1, 1)
    else
      if zin (w32 (216 + x1)) 2959 = true then
        if ¬ (σ 7 (Int.toNat (w32 (216 + x1)))) = x4 then
          some (σ, 0)
        else
          some (σ, 1)
      else none
  else
    (f_M_lastOf σ x1).bind fun r4 =>
    if ¬ r4.2 = x4 then
      some (r4.1, 0)
    else
      some (r4.1, 1) := (zsem_eq _ _ _ _ _ _).trans rfl
set_option maxRecDepth 100000 in
theorem e_M_isLeaf_114 (σ : zH) (x3 : Int) (x4 : Int) (s0 : Int) : f_M_isLeaf_114 σ x3 x4 s0 =
  if ¬ x3 = 60 then
    if ¬ x3 = 61 then
      if s0 ≤ x4 then
        some (σ, 0)
      else
        some (σ, 1)
    else
      if ¬ s0 = x4 then
        some (σ, 0)
      else
        some (σ, 1)
  else
    if x4 ≤ s0 then
      some (σ, 0)
    else
      some (σ, 1) := (zsem_eq _ _ _ _ _ _).trans rfl
set_option maxRecDepth 100000 in
theorem e_M_isSaid (σ : zH) (x1 : Int) : f_M_isSaid σ x1 =
  f_M_isSaid_4 σ x1 0 0 := (zsem_eq _ _ _ _ _ _).trans rfl
set_option maxRecDepth 100000 in
theorem e_M_isSaid_4 (σ : zH) (x1 : Int) (x2 : Int) (x3 : Int) : f_M_isSaid_4 σ x1 x2 x3 =
  if (σ 7 2778) ≤ x3 then
    some (σ, σ 43 0)
  else
    if zin (w32 (2779 + (w32 (3 * x3)))) 2959 = true then
      if ¬ (σ 7 (Int.toNat (w32 (2779 + (w32 (3 * x3)))))) = 20 then
        if zin (w32 (2779 + (w32 (3 * x3)))) 2959 = true then
          if (σ 7 (Int.toNat (w32 (2779 + (w32 (3 * x3)))))) = 21 then
            f_M_isSaid_88 σ x1 x2 x3 (w32 (2779 + (w32 (3 * x3))))
          else
            if zin (w32 (2779 + (w32 (3 * x3)))) 2959 = true then
              if ¬ (σ 7 (Int.toNat (w32 (2779 + (w32 (3 * x3)))))) = 22 then
                if zin (w32 (2779 + (w32 (3 * x3)))) 2959 = true then
                  if zin (w32 ((w32 (2779 + (w32 (3 * x3)))) + 1)) 2959 = true then
                    if zin (w32 ((w32 (2779 + (w32 (3 * x3)))) + 2)) 2959 = true then
                      (f_M_isLeaf σ x1 (σ 7 (Int.toNat (w32 (2779 + (w32 (3 * x3)))))) (σ 7 (Int.toNat (w32 ((w32 (2779 + (w32 (3 * x3)))) + 1)))) (σ 7 (Int.toNat (w32 ((w32 (2779 + (w32 (3 * x3)))) + 2))))).bind fun r1 =>
                      if zin x2 45 = true then
                        f_M_isSaid_4 (zset r1.1 43 (Int.toNat x2) r1.2) x1 (w32 (x2 + 1)) (w32 (x3 + 1))
                      else none
                    else none
                  else none
                else none
              else
                f_M_isSaid_88 σ x1 x2 x3 (w32 (2779 + (w32 (3 * x3))))
            else none
        else none
      else
        if zin (w32 (x2 - 1)) 45 = true then
          if ¬ (σ 43 (Int.toNat (w32 (x2 - 1)))) = 0 then
            if zin (w32 (x2 - 1)) 45 = true then
              f_M_isSaid_4 (zset σ 43 (Int.toNat (w32 (x2 - 1))) 0) x1 x2 (w32 (x3 + 1))
            else none
          else
            if zin (w32 (x2 - 1)) 45 = true then
              f_M_isSaid_4 (zset σ 43 (Int.toNat (w32 (x2 - 1))) 1) x1 x2 (w32 (x3 + 1))
            else none
        else none
    else none := (zsem_eq _ _ _ _ _ _).trans rfl
set_option maxRecDepth 100000 in
theorem e_M_isSaid_88 (σ : zH) (x1 : Int) (x2 : Int) (x3 : Int) (x4 : Int) : f_M_isSaid_88 σ x1 x2 x3 x4 =
  if zin x4 2959 = true then
    if ¬ (σ 7 (Int.toNat x4)) = 21 then
      if zin (w32 ((w32 (x2 + (-1))) - 1)) 45 = true then
        if ¬ (σ 43 (Int.toNat (w32 ((w32 (x2 + (-1))) - 1)))) = 0 then
          if zin (w32 ((w32 (x2 + (-1))) - 1)) 45 = true then
            f_M_isSaid_4 (zset σ 43 (Int.toNat (w32 ((w32 (x2 + (-1))) - 1))) 1) x1 (w32 (x2 + (-1))) (w32 (x3 + 1))
          else none
        else
          if zin (w32 (x2 + (-1))) 45 = true then
            if (σ 43 (Int.toNat (w32 (x2 + (-1))))) = 0 then
              if zin (w32 ((w32 (x2 + (-1))) - 1)) 45 = true then
                f_M_isSaid_4 (zset σ 43 (Int.toNat (w32 ((w32 (x2 + (-1))) - 1))) 0) x1 (w32 (x2 + (-1))) (w32 (x3 + 1))
              else none
            else
              if zin (w32 ((w32 (x2 + (-1))) - 1)) 45 = true then
                f_M_isSaid_4 (zset σ 43 (Int.toNat (w32 ((w32 (x2 + (-1))) - 1))) 1) x1 (w32 (x2 + (-1))) (w32 (x3 + 1))
              else none
          else none
      else none
    else
      if zin (w32 ((w32 (x2 + (-1))) - 1)) 45 = true then
        if (σ 43 (Int.toNat (w32 ((w32 (x2 + (-1))) - 1)))) = 0 then
          if zin (w32 ((w32 (x2 + (-1))) - 1)) 45 = true then
            f_M_isSaid_4 (zset σ 43 (Int.toNat (w32 ((w32 (x2 + (-1))) - 1))) 0) x1 (w32 (x2 + (-1))) (w32 (x3 + 1))
          else none
        else
          if zin (w32 (x2 + (-1))) 45 = true then
            if (σ 43 (Int.toNat (w32 (x2 + (-1))))) = 0 then
              if zin (w32 ((w32 (x2 + (-1))) - 1)) 45 = true then
                f_M_isSaid_4 (zset σ 43 (Int.toNat (w32 ((w32 (x2 + (-1))) - 1))) 0) x1 (w32 (x2 + (-1))) (w32 (x3 + 1))
              else none
            else
              if zin (w32 ((w32 (x2 + (-1))) - 1)) 45 = true then
                f_M_isSaid_4 (zset σ 43 (Int.toNat (w32 ((w32 (x2 + (-1))) - 1))) 1) x1 (w32 (x2 + (-1))) (w32 (x3 + 1))
              else none
          else none
      else none
  else none := (zsem_eq _ _ _ _ _ _).trans rfl
set_option maxRecDepth 100000 in
theorem e_M_said (σ : zH) (x1 : Int) : f_M_said σ x1 =
  if ((zset σ 0 0 0) 7 2778) = 0 then
    some (zset σ 0 0 0, (-1))
  else
    if (-1) ≤ x1 then
      f_M_said_27 (zset σ 0 0 0) x1 0 0
    else
      some (zset σ 0 0 0, (-1)) := (zsem_eq _ _ _ _ _ _).trans rfl
set_option maxRecDepth 100000 in
theorem e_M_said_27 (σ : zH) (x1 : Int) (x2 : Int) (x3 : Int) : f_M_said_27 σ x1 x2 x3 =
  if (σ 7 4) ≤ x3 then
    if ¬ x1 = (-1) then
      some (σ, (-1))
    else
      some (σ, x2)
  else
    (f_M_isSaid σ x3).bind fun r1 =>
    if ¬ r1.2 = 0 then
      if ¬ x2 = x1 then
        f_M_said_27 r1.1 x1 (w32 (x2 + 1)) (w32 (x3 + 1))
      else
        some (r1.1, x3)
    else
      f_M_said_27 r1.1 x1 x2 (w32 (x3 + 1)) := (zsem_eq _ _ _ _ _ _).trans rfl
set_option maxRecDepth 100000 in
theorem e_M_image (σ : zH) (x1 : Int) : f_M_image σ x1 =
  (f_M_isIn (zset σ 0 0 0) x1 0 1).bind fun r1 =>
  if ¬ r1.2 = 0 then
    f_M_image_18 r1.1 x1 0
  else
    some (r1.1, 0) := (zsem_eq _ _ _ _ _ _).trans rfl
set_option maxRecDepth 100000 in
theorem e_M_image_18 (σ : zH) (x1 : Int) (x2 : Int) : f_M_image_18 σ x1 x2 =
  if 2959 ≤ x2 then
    f_M_image_51 σ x1 0
  else
    if zin x2 2959 = true then
      if zin (w32 ((w32 (2959 * x1)) + x2)) 5918 = true then
        f_M_image_18 (zset σ 44 (Int.toNat (w32 ((w32 (2959 * x1)) + x2))) (σ 7 (Int.toNat x2))) x1 (w32 (x2 + 1))
      else none
    else none := (zsem_eq _ _ _ _ _ _).trans rfl
set_option maxRecDepth 100000 in
theorem e_M_image_51 (σ : zH) (x1 : Int) (x2 : Int) : f_M_image_51 σ x1 x2 =
  if 30 ≤ x2 then
    if zin x1 2 = true then
      some (zset σ 46 (Int.toNat x1) 1, 1)
    else none
  else
    if zin x2 60 = true then
      if zin (w32 ((w32 (30 * x1)) + x2)) 60 = true then
        f_M_image_51 (zset σ 45 (Int.toNat (w32 ((w32 (30 * x1)) + x2))) (σ 10 (Int.toNat x2))) x1 (w32 (x2 + 1))
      else none
    else none := (zsem_eq _ _ _ _ _ _).trans rfl
set_option maxRecDepth 100000 in
theorem e_M_restore (σ : zH) (x1 : Int) : f_M_restore σ x1 =
  (f_M_isIn (zset σ 0 0 0) x1 0 1).bind fun r1 =>
  if r1.2 = 0 then
    some (r1.1, 0)
  else
    if zin x1 2 = true then
      if ¬ (r1.1 46 (Int.toNat x1)) = 0 then
        f_M_restore_27 r1.1 x1 0
      else
        some (r1.1, 0)
    else none := (zsem_eq _ _ _ _ _ _).trans rfl
set_option maxRecDepth 100000 in
theorem e_M_restore_27 (σ : zH) (x1 : Int) (x2 : Int) : f_M_restore_27 σ x1 x2 =
  if 2959 ≤ x2 then
    f_M_restore_60 σ x1 0
  else
    if zin (w32 ((w32 (2959 * x1)) + x2)) 5918 = true then
      if zin x2 2959 = true then
        f_M_restore_27 (zset σ 7 (Int.toNat x2) (σ 44 (Int.toNat (w32 ((w32 (2959 * x1)) + x2))))) x1 (w32 (x2 + 1))
      else none
    else none := (zsem_eq _ _ _ _ _ _).trans rfl
set_option maxRecDepth 100000 in
theorem e_M_restore_60 (σ : zH) (x1 : Int) (x2 : Int) : f_M_restore_60 σ x1 x2 =
  if 30 ≤ x2 then
    some (zset σ 0 23 0, 1)
  else
    if zin (w32 ((w32 (30 * x1)) + x2)) 60 = true then
      if zin x2 60 = true then
        f_M_restore_60 (zset σ 10 (Int.toNat x2) (σ 45 (Int.toNat (w32 ((w32 (30 * x1)) + x2))))) x1 (w32 (x2 + 1))
      else none
    else none := (zsem_eq _ _ _ _ _ _).trans rfl
set_option maxRecDepth 100000 in
theorem e_M_count (σ : zH) (x1 : Int) : f_M_count σ x1 =
  if ¬ x1 = 6 then
    (f_M_isIn (zset σ 0 0 0) x1 0 5).bind fun r1 =>
    if r1.2 = 0 then
      some (r1.1, (-1))
    else
      if zin x1 2959 = true then
        some (r1.1, r1.1 7 (Int.toNat x1))
      else none
  else
    some (zset σ 0 0 0, (zset σ 0 0 0) 0 2) := (zsem_eq _ _ _ _ _ _).trans rfl
