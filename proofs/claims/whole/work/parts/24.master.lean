/-! EVERY instruction at once; the forms of its outcome -/
section ZQ
variable {ad : Nat → Nat} {ct : Nat → ClassId} {kw ss : Nat}
variable {lks : List (Nat × zK)} {p : Program} {l : Launch} {e : Env} {R : Room} {s : State} {m : MethodId} {args : Array Value} {below : List Frame} {meth : Method} {c : Code} {Q : State → Prop} {D : va_G} {P : zP} {A : Nat → Prop} {nL : Nat} {cc : ByteArray} {own : String} {mr rk pc : Nat} {L : zL} {st : List zV} {σ : zH}
theorem gd_field {idx : Nat} {o : Nat → Nat → Option (Bool × zO)} (hlk : zLKs own lks) (h : ∀ ci slot, zFL zTs own idx ci slot → zGd ad ct kw ss p l e R s m args below meth c Q D P A nL mr rk pc L st σ (o ci slot)) : zGd ad ct kw ss p l e R s m args below meth c Q D P A nL mr rk pc L st σ (match zlk idx lks with
    | some (0, ci, slot, _, _, _, _) => o ci slot
    | _ => none) := by
  split
  · rename_i ci slot _ _ _ _ hz
    exact h ci slot (hlk _ _ hz)
  · exact zGd_none
theorem zst_ok (C : zCx ad ct kw ss p s m args c D P A nL cc own zTs) (hR : R = zroom rk) (hL : okL P L) (hS : okS P st) (hH : okH P σ) {i : Instr} {len : Nat} (hdg : decode cc pc = .ok (i, len)) (hchk : zchk pc len i = true) (hn : zchn nL i = true) (hlk : zLKs own lks) :
    zGd ad ct kw ss p l e R s m args below meth c Q D P A nL mr rk pc L st σ (zst zfi lks mr rk pc len i L st σ) := by
  obtain ⟨hx, hb, hml, hown, hts, hK, hap, hinj, hcl, hSt, hA⟩ := id C
  have hR2 : 0 < rk → 1 ≤ R.frames ∧ 64 ≤ R.locals := by
    intro h
    rw [hR]
    exact ⟨by show 1 ≤ rk + 1; omega, by show 64 ≤ 64 * (rk + 1); omega⟩
  cases i
  case iconst x =>
    simp only [zchk, Bool.and_eq_true, decide_eq_true_eq] at hchk
    obtain ⟨h1, h2, h3⟩ := hchk
    obtain rfl := Nat.eq_of_beq_eq_true h1
    exact gd_push hL hS hH (show r32 x from ⟨by omega, by omega⟩) (fun H locs ls hP hs hl k => lv_iconst (v := Int32.ofInt x) hx hb hdg rfl k)
  case bipush x =>
    simp only [zchk, Bool.and_eq_true, decide_eq_true_eq] at hchk
    obtain ⟨h1, h2, h3⟩ := hchk
    obtain rfl := Nat.eq_of_beq_eq_true h1
    exact gd_push hL hS hH (show r32 x from ⟨by omega, by omega⟩) (fun H locs ls hP hs hl k => lv_bipush (v := Int32.ofInt x) hx hb hdg (Int8.toInt32_ofInt (show (-128 : Int) ≤ x by omega) (show x ≤ 127 by omega)) k)
  case sipush x =>
    simp only [zchk, Bool.and_eq_true, decide_eq_true_eq] at hchk
    obtain ⟨h1, h2, h3⟩ := hchk
    obtain rfl := Nat.eq_of_beq_eq_true h1
    exact gd_push hL hS hH (show r32 x from ⟨by omega, by omega⟩) (fun H locs ls hP hs hl k => lv_sipush (v := Int32.ofInt x) hx hb hdg (Int16.toInt32_ofInt (show (-32768 : Int) ≤ x by omega) (show x ≤ 32767 by omega)) k)
  case lconst x =>
    obtain rfl := Nat.eq_of_beq_eq_true hchk
    refine gd_push hL hS hH (show r64 (Int.ofNat x.val) from ?_) (fun H locs ls hP hs hl k => lv_lconst (v := Int64.ofInt (Int.ofNat x.val)) hx hb hdg ?_ k)
    · have := x.isLt
      unfold r64
      constructor
      · show _ ≤ (x.val : Int); omega
      · show (x.val : Int) < _; omega
    · first | rfl | (apply Int64.toBitVec_inj.mp; simp [Int64.ofInt, Int64.ofNat])
  case ldc idx =>
    obtain rfl := Nat.eq_of_beq_eq_true hchk
    show zGd ad ct kw ss p l e R s m args below meth c Q D P A nL mr rk pc L st σ (match zlk idx lks with
      | some (3, _, _, _, _, _, x) => some (true, .inl (pc + 2, L, .inl x :: st, σ))
      | _ => none)
    split
    · rename_i x hz
      obtain ⟨h1, h2⟩ := hlk _ _ hz
      exact gd_push hL hS hH (show r32 x from h1) (fun H locs ls hP hs hl k => lv_ldc hx hb hown (hts _ h2) hdg k)
    · exact zGd_none
  case ldc_w idx =>
    obtain rfl := Nat.eq_of_beq_eq_true hchk
    show zGd ad ct kw ss p l e R s m args below meth c Q D P A nL mr rk pc L st σ (match zlk idx lks with
      | some (3, _, _, _, _, _, x) => some (true, .inl (pc + 3, L, .inl x :: st, σ))
      | _ => none)
    split
    · rename_i x hz
      obtain ⟨h1, h2⟩ := hlk _ _ hz
      exact gd_push hL hS hH (show r32 x from h1) (fun H locs ls hP hs hl k => lv_ldcw hx hb hown (hts _ h2) hdg k)
    · exact zGd_none
  case ldc2_w idx =>
    obtain rfl := Nat.eq_of_beq_eq_true hchk
    show zGd ad ct kw ss p l e R s m args below meth c Q D P A nL mr rk pc L st σ (match zlk idx lks with
      | some (4, _, _, _, _, _, x) => some (true, .inl (pc + 3, L, .inr (.inl x) :: st, σ))
      | _ => none)
    split
    · rename_i x hz
      obtain ⟨h1, h2⟩ := hlk _ _ hz
      exact gd_push hL hS hH (show r64 x from h1) (fun H locs ls hP hs hl k => lv_ldc2 hx hb hown (hts _ h2) hdg k)
    · exact zGd_none
  case iload k =>
    obtain rfl := Nat.eq_of_beq_eq_true hchk
    exact gd_zldi hL hS hH (fun H locs ls rest x h kk => lv_iload hx hb hdg h kk)
  case iload_n k =>
    obtain rfl := Nat.eq_of_beq_eq_true hchk
    exact gd_zldi hL hS hH (fun H locs ls rest x h kk => lv_iload_n hx hb hdg rfl h kk)
  case aload k =>
    obtain rfl := Nat.eq_of_beq_eq_true hchk
    exact gd_zlda hL hS hH (fun H locs ls rest x h kk => lv_aload hx hb hdg h kk)
  case aload_n k =>
    obtain rfl := Nat.eq_of_beq_eq_true hchk
    exact gd_zlda hL hS hH (fun H locs ls rest x h kk => lv_aload_n hx hb hdg rfl h kk)
  case lload k =>
    obtain rfl := Nat.eq_of_beq_eq_true hchk
    exact gd_zldl hL hS hH (fun H locs ls rest x h kk => lv_lload hx hb hdg h kk)
  case lload_n k =>
    obtain rfl := Nat.eq_of_beq_eq_true hchk
    exact gd_zldl hL hS hH (fun H locs ls rest x h kk => lv_lload_n hx hb hdg rfl h kk)
  case istore k =>
    obtain rfl := Nat.eq_of_beq_eq_true hchk
    have hn : k < nL := by rw [zchn, Nat.blt_eq] at hn; exact hn
    exact gd_zsti hL hS hH (fun H locs ls rest x hl kk => lv_istore hx hb hdg hl hn rfl kk)
  case istore_n k =>
    obtain rfl := Nat.eq_of_beq_eq_true hchk
    have hn : k.val < nL := by rw [zchn, Nat.blt_eq] at hn; exact hn
    exact gd_zsti hL hS hH (fun H locs ls rest x hl kk => lv_istore_n hx hb hdg rfl hl hn rfl kk)
  case lstore k =>
    obtain rfl := Nat.eq_of_beq_eq_true hchk
    have hn : k + 1 < nL := by rw [zchn, Nat.blt_eq] at hn; exact hn
    exact gd_zstl hL hS hH (fun H locs ls rest x hl kk => lv_lstore hx hb hdg hl hn rfl kk)
  case lstore_n k =>
    obtain rfl := Nat.eq_of_beq_eq_true hchk
    have hn : k.val + 1 < nL := by rw [zchn, Nat.blt_eq] at hn; exact hn
    exact gd_zstl hL hS hH (fun H locs ls rest x hl kk => lv_lstore_n hx hb hdg rfl hl hn rfl kk)
  case astore k =>
    obtain rfl := Nat.eq_of_beq_eq_true hchk
    have hn : k < nL := by rw [zchn, Nat.blt_eq] at hn; exact hn
    exact gd_zsta hL hS hH (fun H locs ls rest x hl kk => lv_astore hx hb hdg hl hn rfl kk)
  case astore_n k =>
    obtain rfl := Nat.eq_of_beq_eq_true hchk
    have hn : k.val < nL := by rw [zchn, Nat.blt_eq] at hn; exact hn
    exact gd_zsta hL hS hH (fun H locs ls rest x hl kk => lv_astore_n hx hb hdg rfl hl hn rfl kk)
  case iinc k x =>
    simp only [zchk, Bool.and_eq_true, decide_eq_true_eq] at hchk
    obtain ⟨h1, h2, h3⟩ := hchk
    obtain rfl := Nat.eq_of_beq_eq_true h1
    have hn : k < nL := by rw [zchn, Nat.blt_eq] at hn; exact hn
    show zGd ad ct kw ss p l e R s m args below meth c Q D P A nL mr rk pc L st σ (match zlook k L with
      | some (.inl y) => some (true, .inl (pc + 3, zst1 k (.inl (w32 (y + x))) L, st, σ))
      | _ => none)
    split
    · rename_i y hz
      refine zGd_nx (fun _ => ⟨okL_st1 (show okV P (.inl (w32 (y + x))) from r32_w32 _) hL, hS, hH⟩) (fun _ kk H locs ls hP hs hl => ?_)
      have hmem : (k, Value.int (Int32.ofInt y)) ∈ ztL ad kw ss L := List.mem_map.mpr ⟨(k, .inl y), zlook_mem hz, rfl⟩
      obtain ⟨q, hq⟩ := List.mem_iff_getElem?.mp hmem
      refine lv_iinc (v := Int32.ofInt (w32 (y + x))) hx hb hdg hl hq (of_add y x).symm hn rfl (fun ls' h' => kk H locs ls' hP hs ?_)
      rw [zst1_map]
      exact h'
    · exact zGd_none
  case iadd =>
    obtain rfl := Nat.eq_of_beq_eq_true hchk
    exact gd_zb2 (g := fun x y => x + y) hL hS hH (fun x y _ _ => ⟨r32_w32 _, of_add x y⟩) (fun H locs ls rest x y _ _ k => lv_iadd hx hb hdg k)
  case isub =>
    obtain rfl := Nat.eq_of_beq_eq_true hchk
    exact gd_zb2 (g := fun x y => x - y) hL hS hH (fun x y _ _ => ⟨r32_w32 _, of_sub x y⟩) (fun H locs ls rest x y _ _ k => lv_isub hx hb hdg k)
  case imul =>
    obtain rfl := Nat.eq_of_beq_eq_true hchk
    exact gd_zb2 (g := fun x y => x * y) hL hS hH (fun x y _ _ => ⟨r32_w32 _, of_mul x y⟩) (fun H locs ls rest x y _ _ k => lv_imul hx hb hdg k)
  case iand =>
    obtain rfl := Nat.eq_of_beq_eq_true hchk
    exact gd_zb2 (g := fun x y => x &&& y) hL hS hH (fun x y _ _ => ⟨r32_to _, Int32.ofInt_toInt _⟩) (fun H locs ls rest x y _ _ k => lv_iand hx hb hdg k)
  case ior =>
    obtain rfl := Nat.eq_of_beq_eq_true hchk
    exact gd_zb2 (g := fun x y => x ||| y) hL hS hH (fun x y _ _ => ⟨r32_to _, Int32.ofInt_toInt _⟩) (fun H locs ls rest x y _ _ k => lv_ior hx hb hdg k)
  case ixor =>
    obtain rfl := Nat.eq_of_beq_eq_true hchk
    exact gd_zb2 (g := fun x y => x ^^^ y) hL hS hH (fun x y _ _ => ⟨r32_to _, Int32.ofInt_toInt _⟩) (fun H locs ls rest x y _ _ k => lv_ixor hx hb hdg k)
  case ishl =>
    obtain rfl := Nat.eq_of_beq_eq_true hchk
    exact gd_zb2 (g := fun x y => x <<< (y &&& 31)) hL hS hH (fun x y _ _ => ⟨r32_to _, Int32.ofInt_toInt _⟩) (fun H locs ls rest x y _ _ k => lv_ishl hx hb hdg k)
  case ishr =>
    obtain rfl := Nat.eq_of_beq_eq_true hchk
    exact gd_zb2 (g := fun x y => x >>> (y &&& 31)) hL hS hH (fun x y _ _ => ⟨r32_to _, Int32.ofInt_toInt _⟩) (fun H locs ls rest x y _ _ k => lv_ishr hx hb hdg k)
  case iushr =>
    obtain rfl := Nat.eq_of_beq_eq_true hchk
    exact gd_zb2 (g := fun x y => (x.toUInt32 >>> (y.toUInt32 &&& Int32.toUInt32 31)).toInt32) hL hS hH (fun x y _ _ => ⟨r32_to _, Int32.ofInt_toInt _⟩) (fun H locs ls rest x y _ _ k => lv_iushr hx hb hdg rfl k)
  case idiv =>
    obtain rfl := Nat.eq_of_beq_eq_true hchk
    simp only [zst]
    split
    · rename_i y x r
      obtain ⟨h1, hS⟩ := okS_cons.mp hS
      obtain ⟨h2, hS⟩ := okS_cons.mp hS
      refine zGd_nx (fun _ => ⟨hL, okS_cons.mpr ⟨r32_w32 _, hS⟩, hH⟩) (fun hg k H locs ls hP hs hl => lv_idiv hx hb hdg (nz_of h1 hg) ?_)
      rw [← of_div h2 h1]
      exact k H locs ls hP hs hl
    · exact zGd_none
  case irem =>
    obtain rfl := Nat.eq_of_beq_eq_true hchk
    simp only [zst]
    split
    · rename_i y x r
      obtain ⟨h1, hS⟩ := okS_cons.mp hS
      obtain ⟨h2, hS⟩ := okS_cons.mp hS
      refine zGd_nx (fun _ => ⟨hL, okS_cons.mpr ⟨(of_rem h2 h1).1, hS⟩, hH⟩) (fun hg k H locs ls hP hs hl => lv_irem hx hb hdg (nz_of h1 hg) ?_)
      rw [← (of_rem h2 h1).2]
      exact k H locs ls hP hs hl
    · exact zGd_none
  case ineg =>
    obtain rfl := Nat.eq_of_beq_eq_true hchk
    simp only [zst]
    split
    · rename_i x r
      obtain ⟨h1, hS⟩ := okS_cons.mp hS
      refine zGd_nx (fun _ => ⟨hL, okS_cons.mpr ⟨r32_w32 _, hS⟩, hH⟩) (fun hg k H locs ls hP hs hl => lv_ineg hx hb hdg ?_)
      rw [← of_neg]
      exact k H locs ls hP hs hl
    · exact zGd_none
  case i2l =>
    obtain rfl := Nat.eq_of_beq_eq_true hchk
    simp only [zst]
    split
    · rename_i x r
      obtain ⟨h1, hS⟩ := okS_cons.mp hS
      refine zGd_nx (fun _ => ⟨hL, okS_cons.mpr ⟨?_, hS⟩, hH⟩) (fun hg k H locs ls hP hs hl => lv_i2l hx hb hdg (of_i2l h1) ?_)
      · have h1 : r32 x := h1
        unfold r32 at h1
        show r64 x
        unfold r64
        omega
      · exact k H locs ls hP hs hl
    · exact zGd_none
  case i2b =>
    obtain rfl := Nat.eq_of_beq_eq_true hchk
    simp only [zst]
    split
    · rename_i x r
      obtain ⟨h1, hS⟩ := okS_cons.mp hS
      exact zGd_nx (fun _ => ⟨hL, okS_cons.mpr ⟨r8_r32 (r8_w8 _), hS⟩, hH⟩) (fun hg k H locs ls hP hs hl => lv_i2b hx hb hdg (of_i2b h1) (k H locs ls hP hs hl))
    · exact zGd_none
  case lmul =>
    obtain rfl := Nat.eq_of_beq_eq_true hchk
    exact gd_zl2 (g := fun x y => x * y) hL hS hH (fun x y _ _ => ⟨r64_w64 _, of_lmul x y⟩) (fun H locs ls rest x y k => lv_lmul hx hb hdg k)
  case lor =>
    obtain rfl := Nat.eq_of_beq_eq_true hchk
    exact gd_zl2 (g := fun x y => x ||| y) hL hS hH (fun x y _ _ => ⟨r64_to _, Int64.ofInt_toInt _⟩) (fun H locs ls rest x y k => lv_lor hx hb hdg k)
  case lshl =>
    obtain rfl := Nat.eq_of_beq_eq_true hchk
    simp only [zst]
    split
    · rename_i y x r
      obtain ⟨h1, hS⟩ := okS_cons.mp hS
      obtain ⟨h2, hS⟩ := okS_cons.mp hS
      refine zGd_nx (fun _ => ⟨hL, okS_cons.mpr ⟨r64_to _, hS⟩, hH⟩) (fun hg k H locs ls hP hs hl => lv_lshl hx hb hdg (v := Int64.ofInt (zlshl x y)) ?_ (k H locs ls hP hs hl))
      exact (Int64.ofInt_toInt _).symm
    · exact zGd_none
  case lcmp =>
    obtain rfl := Nat.eq_of_beq_eq_true hchk
    simp only [zst]
    split
    · rename_i y x r
      obtain ⟨h1, hS⟩ := okS_cons.mp hS
      obtain ⟨h2, hS⟩ := okS_cons.mp hS
      refine zGd_nx (fun _ => ⟨hL, okS_cons.mpr ⟨?_, hS⟩, hH⟩) (fun hg k H locs ls hP hs hl => W.lcmp hx hb hdg ?_)
      · show r32 (zcmp x y)
        unfold zcmp r32
        split <;> (try split) <;> omega
      · rw [of_cmp h2 h1]
        exact k H locs ls hP hs hl
    · exact zGd_none
  case dup =>
    obtain rfl := Nat.eq_of_beq_eq_true hchk
    simp only [zst]
    split
    · rename_i v r
      obtain ⟨h1, hS⟩ := okS_cons.mp hS
      split
      · rename_i hb1
        exact zGd_nx (fun _ => ⟨hL, okS_cons.mpr ⟨h1, okS_cons.mpr ⟨h1, hS⟩⟩, hH⟩) (fun hg k H locs ls hP hs hl => lv_dup hx hb hdg (by rw [zvc_cat]; exact Nat.eq_of_beq_eq_true hb1) (k H locs ls hP hs hl))
      · exact zGd_none
    · exact zGd_none
  case dup2 =>
    obtain rfl := Nat.eq_of_beq_eq_true hchk
    simp only [zst]
    split
    · rename_i v u r
      obtain ⟨h1, hS⟩ := okS_cons.mp hS
      obtain ⟨h2, hS⟩ := okS_cons.mp hS
      split
      · rename_i hb1
        rw [Bool.and_eq_true] at hb1
        exact zGd_nx (fun _ => ⟨hL, okS_cons.mpr ⟨h1, okS_cons.mpr ⟨h2, okS_cons.mpr ⟨h1, okS_cons.mpr ⟨h2, hS⟩⟩⟩⟩, hH⟩) (fun hg k H locs ls hP hs hl => lv_dup2_11 hx hb hdg (by rw [zvc_cat]; exact Nat.eq_of_beq_eq_true hb1.1) (by rw [zvc_cat]; exact Nat.eq_of_beq_eq_true hb1.2) (k H locs ls hP hs hl))
      · exact zGd_none
    · exact zGd_none
  case pop =>
    obtain rfl := Nat.eq_of_beq_eq_true hchk
    simp only [zst]
    split
    · rename_i v r
      obtain ⟨h1, hS⟩ := okS_cons.mp hS
      split
      · rename_i hb1
        exact zGd_nx (fun _ => ⟨hL, hS, hH⟩) (fun hg k H locs ls hP hs hl => lv_pop hx hb hdg (by rw [zvc_cat]; exact Nat.eq_of_beq_eq_true hb1) (k H locs ls hP hs hl))
      · exact zGd_none
    · exact zGd_none
  case getstatic idx =>
    obtain rfl := Nat.eq_of_beq_eq_true hchk
    show zGd ad ct kw ss p l e R s m args below meth c Q D P A nL mr rk pc L st σ (match zlk idx lks with
      | some (2, a, b, _, _, _, _) => some (true, .inl (pc + 3, L, .inr (.inr (.inr (a, b, 0))) :: st, σ))
      | _ => none)
    split
    · rename_i a b _ _ _ _ hz
      obtain ⟨z1, z2, z3, z4, z5, z6⟩ := hSt
      have hz := hlk _ _ hz
      rcases hz with ⟨rfl, rfl, rfl, rfl⟩ | ⟨rfl, rfl, rfl, rfl⟩
      · exact gd_push hL hS hH (show okV P (.inr (.inr (.inr (200, 26, 0)))) from Or.inl ⟨rfl, rfl⟩) (fun H locs ls hP hs hl k => va_getsN hx hb z1 hs hown (va_tabs rfl rfl z3) (fun _ h => h) hdg k)
      · exact gd_push hL hS hH (show okV P (.inr (.inr (.inr (201, 20, 0)))) from Or.inr ⟨rfl, rfl⟩) (fun H locs ls hP hs hl k => va_getsN hx hb z4 hs hown (va_tabs rfl rfl z6) (fun _ h => h) hdg k)
    · exact zGd_none
  case getfield idx =>
    obtain rfl := Nat.eq_of_beq_eq_true hchk
    exact gd_field hlk (fun ci slot h => gd_get C hL hS hH hdg h)
  case putfield idx =>
    obtain rfl := Nat.eq_of_beq_eq_true hchk
    exact gd_field hlk (fun ci slot h => gd_put C hL hS hH hdg h)
  case iaload =>
    obtain rfl := Nat.eq_of_beq_eq_true hchk
    exact gd_iald C hL hS hH hdg
  case laload =>
    obtain rfl := Nat.eq_of_beq_eq_true hchk
    exact gd_lald C hL hS hH hdg
  case baload =>
    obtain rfl := Nat.eq_of_beq_eq_true hchk
    exact gd_bald C hL hS hH hdg
  case aaload =>
    obtain rfl := Nat.eq_of_beq_eq_true hchk
    exact gd_aald C hL hS hH hdg
  case iastore =>
    obtain rfl := Nat.eq_of_beq_eq_true hchk
    exact gd_iast C hL hS hH hdg
  case lastore =>
    obtain rfl := Nat.eq_of_beq_eq_true hchk
    exact gd_last C hL hS hH hdg
  case bastore =>
    obtain rfl := Nat.eq_of_beq_eq_true hchk
    exact gd_bast C hL hS hH hdg
  case aastore =>
    obtain rfl := Nat.eq_of_beq_eq_true hchk
    exact gd_aast C hL hS hH hdg
  case arraylength =>
    obtain rfl := Nat.eq_of_beq_eq_true hchk
    simp only [zst]
    split
    · split
      · rename_i hb1
        exact gd_alen C hL hS hH rfl hb1 hdg
      · exact zGd_none
    · exact zGd_none
  case goto o =>
    simp only [zchk, Bool.and_eq_true] at hchk
    obtain ⟨h1, h2⟩ := hchk
    obtain rfl := Nat.eq_of_beq_eq_true h1
    exact zGd_nx (fun _ => ⟨hL, hS, hH⟩) (fun _ k H locs ls hP hs hl => lv_goto hx hb hdg (tgt_of h2) (k H locs ls hP hs hl))
  case ifCond cd o =>
    simp only [zchk, Bool.and_eq_true] at hchk
    obtain ⟨h1, h2⟩ := hchk
    obtain rfl := Nat.eq_of_beq_eq_true h1
    exact gd_ifc C hL hS hH hdg h2
  case if_icmp cd o =>
    simp only [zchk, Bool.and_eq_true] at hchk
    obtain ⟨h1, h2⟩ := hchk
    obtain rfl := Nat.eq_of_beq_eq_true h1
    exact gd_icmp C hL hS hH hdg h2
  case tableswitch d lo hi offs => exact gd_tab C hL hS hH hdg hchk
  case lookupswitch d ps => exact gd_look C hL hS hH hdg hchk
  case ireturn =>
    obtain rfl := Nat.eq_of_beq_eq_true hchk
    exact gd_iret C hS hH hdg
  case lreturn =>
    obtain rfl := Nat.eq_of_beq_eq_true hchk
    exact gd_lret C hS hH hdg
  case return_ =>
    obtain rfl := Nat.eq_of_beq_eq_true hchk
    exact gd_vret C hS hH hdg
  case invokevirtual idx =>
    obtain rfl := Nat.eq_of_beq_eq_true hchk
    show zGd ad ct kw ss p l e R s m args below meth c Q D P A nL mr rk pc L st σ (match zlk idx lks with
      | some e => zinv rk e (pc + 3) true L st σ
      | none => none)
    split
    · rename_i e1 hz
      obtain ⟨tag, a, b, ck, d, r, xx⟩ := e1
      have hz := hlk _ _ hz
      by_cases h1 : tag = 1
      · subst h1
        simp only [zinv]
        split
        · rename_i as rest hpop
          split
          all_goals first | exact zGd_none | contradiction | skip
          · rename_i c0 l0 k0 t _
            split
            · rename_i hbe
              exact gd_virt C hR hL hS hH hdg hz.1 hz.2 hpop hbe
            · exact zGd_none
        · exact zGd_none
      by_cases h7 : tag = 7
      · subst h7
        simp only [zinv]
        split
        · rename_i c0 l0 k0 t rest hpop
          split
          · rename_i hbe
            exact gd_virt C hR hL hS hH hdg hz.1 hz.2 hpop hbe
          · exact zGd_none
        · exact zGd_none
      · simp only [zinv]
        split
        all_goals first | exact zGd_none | (exfalso; simp_all)
    · exact zGd_none
  case invokestatic idx =>
    obtain rfl := Nat.eq_of_beq_eq_true hchk
    show zGd ad ct kw ss p l e R s m args below meth c Q D P A nL mr rk pc L st σ (match zlk idx lks with
      | some e => zinv rk e (pc + 3) false L st σ
      | none => none)
    split
    · rename_i e1 hz
      obtain ⟨tag, a, b, ck, d, r, xx⟩ := e1
      have hz := hlk _ _ hz
      by_cases h5 : tag = 5
      · subst h5; exact gd_copy C hR2 hL hS hH hdg hz
      by_cases h6 : tag = 6
      · subst h6; exact gd_min C hR2 hL hS hH hdg hz
      by_cases h1 : tag = 1
      · subst h1
        simp only [zinv]
        split
        · rename_i as rest hpop
          split
          all_goals first | exact zGd_none | contradiction | skip
          all_goals
            rename_i hbe
            obtain rfl := Nat.eq_of_beq_eq_true hbe
            exact gd_stat C hR hL hS hH hdg hz.1 hz.2 hpop
        · exact zGd_none
      · simp only [zinv]
        split
        all_goals first | exact zGd_none | (exfalso; simp_all)
    · exact zGd_none
  all_goals exact zGd_none
end ZQ
