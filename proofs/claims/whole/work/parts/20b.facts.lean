/-! THE CODE: cuts, and what each method is held by (by program) -/
section ZCB
def zoff : Nat → Nat → List zI → Nat
  | 0, pc, _ => pc
  | _ + 1, pc, [] => pc
  | j + 1, pc, (_, len, _, _) :: tl => zoff j (pc + len) tl
theorem zrowb_drop {b : ByteArray} {nL : Nat} : ∀ (j pc : Nat) (k : List zI), zrowb b nL pc k = true → zrowb b nL (zoff j pc k) (List.drop j k) = true
  | 0, _, _, h => h
  | _ + 1, _, [], _ => rfl
  | j + 1, pc, (i, len, cut, bl) :: tl, h => by
    simp only [zrowb, Bool.and_eq_true] at h
    exact zrowb_drop j (pc + len) tl h.2.2
def zlv (mid pc : Nat) : Option (List Nat) := (zcode mid pc).map (fun q => q.2.2.1)
def ztg (pc : Nat) (i : Instr) : Option Nat := match i with
  | .goto o => some (ztgt pc o)
  | .ifCond _ o => some (ztgt pc o)
  | .if_icmp _ o => some (ztgt pc o)
  | _ => none
def zcutb (mid : Nat) : Nat → List zI → Bool
  | _, [] => true
  | pc, (i, len, cut, bl) :: tl => (match cut with
    | some lv => decide (zlv mid pc = some lv) && Nat.blt 0 pc
    | none => true) && ((match ztg pc i with
    | some t => !(Nat.ble t pc) || ((decide (zlv mid t = some bl) && Nat.blt 0 t) || (Nat.beq t 0 && (decide (bl = [0]) || decide (bl = [0, 1]))))
    | none => true) && zcutb mid (pc + len) tl)
theorem zcutb_drop {mid : Nat} : ∀ (j pc : Nat) (k : List zI), zcutb mid pc k = true → zcutb mid (zoff j pc k) (List.drop j k) = true
  | 0, _, _, h => h
  | _ + 1, _, [], _ => rfl
  | j + 1, pc, (i, len, cut, bl) :: tl, h => by
    unfold zcutb at h
    rw [Bool.and_eq_true, Bool.and_eq_true] at h
    exact zcutb_drop j (pc + len) tl h.2.2
/-- what a method's code from a cut on is held by -/
def zfact (mid pc : Nat) (q : zM) : Prop := q.2.1 = (zmt mid).2.2.2.1 ∧ zLKs (zmt mid).2.2.2.2 (zlks q.1) ∧ zrowb (zmt mid).2.1 (zmt mid).2.2.1 pc q.2.2.2 = true ∧ zcutb mid pc q.2.2.2 = true ∧ (pc = 0 → q.2.2.1 = [(zmt mid).2.2.1])
def zfacts (mid : Nat) (f : Nat → Option zM) : Prop := ∀ pc q, f pc = some q → zfact mid pc q
theorem zfacts_nil {mid : Nat} : zfacts mid (fun _ => none) := fun _ _ h => by cases h
theorem zfacts_0 {mid own mr n : Nat} {k : List zI} {f : Nat → Option zM} (h1 : mr = (zmt mid).2.2.2.1) (h2 : zLKs (zmt mid).2.2.2.2 (zlks own)) (h3 : zrowb (zmt mid).2.1 (zmt mid).2.2.1 0 k = true) (h4 : zcutb mid 0 k = true) (h5 : n = (zmt mid).2.2.1) (h : zfacts mid f) : zfacts mid (fun pc => cond (Nat.beq pc 0) (some (own, mr, [n], k)) (f pc)) := by
  intro pc q hq
  cases hb : Nat.beq pc 0 with
  | true =>
    simp only [hb, cond_true] at hq
    cases hq
    rw [Nat.eq_of_beq_eq_true hb]
    exact ⟨h1, h2, h3, h4, fun _ => by rw [h5]⟩
  | false =>
    simp only [hb, cond_false] at hq
    exact h pc q hq
theorem zfacts_c {mid own mr : Nat} {k : List zI} {f : Nat → Option zM} {pc0 j : Nat} {lv : List Nat} (h1 : mr = (zmt mid).2.2.2.1) (h2 : zLKs (zmt mid).2.2.2.2 (zlks own)) (h3 : zrowb (zmt mid).2.1 (zmt mid).2.2.1 0 k = true) (h4 : zcutb mid 0 k = true) (ho : zoff j 0 k = pc0) (h0 : Nat.blt 0 pc0 = true) (h : zfacts mid f) : zfacts mid (fun pc => cond (Nat.beq pc pc0) (some (own, mr, lv, List.drop j k)) (f pc)) := by
  intro pc q hq
  cases hb : Nat.beq pc pc0 with
  | true =>
    simp only [hb, cond_true] at hq
    cases hq
    have hpp := Nat.eq_of_beq_eq_true hb
    have h9 : 0 < pc0 := by rw [Nat.blt_eq] at h0; exact h0
    rw [hpp, ← ho]
    exact ⟨h1, h2, zrowb_drop j 0 k h3, zcutb_drop j 0 k h4, fun hz => absurd hz (by omega)⟩
  | false =>
    simp only [hb, cond_false] at hq
    exact h pc q hq
theorem zt_br {b : Bool} {x y : Option zM} {q : zM} {G : Prop} (h : cond b x y = some q) (hx : x = some q → G) (hy : y = some q → G) : G := by
  cases b with
  | true => exact hx h
  | false => exact hy h
theorem zt_lf {mid k pc : Nat} {f : Nat → Option zM} {q : zM} (hf : zfacts k f) (h : cond (Nat.beq mid k) (f pc) none = some q) : zfact mid pc q := by
  cases hb : Nat.beq mid k with
  | true =>
    rw [hb] at h
    rw [Nat.eq_of_beq_eq_true hb]
    exact hf pc q h
  | false => rw [hb] at h; cases h
theorem zu_0 : zcutb 0 0 k_Acts_clear = true := by decide +kernel
theorem zs_0 : zfacts 0 zc_Acts_clear := zfacts_0 rfl zlks_0 zr_0 zu_0 rfl (zfacts_nil)
theorem zu_1 : zcutb 1 0 k_Acts_keep = true := by decide +kernel
theorem zs_1 : zfacts 1 zc_Acts_keep := zfacts_0 rfl zlks_0 zr_1 zu_1 rfl (zfacts_nil)
theorem zu_2 : zcutb 2 0 k_Acts_forgetOldest = true := by decide +kernel
theorem zs_2 : zfacts 2 zc_Acts_forgetOldest := zfacts_0 rfl zlks_0 zr_2 zu_2 rfl (zfacts_c rfl zlks_0 zr_2 zu_2 (by decide +kernel) rfl (zfacts_nil))
theorem zu_3 : zcutb 3 0 k_Acts_giveBack = true := by decide +kernel
theorem zs_3 : zfacts 3 zc_Acts_giveBack := zfacts_0 rfl zlks_0 zr_3 zu_3 rfl (zfacts_nil)
theorem zu_4 : zcutb 4 0 k_Country_clear = true := by decide +kernel
theorem zs_4 : zfacts 4 zc_Country_clear := zfacts_0 rfl zlks_1 zr_4 zu_4 rfl (zfacts_nil)
theorem zu_5 : zcutb 5 0 k_Country_copyFrom = true := by decide +kernel
theorem zs_5 : zfacts 5 zc_Country_copyFrom := zfacts_0 rfl zlks_1 zr_5 zu_5 rfl (zfacts_nil)
theorem zu_6 : zcutb 6 0 k_Country_hasTerm = true := by decide +kernel
theorem zs_6 : zfacts 6 zc_Country_hasTerm := zfacts_0 rfl zlks_1 zr_6 zu_6 rfl (zfacts_nil)
theorem zu_7 : zcutb 7 0 k_Country_hasReach = true := by decide +kernel
theorem zs_7 : zfacts 7 zc_Country_hasReach := zfacts_0 rfl zlks_1 zr_7 zu_7 rfl (zfacts_nil)
theorem zu_8 : zcutb 8 0 k_Country_hasPlace = true := by decide +kernel
theorem zs_8 : zfacts 8 zc_Country_hasPlace := zfacts_0 rfl zlks_1 zr_8 zu_8 rfl (zfacts_nil)
theorem zu_9 : zcutb 9 0 k_Country_hasEditor = true := by decide +kernel
theorem zs_9 : zfacts 9 zc_Country_hasEditor := zfacts_0 rfl zlks_1 zr_9 zu_9 rfl (zfacts_nil)
theorem zu_10 : zcutb 10 0 k_Country_hasTown = true := by decide +kernel
theorem zs_10 : zfacts 10 zc_Country_hasTown := zfacts_0 rfl zlks_1 zr_10 zu_10 rfl (zfacts_nil)
theorem zu_11 : zcutb 11 0 k_Country_addTerm = true := by decide +kernel
theorem zs_11 : zfacts 11 zc_Country_addTerm := zfacts_0 rfl zlks_1 zr_11 zu_11 rfl (zfacts_nil)
theorem zu_12 : zcutb 12 0 k_Country_addReach = true := by decide +kernel
theorem zs_12 : zfacts 12 zc_Country_addReach := zfacts_0 rfl zlks_1 zr_12 zu_12 rfl (zfacts_nil)
theorem zu_13 : zcutb 13 0 k_Country_addSaid = true := by decide +kernel
theorem zs_13 : zfacts 13 zc_Country_addSaid := zfacts_0 rfl zlks_1 zr_13 zu_13 rfl (zfacts_nil)
theorem zu_14 : zcutb 14 0 k_Country_addEditor = true := by decide +kernel
theorem zs_14 : zfacts 14 zc_Country_addEditor := zfacts_0 rfl zlks_1 zr_14 zu_14 rfl (zfacts_c rfl zlks_1 zr_14 zu_14 (by decide +kernel) rfl (zfacts_nil))
theorem zu_15 : zcutb 15 0 k_Country_addChange = true := by decide +kernel
theorem zs_15 : zfacts 15 zc_Country_addChange := zfacts_0 rfl zlks_1 zr_15 zu_15 rfl (zfacts_nil)
theorem zu_16 : zcutb 16 0 k_Country_addTown = true := by decide +kernel
theorem zs_16 : zfacts 16 zc_Country_addTown := zfacts_0 rfl zlks_1 zr_16 zu_16 rfl (zfacts_nil)
theorem zu_17 : zcutb 17 0 k_Country_addTaste = true := by decide +kernel
theorem zs_17 : zfacts 17 zc_Country_addTaste := zfacts_0 rfl zlks_1 zr_17 zu_17 rfl (zfacts_nil)
theorem zu_18 : zcutb 18 0 k_Country_madeBy = true := by decide +kernel
theorem zs_18 : zfacts 18 zc_Country_madeBy := zfacts_0 rfl zlks_1 zr_18 zu_18 rfl (zfacts_nil)
theorem zu_19 : zcutb 19 0 k_Country_likes = true := by decide +kernel
theorem zs_19 : zfacts 19 zc_Country_likes := zfacts_0 rfl zlks_1 zr_19 zu_19 rfl (zfacts_nil)
theorem zu_20 : zcutb 20 0 k_Country_saidOn = true := by decide +kernel
theorem zs_20 : zfacts 20 zc_Country_saidOn := zfacts_0 rfl zlks_1 zr_20 zu_20 rfl (zfacts_nil)
theorem zu_21 : zcutb 21 0 k_Country_editorOn = true := by decide +kernel
theorem zs_21 : zfacts 21 zc_Country_editorOn := zfacts_0 rfl zlks_1 zr_21 zu_21 rfl (zfacts_c rfl zlks_1 zr_21 zu_21 (by decide +kernel) rfl (zfacts_nil))
theorem zu_22 : zcutb 22 0 k_Country_ownTown = true := by decide +kernel
theorem zs_22 : zfacts 22 zc_Country_ownTown := zfacts_0 rfl zlks_1 zr_22 zu_22 rfl (zfacts_c rfl zlks_1 zr_22 zu_22 (by decide +kernel) rfl (zfacts_c rfl zlks_1 zr_22 zu_22 (by decide +kernel) rfl (zfacts_nil)))
theorem zu_23 : zcutb 23 0 k_Country_daysBetween = true := by decide +kernel
theorem zs_23 : zfacts 23 zc_Country_daysBetween := zfacts_0 rfl zlks_1 zr_23 zu_23 rfl (zfacts_c rfl zlks_1 zr_23 zu_23 (by decide +kernel) rfl (zfacts_nil))
theorem zu_24 : zcutb 24 0 k_Country_reachesAbove = true := by decide +kernel
theorem zs_24 : zfacts 24 zc_Country_reachesAbove := zfacts_0 rfl zlks_1 zr_24 zu_24 rfl (zfacts_c rfl zlks_1 zr_24 zu_24 (by decide +kernel) rfl (zfacts_nil))
theorem zu_25 : zcutb 25 0 k_Country_oneSource = true := by decide +kernel
theorem zs_25 : zfacts 25 zc_Country_oneSource := zfacts_0 rfl zlks_1 zr_25 zu_25 rfl (zfacts_c rfl zlks_1 zr_25 zu_25 (by decide +kernel) rfl (zfacts_nil))
theorem zu_26 : zcutb 26 0 k_Country_arrival = true := by decide +kernel
theorem zs_26 : zfacts 26 zc_Country_arrival := zfacts_0 rfl zlks_1 zr_26 zu_26 rfl (zfacts_c rfl zlks_1 zr_26 zu_26 (by decide +kernel) rfl (zfacts_nil))
theorem zu_27 : zcutb 27 0 k_Country_afterEditors = true := by decide +kernel
theorem zs_27 : zfacts 27 zc_Country_afterEditors := zfacts_0 rfl zlks_1 zr_27 zu_27 rfl (zfacts_c rfl zlks_1 zr_27 zu_27 (by decide +kernel) rfl (zfacts_nil))
theorem zu_28 : zcutb 28 0 k_CountryReader_readInto = true := by decide +kernel
theorem zs_28 : zfacts 28 zc_CountryReader_readInto := zfacts_0 rfl zlks_2 zr_28 zu_28 rfl (zfacts_c rfl zlks_2 zr_28 zu_28 (by decide +kernel) rfl (zfacts_nil))
theorem zu_29 : zcutb 29 0 k_CountryReader_readLine = true := by decide +kernel
theorem zs_29 : zfacts 29 zc_CountryReader_readLine := zfacts_0 rfl zlks_2 zr_29 zu_29 rfl (zfacts_nil)
theorem zu_30 : zcutb 30 0 k_CountryReader_begins = true := by decide +kernel
theorem zs_30 : zfacts 30 zc_CountryReader_begins := zfacts_0 rfl zlks_2 zr_30 zu_30 rfl (zfacts_nil)
theorem zu_31 : zcutb 31 0 k_CountryReader_readNewName = true := by decide +kernel
theorem zs_31 : zfacts 31 zc_CountryReader_readNewName := zfacts_0 rfl zlks_2 zr_31 zu_31 rfl (zfacts_nil)
theorem zu_32 : zcutb 32 0 k_CountryReader_readNewNameOnReach = true := by decide +kernel
theorem zs_32 : zfacts 32 zc_CountryReader_readNewNameOnReach := zfacts_0 rfl zlks_2 zr_32 zu_32 rfl (zfacts_nil)
theorem zu_33 : zcutb 33 0 k_CountryReader_readTerm = true := by decide +kernel
theorem zs_33 : zfacts 33 zc_CountryReader_readTerm := zfacts_0 rfl zlks_2 zr_33 zu_33 rfl (zfacts_nil)
theorem zu_34 : zcutb 34 0 k_CountryReader_readReach = true := by decide +kernel
theorem zs_34 : zfacts 34 zc_CountryReader_readReach := zfacts_0 rfl zlks_2 zr_34 zu_34 rfl (zfacts_nil)
theorem zu_35 : zcutb 35 0 k_CountryReader_readSays = true := by decide +kernel
theorem zs_35 : zfacts 35 zc_CountryReader_readSays := zfacts_0 rfl zlks_2 zr_35 zu_35 rfl (zfacts_c rfl zlks_2 zr_35 zu_35 (by decide +kernel) rfl (zfacts_c rfl zlks_2 zr_35 zu_35 (by decide +kernel) rfl (zfacts_nil)))
theorem zu_36 : zcutb 36 0 k_CountryReader_readEditor = true := by decide +kernel
theorem zs_36 : zfacts 36 zc_CountryReader_readEditor := zfacts_0 rfl zlks_2 zr_36 zu_36 rfl (zfacts_nil)
theorem zu_37 : zcutb 37 0 k_CountryReader_readWhoAndTerm = true := by decide +kernel
theorem zs_37 : zfacts 37 zc_CountryReader_readWhoAndTerm := zfacts_0 rfl zlks_2 zr_37 zu_37 rfl (zfacts_nil)
theorem zu_38 : zcutb 38 0 k_CountryReader_readChange = true := by decide +kernel
theorem zs_38 : zfacts 38 zc_CountryReader_readChange := zfacts_0 rfl zlks_2 zr_38 zu_38 rfl (zfacts_nil)
theorem zu_39 : zcutb 39 0 k_CountryReader_readTown = true := by decide +kernel
theorem zs_39 : zfacts 39 zc_CountryReader_readTown := zfacts_0 rfl zlks_2 zr_39 zu_39 rfl (zfacts_nil)
theorem zu_40 : zcutb 40 0 k_CountryReader_readTaste = true := by decide +kernel
theorem zs_40 : zfacts 40 zc_CountryReader_readTaste := zfacts_0 rfl zlks_2 zr_40 zu_40 rfl (zfacts_nil)
theorem zu_41 : zcutb 41 0 k_Daybook_readFrom = true := by decide +kernel
theorem zs_41 : zfacts 41 zc_Daybook_readFrom := zfacts_0 rfl zlks_3 zr_41 zu_41 rfl (zfacts_c rfl zlks_3 zr_41 zu_41 (by decide +kernel) rfl (zfacts_nil))
theorem zu_42 : zcutb 42 0 k_Daybook_readLine = true := by decide +kernel
theorem zs_42 : zfacts 42 zc_Daybook_readLine := zfacts_0 rfl zlks_3 zr_42 zu_42 rfl (zfacts_c rfl zlks_3 zr_42 zu_42 (by decide +kernel) rfl (zfacts_c rfl zlks_3 zr_42 zu_42 (by decide +kernel) rfl (zfacts_nil)))
theorem zu_43 : zcutb 43 0 k_Daybook_readDays = true := by decide +kernel
theorem zs_43 : zfacts 43 zc_Daybook_readDays := zfacts_0 rfl zlks_3 zr_43 zu_43 rfl (zfacts_nil)
theorem zu_44 : zcutb 44 0 k_Daybook_readReads = true := by decide +kernel
theorem zs_44 : zfacts 44 zc_Daybook_readReads := zfacts_0 rfl zlks_3 zr_44 zu_44 rfl (zfacts_nil)
theorem zu_45 : zcutb 45 0 k_Daybook_readAwake = true := by decide +kernel
theorem zs_45 : zfacts 45 zc_Daybook_readAwake := zfacts_0 rfl zlks_3 zr_45 zu_45 rfl (zfacts_nil)
theorem zu_46 : zcutb 46 0 k_Daybook_add = true := by decide +kernel
theorem zs_46 : zfacts 46 zc_Daybook_add := zfacts_0 rfl zlks_3 zr_46 zu_46 rfl (zfacts_nil)
theorem zu_47 : zcutb 47 0 k_Daybook_judge = true := by decide +kernel
theorem zs_47 : zfacts 47 zc_Daybook_judge := zfacts_0 rfl zlks_3 zr_47 zu_47 rfl (zfacts_c rfl zlks_3 zr_47 zu_47 (by decide +kernel) rfl (zfacts_c rfl zlks_3 zr_47 zu_47 (by decide +kernel) rfl (zfacts_nil)))
theorem zu_48 : zcutb 48 0 k_Daybook_live = true := by decide +kernel
theorem zs_48 : zfacts 48 zc_Daybook_live := zfacts_0 rfl zlks_3 zr_48 zu_48 rfl (zfacts_nil)
theorem zu_49 : zcutb 49 0 k_Daybook_tell = true := by decide +kernel
theorem zs_49 : zfacts 49 zc_Daybook_tell := zfacts_0 rfl zlks_3 zr_49 zu_49 rfl (zfacts_nil)
theorem zu_50 : zcutb 50 0 k_Dice_begin = true := by decide +kernel
theorem zs_50 : zfacts 50 zc_Dice_begin := zfacts_0 rfl zlks_4 zr_50 zu_50 rfl (zfacts_nil)
theorem zu_51 : zcutb 51 0 k_Dice_draw = true := by decide +kernel
theorem zs_51 : zfacts 51 zc_Dice_draw := zfacts_0 rfl zlks_4 zr_51 zu_51 rfl (zfacts_nil)
theorem zu_52 : zcutb 52 0 k_Names_find = true := by decide +kernel
theorem zs_52 : zfacts 52 zc_Names_find := zfacts_0 rfl zlks_6 zr_52 zu_52 rfl (zfacts_c rfl zlks_6 zr_52 zu_52 (by decide +kernel) rfl (zfacts_nil))
theorem zu_53 : zcutb 53 0 k_Names_add = true := by decide +kernel
theorem zs_53 : zfacts 53 zc_Names_add := zfacts_0 rfl zlks_6 zr_53 zu_53 rfl (zfacts_nil)
theorem zu_54 : zcutb 54 0 k_Names_copyFrom = true := by decide +kernel
theorem zs_54 : zfacts 54 zc_Names_copyFrom := zfacts_0 rfl zlks_6 zr_54 zu_54 rfl (zfacts_nil)
theorem zu_55 : zcutb 55 0 k_Sentence_clear = true := by decide +kernel
theorem zs_55 : zfacts 55 zc_Sentence_clear := zfacts_0 rfl zlks_7 zr_55 zu_55 rfl (zfacts_nil)
theorem zu_56 : zcutb 56 0 k_Sentence_copyFrom = true := by decide +kernel
theorem zs_56 : zfacts 56 zc_Sentence_copyFrom := zfacts_0 rfl zlks_7 zr_56 zu_56 rfl (zfacts_nil)
theorem zu_57 : zcutb 57 0 k_Sentence_readFrom = true := by decide +kernel
theorem zs_57 : zfacts 57 zc_Sentence_readFrom := zfacts_0 rfl zlks_7 zr_57 zu_57 rfl (zfacts_nil)
theorem zu_58 : zcutb 58 0 k_Sentence_readCond = true := by decide +kernel
theorem zs_58 : zfacts 58 zc_Sentence_readCond := zfacts_0 rfl zlks_7 zr_58 zu_58 rfl (zfacts_c rfl zlks_7 zr_58 zu_58 (by decide +kernel) rfl (zfacts_nil))
theorem zu_59 : zcutb 59 0 k_Sentence_readAll = true := by decide +kernel
theorem zs_59 : zfacts 59 zc_Sentence_readAll := zfacts_0 rfl zlks_7 zr_59 zu_59 rfl (zfacts_c rfl zlks_7 zr_59 zu_59 (by decide +kernel) rfl (zfacts_nil))
theorem zu_60 : zcutb 60 0 k_Sentence_readOne = true := by decide +kernel
theorem zs_60 : zfacts 60 zc_Sentence_readOne := zfacts_0 rfl zlks_7 zr_60 zu_60 rfl (zfacts_c rfl zlks_7 zr_60 zu_60 (by decide +kernel) rfl (zfacts_nil))
theorem zu_61 : zcutb 61 0 k_Sentence_beginsOne = true := by decide +kernel
theorem zs_61 : zfacts 61 zc_Sentence_beginsOne := zfacts_0 rfl zlks_7 zr_61 zu_61 rfl (zfacts_nil)
theorem zu_62 : zcutb 62 0 k_Sentence_addNamed = true := by decide +kernel
theorem zs_62 : zfacts 62 zc_Sentence_addNamed := zfacts_0 rfl zlks_7 zr_62 zu_62 rfl (zfacts_nil)
theorem zu_63 : zcutb 63 0 k_Sentence_readMeasure = true := by decide +kernel
theorem zs_63 : zfacts 63 zc_Sentence_readMeasure := zfacts_0 rfl zlks_7 zr_63 zu_63 rfl (zfacts_c rfl zlks_7 zr_63 zu_63 (by decide +kernel) rfl (zfacts_nil))
theorem zu_64 : zcutb 64 0 k_Sentence_add = true := by decide +kernel
theorem zs_64 : zfacts 64 zc_Sentence_add := zfacts_0 rfl zlks_7 zr_64 zu_64 rfl (zfacts_nil)
theorem zu_65 : zcutb 65 0 k_Sentence_holdsOf = true := by decide +kernel
theorem zs_65 : zfacts 65 zc_Sentence_holdsOf := zfacts_0 rfl zlks_7 zr_65 zu_65 rfl (zfacts_c rfl zlks_7 zr_65 zu_65 (by decide +kernel) rfl (zfacts_nil))
theorem zu_66 : zcutb 66 0 k_Sentence_isSo = true := by decide +kernel
theorem zs_66 : zfacts 66 zc_Sentence_isSo := zfacts_0 rfl zlks_7 zr_66 zu_66 rfl (zfacts_nil)
theorem zu_67 : zcutb 67 0 k_Sentence_compares = true := by decide +kernel
theorem zs_67 : zfacts 67 zc_Sentence_compares := zfacts_0 rfl zlks_7 zr_67 zu_67 rfl (zfacts_nil)
theorem zu_68 : zcutb 68 0 k_Stream_begin = true := by decide +kernel
theorem zs_68 : zfacts 68 zc_Stream_begin := zfacts_0 rfl zlks_8 zr_68 zu_68 rfl (zfacts_nil)
theorem zu_69 : zcutb 69 0 k_Stream_copyFrom = true := by decide +kernel
theorem zs_69 : zfacts 69 zc_Stream_copyFrom := zfacts_0 rfl zlks_8 zr_69 zu_69 rfl (zfacts_nil)
theorem zu_70 : zcutb 70 0 k_Stream_daysLeft = true := by decide +kernel
theorem zs_70 : zfacts 70 zc_Stream_daysLeft := zfacts_0 rfl zlks_8 zr_70 zu_70 rfl (zfacts_nil)
theorem zu_71 : zcutb 71 0 k_Stream_isAwake = true := by decide +kernel
theorem zs_71 : zfacts 71 zc_Stream_isAwake := zfacts_0 rfl zlks_8 zr_71 zu_71 rfl (zfacts_nil)
theorem zu_72 : zcutb 72 0 k_Stream_toggle = true := by decide +kernel
theorem zs_72 : zfacts 72 zc_Stream_toggle := zfacts_0 rfl zlks_8 zr_72 zu_72 rfl (zfacts_nil)
theorem zu_73 : zcutb 73 0 k_Stream_onTheirWay = true := by decide +kernel
theorem zs_73 : zfacts 73 zc_Stream_onTheirWay := zfacts_0 rfl zlks_8 zr_73 zu_73 rfl (zfacts_c rfl zlks_8 zr_73 zu_73 (by decide +kernel) rfl (zfacts_nil))
theorem zu_74 : zcutb 74 0 k_Stream_cellOf = true := by decide +kernel
theorem zs_74 : zfacts 74 zc_Stream_cellOf := zfacts_0 rfl zlks_8 zr_74 zu_74 rfl (zfacts_nil)
theorem zu_75 : zcutb 75 0 k_Stream_termAt = true := by decide +kernel
theorem zs_75 : zfacts 75 zc_Stream_termAt := zfacts_0 rfl zlks_8 zr_75 zu_75 rfl (zfacts_nil)
theorem zu_76 : zcutb 76 0 k_Stream_put = true := by decide +kernel
theorem zs_76 : zfacts 76 zc_Stream_put := zfacts_0 rfl zlks_8 zr_76 zu_76 rfl (zfacts_nil)
theorem zu_77 : zcutb 77 0 k_Stream_readOn = true := by decide +kernel
theorem zs_77 : zfacts 77 zc_Stream_readOn := zfacts_0 rfl zlks_8 zr_77 zu_77 rfl (zfacts_nil)
theorem zu_78 : zcutb 78 0 k_Stream_pass = true := by decide +kernel
theorem zs_78 : zfacts 78 zc_Stream_pass := zfacts_0 rfl zlks_8 zr_78 zu_78 rfl (zfacts_c rfl zlks_8 zr_78 zu_78 (by decide +kernel) rfl (zfacts_nil))
theorem zu_79 : zcutb 79 0 k_Stream_passDrawnDay = true := by decide +kernel
theorem zs_79 : zfacts 79 zc_Stream_passDrawnDay := zfacts_0 rfl zlks_8 zr_79 zu_79 rfl (zfacts_nil)
theorem zu_80 : zcutb 80 0 k_Stream_passDay = true := by decide +kernel
theorem zs_80 : zfacts 80 zc_Stream_passDay := zfacts_0 rfl zlks_8 zr_80 zu_80 rfl (zfacts_c rfl zlks_8 zr_80 zu_80 (by decide +kernel) rfl (zfacts_c rfl zlks_8 zr_80 zu_80 (by decide +kernel) rfl (zfacts_c rfl zlks_8 zr_80 zu_80 (by decide +kernel) rfl (zfacts_nil))))
theorem zu_81 : zcutb 81 0 k_Stream_carry = true := by decide +kernel
theorem zs_81 : zfacts 81 zc_Stream_carry := zfacts_0 rfl zlks_8 zr_81 zu_81 rfl (zfacts_nil)
theorem zu_82 : zcutb 82 0 k_Stream_edit = true := by decide +kernel
theorem zs_82 : zfacts 82 zc_Stream_edit := zfacts_0 rfl zlks_8 zr_82 zu_82 rfl (zfacts_nil)
theorem zu_83 : zcutb 83 0 k_Stream_readInTowns = true := by decide +kernel
theorem zs_83 : zfacts 83 zc_Stream_readInTowns := zfacts_0 rfl zlks_8 zr_83 zu_83 rfl (zfacts_c rfl zlks_8 zr_83 zu_83 (by decide +kernel) rfl (zfacts_nil))
theorem zu_84 : zcutb 84 0 k_Stream_noteTerm = true := by decide +kernel
theorem zs_84 : zfacts 84 zc_Stream_noteTerm := zfacts_0 rfl zlks_8 zr_84 zu_84 rfl (zfacts_c rfl zlks_8 zr_84 zu_84 (by decide +kernel) rfl (zfacts_nil))
theorem zu_85 : zcutb 85 0 k_Stream_goOnSaying = true := by decide +kernel
theorem zs_85 : zfacts 85 zc_Stream_goOnSaying := zfacts_0 rfl zlks_8 zr_85 zu_85 rfl (zfacts_nil)
theorem zu_86 : zcutb 86 0 k_Tape_take = true := by decide +kernel
theorem zs_86 : zfacts 86 zc_Tape_take := zfacts_0 rfl zlks_9 zr_86 zu_86 rfl (zfacts_c rfl zlks_9 zr_86 zu_86 (by decide +kernel) rfl (zfacts_nil))
theorem zu_87 : zcutb 87 0 k_Tape_termOf = true := by decide +kernel
theorem zs_87 : zfacts 87 zc_Tape_termOf := zfacts_0 rfl zlks_9 zr_87 zu_87 rfl (zfacts_nil)
theorem zu_88 : zcutb 88 0 k_Tape_open = true := by decide +kernel
theorem zs_88 : zfacts 88 zc_Tape_open := zfacts_0 rfl zlks_9 zr_88 zu_88 rfl (zfacts_nil)
theorem zu_89 : zcutb 89 0 k_Tape_advance = true := by decide +kernel
theorem zs_89 : zfacts 89 zc_Tape_advance := zfacts_0 rfl zlks_9 zr_89 zu_89 rfl (zfacts_c rfl zlks_9 zr_89 zu_89 (by decide +kernel) rfl (zfacts_c rfl zlks_9 zr_89 zu_89 (by decide +kernel) rfl (zfacts_c rfl zlks_9 zr_89 zu_89 (by decide +kernel) rfl (zfacts_nil))))
theorem zu_90 : zcutb 90 0 k_Tape_scanToken = true := by decide +kernel
theorem zs_90 : zfacts 90 zc_Tape_scanToken := zfacts_0 rfl zlks_9 zr_90 zu_90 rfl (zfacts_c rfl zlks_9 zr_90 zu_90 (by decide +kernel) rfl (zfacts_c rfl zlks_9 zr_90 zu_90 (by decide +kernel) rfl (zfacts_c rfl zlks_9 zr_90 zu_90 (by decide +kernel) rfl (zfacts_c rfl zlks_9 zr_90 zu_90 (by decide +kernel) rfl (zfacts_c rfl zlks_9 zr_90 zu_90 (by decide +kernel) rfl (zfacts_c rfl zlks_9 zr_90 zu_90 (by decide +kernel) rfl (zfacts_nil)))))))
theorem zu_91 : zcutb 91 0 k_Tape_findKey = true := by decide +kernel
theorem zs_91 : zfacts 91 zc_Tape_findKey := zfacts_0 rfl zlks_9 zr_91 zu_91 rfl (zfacts_c rfl zlks_9 zr_91 zu_91 (by decide +kernel) rfl (zfacts_nil))
theorem zu_92 : zcutb 92 0 k_Tape_fail = true := by decide +kernel
theorem zs_92 : zfacts 92 zc_Tape_fail := zfacts_0 rfl zlks_9 zr_92 zu_92 rfl (zfacts_nil)
theorem zu_93 : zcutb 93 0 k_Tape_passes = true := by decide +kernel
theorem zs_93 : zfacts 93 zc_Tape_passes := zfacts_0 rfl zlks_9 zr_93 zu_93 rfl (zfacts_nil)
theorem zu_94 : zcutb 94 0 k_Tape_isName = true := by decide +kernel
theorem zs_94 : zfacts 94 zc_Tape_isName := zfacts_0 rfl zlks_9 zr_94 zu_94 rfl (zfacts_nil)
theorem zu_95 : zcutb 95 0 k_Tape_isNewName = true := by decide +kernel
theorem zs_95 : zfacts 95 zc_Tape_isNewName := zfacts_0 rfl zlks_9 zr_95 zu_95 rfl (zfacts_nil)
theorem zu_96 : zcutb 96 0 k_Tape_toldName = true := by decide +kernel
theorem zs_96 : zfacts 96 zc_Tape_toldName := zfacts_0 rfl zlks_9 zr_96 zu_96 rfl (zfacts_nil)
theorem zu_97 : zcutb 97 0 k_Tape_isNumber = true := by decide +kernel
theorem zs_97 : zfacts 97 zc_Tape_isNumber := zfacts_0 rfl zlks_9 zr_97 zu_97 rfl (zfacts_nil)
theorem zu_98 : zcutb 98 0 k_R_feed = true := by decide +kernel
theorem zs_98 : zfacts 98 zc_R_feed := zfacts_0 rfl zlks_10 zr_98 zu_98 rfl (zfacts_nil)
theorem zu_99 : zcutb 99 0 k_R_end = true := by decide +kernel
theorem zs_99 : zfacts 99 zc_R_end := zfacts_0 rfl zlks_10 zr_99 zu_99 rfl (zfacts_nil)
theorem zu_100 : zcutb 100 0 k_R_country = true := by decide +kernel
theorem zs_100 : zfacts 100 zc_R_country := zfacts_0 rfl zlks_10 zr_100 zu_100 rfl (zfacts_nil)
theorem zu_101 : zcutb 101 0 k_R_fault = true := by decide +kernel
theorem zs_101 : zfacts 101 zc_R_fault := zfacts_0 rfl zlks_10 zr_101 zu_101 rfl (zfacts_nil)
theorem zu_102 : zcutb 102 0 k_R_term = true := by decide +kernel
theorem zs_102 : zfacts 102 zc_R_term := zfacts_0 rfl zlks_10 zr_102 zu_102 rfl (zfacts_nil)
theorem zu_103 : zcutb 103 0 k_R_reach = true := by decide +kernel
theorem zs_103 : zfacts 103 zc_R_reach := zfacts_0 rfl zlks_10 zr_103 zu_103 rfl (zfacts_nil)
theorem zu_104 : zcutb 104 0 k_R_editor = true := by decide +kernel
theorem zs_104 : zfacts 104 zc_R_editor := zfacts_0 rfl zlks_10 zr_104 zu_104 rfl (zfacts_nil)
theorem zu_105 : zcutb 105 0 k_R_makes = true := by decide +kernel
theorem zs_105 : zfacts 105 zc_R_makes := zfacts_0 rfl zlks_10 zr_105 zu_105 rfl (zfacts_nil)
theorem zu_106 : zcutb 106 0 k_R_now = true := by decide +kernel
theorem zs_106 : zfacts 106 zc_R_now := zfacts_0 rfl zlks_10 zr_106 zu_106 rfl (zfacts_nil)
theorem zu_107 : zcutb 107 0 k_R_days = true := by decide +kernel
theorem zs_107 : zfacts 107 zc_R_days := zfacts_0 rfl zlks_10 zr_107 zu_107 rfl (zfacts_nil)
theorem zu_108 : zcutb 108 0 k_R_wake = true := by decide +kernel
theorem zs_108 : zfacts 108 zc_R_wake := zfacts_0 rfl zlks_10 zr_108 zu_108 rfl (zfacts_nil)
theorem zu_109 : zcutb 109 0 k_R_stone = true := by decide +kernel
theorem zs_109 : zfacts 109 zc_R_stone := zfacts_0 rfl zlks_10 zr_109 zu_109 rfl (zfacts_c rfl zlks_10 zr_109 zu_109 (by decide +kernel) rfl (zfacts_nil))
theorem zu_110 : zcutb 110 0 k_R_undo = true := by decide +kernel
theorem zs_110 : zfacts 110 zc_R_undo := zfacts_0 rfl zlks_10 zr_110 zu_110 rfl (zfacts_nil)
theorem zu_111 : zcutb 111 0 k_R_well = true := by decide +kernel
theorem zs_111 : zfacts 111 zc_R_well := zfacts_0 rfl zlks_10 zr_111 zu_111 rfl (zfacts_nil)
theorem zu_112 : zcutb 112 0 k_R_sense = true := by decide +kernel
theorem zs_112 : zfacts 112 zc_R_sense := zfacts_0 rfl zlks_10 zr_112 zu_112 rfl (zfacts_nil)
theorem zu_113 : zcutb 113 0 k_R_sayings = true := by decide +kernel
theorem zs_113 : zfacts 113 zc_R_sayings := zfacts_0 rfl zlks_10 zr_113 zu_113 rfl (zfacts_nil)
theorem zu_114 : zcutb 114 0 k_R_flows = true := by decide +kernel
theorem zs_114 : zfacts 114 zc_R_flows := zfacts_0 rfl zlks_10 zr_114 zu_114 rfl (zfacts_nil)
theorem zu_115 : zcutb 115 0 k_R_above = true := by decide +kernel
theorem zs_115 : zfacts 115 zc_R_above := zfacts_0 rfl zlks_10 zr_115 zu_115 rfl (zfacts_nil)
theorem zu_116 : zcutb 116 0 k_R_source = true := by decide +kernel
theorem zs_116 : zfacts 116 zc_R_source := zfacts_0 rfl zlks_10 zr_116 zu_116 rfl (zfacts_nil)
theorem zu_117 : zcutb 117 0 k_R_comes = true := by decide +kernel
theorem zs_117 : zfacts 117 zc_R_comes := zfacts_0 rfl zlks_10 zr_117 zu_117 rfl (zfacts_nil)
theorem zu_118 : zcutb 118 0 k_R_saying = true := by decide +kernel
theorem zs_118 : zfacts 118 zc_R_saying := zfacts_0 rfl zlks_10 zr_118 zu_118 rfl (zfacts_c rfl zlks_10 zr_118 zu_118 (by decide +kernel) rfl (zfacts_nil))
theorem zu_119 : zcutb 119 0 k_R_saidAt = true := by decide +kernel
theorem zs_119 : zfacts 119 zc_R_saidAt := zfacts_0 rfl zlks_10 zr_119 zu_119 rfl (zfacts_nil)
theorem zu_120 : zcutb 120 0 k_R_wish = true := by decide +kernel
theorem zs_120 : zfacts 120 zc_R_wish := zfacts_0 rfl zlks_10 zr_120 zu_120 rfl (zfacts_c rfl zlks_10 zr_120 zu_120 (by decide +kernel) rfl (zfacts_nil))
theorem zu_121 : zcutb 121 0 k_R_rests = true := by decide +kernel
theorem zs_121 : zfacts 121 zc_R_rests := zfacts_0 rfl zlks_10 zr_121 zu_121 rfl (zfacts_c rfl zlks_10 zr_121 zu_121 (by decide +kernel) rfl (zfacts_c rfl zlks_10 zr_121 zu_121 (by decide +kernel) rfl (zfacts_nil)))
theorem zu_122 : zcutb 122 0 k_R_own = true := by decide +kernel
theorem zs_122 : zfacts 122 zc_R_own := zfacts_0 rfl zlks_10 zr_122 zu_122 rfl (zfacts_nil)
theorem zu_123 : zcutb 123 0 k_R_liked = true := by decide +kernel
theorem zs_123 : zfacts 123 zc_R_liked := zfacts_0 rfl zlks_10 zr_123 zu_123 rfl (zfacts_nil)
theorem zu_124 : zcutb 124 0 k_R_sure = true := by decide +kernel
theorem zs_124 : zfacts 124 zc_R_sure := zfacts_0 rfl zlks_10 zr_124 zu_124 rfl (zfacts_nil)
theorem zu_125 : zcutb 125 0 k_R_most = true := by decide +kernel
theorem zs_125 : zfacts 125 zc_R_most := zfacts_0 rfl zlks_10 zr_125 zu_125 rfl (zfacts_c rfl zlks_10 zr_125 zu_125 (by decide +kernel) rfl (zfacts_c rfl zlks_10 zr_125 zu_125 (by decide +kernel) rfl (zfacts_nil)))
theorem zu_126 : zcutb 126 0 k_R_when = true := by decide +kernel
theorem zs_126 : zfacts 126 zc_R_when := zfacts_0 rfl zlks_10 zr_126 zu_126 rfl (zfacts_c rfl zlks_10 zr_126 zu_126 (by decide +kernel) rfl (zfacts_nil))
theorem zu_127 : zcutb 127 0 k_R_clashes = true := by decide +kernel
theorem zs_127 : zfacts 127 zc_R_clashes := zfacts_0 rfl zlks_10 zr_127 zu_127 rfl (zfacts_nil)
theorem zu_128 : zcutb 128 0 k_R_unlike = true := by decide +kernel
theorem zs_128 : zfacts 128 zc_R_unlike := zfacts_0 rfl zlks_10 zr_128 zu_128 rfl (zfacts_c rfl zlks_10 zr_128 zu_128 (by decide +kernel) rfl (zfacts_nil))
theorem zu_129 : zcutb 129 0 k_R_drawn = true := by decide +kernel
theorem zs_129 : zfacts 129 zc_R_drawn := zfacts_0 rfl zlks_10 zr_129 zu_129 rfl (zfacts_c rfl zlks_10 zr_129 zu_129 (by decide +kernel) rfl (zfacts_nil))
theorem zu_130 : zcutb 130 0 k_R_stones = true := by decide +kernel
theorem zs_130 : zfacts 130 zc_R_stones := zfacts_0 rfl zlks_10 zr_130 zu_130 rfl (zfacts_nil)
theorem zu_131 : zcutb 131 0 k_R_odds = true := by decide +kernel
theorem zs_131 : zfacts 131 zc_R_odds := zfacts_0 rfl zlks_10 zr_131 zu_131 rfl (zfacts_c rfl zlks_10 zr_131 zu_131 (by decide +kernel) rfl (zfacts_nil))
theorem zu_132 : zcutb 132 0 k_R_daybook = true := by decide +kernel
theorem zs_132 : zfacts 132 zc_R_daybook := zfacts_0 rfl zlks_10 zr_132 zu_132 rfl (zfacts_nil)
theorem zu_133 : zcutb 133 0 k_R_booked = true := by decide +kernel
theorem zs_133 : zfacts 133 zc_R_booked := zfacts_0 rfl zlks_10 zr_133 zu_133 rfl (zfacts_nil)
theorem zu_134 : zcutb 134 0 k_R_sentence = true := by decide +kernel
theorem zs_134 : zfacts 134 zc_R_sentence := zfacts_0 rfl zlks_10 zr_134 zu_134 rfl (zfacts_nil)
theorem zu_135 : zcutb 135 0 k_R_said = true := by decide +kernel
theorem zs_135 : zfacts 135 zc_R_said := zfacts_0 rfl zlks_10 zr_135 zu_135 rfl (zfacts_c rfl zlks_10 zr_135 zu_135 (by decide +kernel) rfl (zfacts_nil))
theorem zu_136 : zcutb 136 0 k_R_image = true := by decide +kernel
theorem zs_136 : zfacts 136 zc_R_image := zfacts_0 rfl zlks_10 zr_136 zu_136 rfl (zfacts_nil)
theorem zu_137 : zcutb 137 0 k_R_restore = true := by decide +kernel
theorem zs_137 : zfacts 137 zc_R_restore := zfacts_0 rfl zlks_10 zr_137 zu_137 rfl (zfacts_nil)
theorem zu_138 : zcutb 138 0 k_R_count = true := by decide +kernel
theorem zs_138 : zfacts 138 zc_R_count := zfacts_0 rfl zlks_10 zr_138 zu_138 rfl (zfacts_nil)
theorem zu_139 : zcutb 139 0 k_R_isWithin = true := by decide +kernel
theorem zs_139 : zfacts 139 zc_R_isWithin := zfacts_0 rfl zlks_10 zr_139 zu_139 rfl (zfacts_nil)
theorem zu_140 : zcutb 140 0 k_R_sumOf = true := by decide +kernel
theorem zs_140 : zfacts 140 zc_R_sumOf := zfacts_0 rfl zlks_10 zr_140 zu_140 rfl (zfacts_c rfl zlks_10 zr_140 zu_140 (by decide +kernel) rfl (zfacts_nil))
theorem zu_141 : zcutb 141 0 k_R_takeRow = true := by decide +kernel
theorem zs_141 : zfacts 141 zc_R_takeRow := zfacts_0 rfl zlks_10 zr_141 zu_141 rfl (zfacts_c rfl zlks_10 zr_141 zu_141 (by decide +kernel) rfl (zfacts_nil))
theorem zu_142 : zcutb 142 0 k_R_fillArrivals = true := by decide +kernel
theorem zs_142 : zfacts 142 zc_R_fillArrivals := zfacts_0 rfl zlks_10 zr_142 zu_142 rfl (zfacts_c rfl zlks_10 zr_142 zu_142 (by decide +kernel) rfl (zfacts_nil))
theorem zu_143 : zcutb 143 0 k_R_countOf = true := by decide +kernel
theorem zs_143 : zfacts 143 zc_R_countOf := zfacts_0 rfl zlks_10 zr_143 zu_143 rfl (zfacts_c rfl zlks_10 zr_143 zu_143 (by decide +kernel) rfl (zfacts_nil))
theorem zu_144 : zcutb 144 0 k_R_leastFor = true := by decide +kernel
theorem zs_144 : zfacts 144 zc_R_leastFor := zfacts_0 rfl zlks_10 zr_144 zu_144 rfl (zfacts_c rfl zlks_10 zr_144 zu_144 (by decide +kernel) rfl (zfacts_nil))
theorem zu_145 : zcutb 145 0 k_R_keepFirstWay = true := by decide +kernel
theorem zs_145 : zfacts 145 zc_R_keepFirstWay := zfacts_0 rfl zlks_10 zr_145 zu_145 rfl (zfacts_c rfl zlks_10 zr_145 zu_145 (by decide +kernel) rfl (zfacts_nil))
theorem zu_146 : zcutb 146 0 k_R_tryDays = true := by decide +kernel
theorem zs_146 : zfacts 146 zc_R_tryDays := zfacts_0 rfl zlks_10 zr_146 zu_146 rfl (zfacts_nil)
theorem zu_147 : zcutb 147 0 k_R_fillGains = true := by decide +kernel
theorem zs_147 : zfacts 147 zc_R_fillGains := zfacts_0 rfl zlks_10 zr_147 zu_147 rfl (zfacts_c rfl zlks_10 zr_147 zu_147 (by decide +kernel) rfl (zfacts_nil))
theorem zu_148 : zcutb 148 0 k_R_isRest = true := by decide +kernel
theorem zs_148 : zfacts 148 zc_R_isRest := zfacts_0 rfl zlks_10 zr_148 zu_148 rfl (zfacts_c rfl zlks_10 zr_148 zu_148 (by decide +kernel) rfl (zfacts_nil))
theorem zu_149 : zcutb 149 0 k_R_staysSensible = true := by decide +kernel
theorem zs_149 : zfacts 149 zc_R_staysSensible := zfacts_0 rfl zlks_10 zr_149 zu_149 rfl (zfacts_c rfl zlks_10 zr_149 zu_149 (by decide +kernel) rfl (zfacts_nil))
theorem zu_150 : zcutb 150 0 k_M_thrown = true := by decide +kernel
theorem zs_150 : zfacts 150 zc_M_thrown := zfacts_0 rfl zlks_11 zr_150 zu_150 rfl (zfacts_nil)
theorem zu_151 : zcutb 151 0 k_M_throwsIf = true := by decide +kernel
theorem zs_151 : zfacts 151 zc_M_throwsIf := zfacts_0 rfl zlks_11 zr_151 zu_151 rfl (zfacts_nil)
theorem zu_152 : zcutb 152 0 k_M_feed = true := by decide +kernel
theorem zs_152 : zfacts 152 zc_M_feed := zfacts_0 rfl zlks_11 zr_152 zu_152 rfl (zfacts_nil)
theorem zu_153 : zcutb 153 0 k_M_four = true := by decide +kernel
theorem zs_153 : zfacts 153 zc_M_four := zfacts_0 rfl zlks_11 zr_153 zu_153 rfl (zfacts_c rfl zlks_11 zr_153 zu_153 (by decide +kernel) rfl (zfacts_nil))
theorem zu_154 : zcutb 154 0 k_M_end = true := by decide +kernel
theorem zs_154 : zfacts 154 zc_M_end := zfacts_0 rfl zlks_11 zr_154 zu_154 rfl (zfacts_nil)
theorem zu_155 : zcutb 155 0 k_M_taken = true := by decide +kernel
theorem zs_155 : zfacts 155 zc_M_taken := zfacts_0 rfl zlks_11 zr_155 zu_155 rfl (zfacts_nil)
theorem zu_156 : zcutb 156 0 k_M_isIn = true := by decide +kernel
theorem zs_156 : zfacts 156 zc_M_isIn := zfacts_0 rfl zlks_11 zr_156 zu_156 rfl (zfacts_nil)
theorem zu_157 : zcutb 157 0 k_M_bitOf = true := by decide +kernel
theorem zs_157 : zfacts 157 zc_M_bitOf := zfacts_0 rfl zlks_11 zr_157 zu_157 rfl (zfacts_nil)
theorem zu_158 : zcutb 158 0 k_M_octet = true := by decide +kernel
theorem zs_158 : zfacts 158 zc_M_octet := zfacts_0 rfl zlks_11 zr_158 zu_158 rfl (zfacts_nil)
theorem zu_159 : zcutb 159 0 k_M_peek = true := by decide +kernel
theorem zs_159 : zfacts 159 zc_M_peek := zfacts_0 rfl zlks_11 zr_159 zu_159 rfl (zfacts_nil)
theorem zu_160 : zcutb 160 0 k_M_isSmall = true := by decide +kernel
theorem zs_160 : zfacts 160 zc_M_isSmall := zfacts_0 rfl zlks_11 zr_160 zu_160 rfl (zfacts_nil)
theorem zu_161 : zcutb 161 0 k_M_isDigit = true := by decide +kernel
theorem zs_161 : zfacts 161 zc_M_isDigit := zfacts_0 rfl zlks_11 zr_161 zu_161 rfl (zfacts_nil)
theorem zu_162 : zcutb 162 0 k_M_next = true := by decide +kernel
theorem zs_162 : zfacts 162 zc_M_next := zfacts_0 rfl zlks_11 zr_162 zu_162 rfl (zfacts_c rfl zlks_11 zr_162 zu_162 (by decide +kernel) rfl (zfacts_c rfl zlks_11 zr_162 zu_162 (by decide +kernel) rfl (zfacts_c rfl zlks_11 zr_162 zu_162 (by decide +kernel) rfl (zfacts_c rfl zlks_11 zr_162 zu_162 (by decide +kernel) rfl (zfacts_nil)))))
theorem zu_163 : zcutb 163 0 k_M_bad = true := by decide +kernel
theorem zs_163 : zfacts 163 zc_M_bad := zfacts_0 rfl zlks_11 zr_163 zu_163 rfl (zfacts_nil)
theorem zu_164 : zcutb 164 0 k_M_isWord = true := by decide +kernel
theorem zs_164 : zfacts 164 zc_M_isWord := zfacts_0 rfl zlks_11 zr_164 zu_164 rfl (zfacts_nil)
theorem zu_165 : zcutb 165 0 k_M_isSign = true := by decide +kernel
theorem zs_165 : zfacts 165 zc_M_isSign := zfacts_0 rfl zlks_11 zr_165 zu_165 rfl (zfacts_nil)
theorem zu_166 : zcutb 166 0 k_M_sign = true := by decide +kernel
theorem zs_166 : zfacts 166 zc_M_sign := zfacts_0 rfl zlks_11 zr_166 zu_166 rfl (zfacts_nil)
theorem zu_167 : zcutb 167 0 k_M_isName = true := by decide +kernel
theorem zs_167 : zfacts 167 zc_M_isName := zfacts_0 rfl zlks_11 zr_167 zu_167 rfl (zfacts_c rfl zlks_11 zr_167 zu_167 (by decide +kernel) rfl (zfacts_nil))
theorem zu_168 : zcutb 168 0 k_M_takes = true := by decide +kernel
theorem zs_168 : zfacts 168 zc_M_takes := zfacts_0 rfl zlks_11 zr_168 zu_168 rfl (zfacts_nil)
theorem zu_169 : zcutb 169 0 k_M_find = true := by decide +kernel
theorem zs_169 : zfacts 169 zc_M_find := zfacts_0 rfl zlks_11 zr_169 zu_169 rfl (zfacts_c rfl zlks_11 zr_169 zu_169 (by decide +kernel) rfl (zfacts_nil))
theorem zu_170 : zcutb 170 0 k_M_fresh = true := by decide +kernel
theorem zs_170 : zfacts 170 zc_M_fresh := zfacts_0 rfl zlks_11 zr_170 zu_170 rfl (zfacts_nil)
theorem zu_171 : zcutb 171 0 k_M_looksAt = true := by decide +kernel
theorem zs_171 : zfacts 171 zc_M_looksAt := zfacts_0 rfl zlks_11 zr_171 zu_171 rfl (zfacts_nil)
theorem zu_172 : zcutb 172 0 k_M_looksAtTerm = true := by decide +kernel
theorem zs_172 : zfacts 172 zc_M_looksAtTerm := zfacts_0 rfl zlks_11 zr_172 zu_172 rfl (zfacts_nil)
theorem zu_173 : zcutb 173 0 k_M_looksAtReach = true := by decide +kernel
theorem zs_173 : zfacts 173 zc_M_looksAtReach := zfacts_0 rfl zlks_11 zr_173 zu_173 rfl (zfacts_nil)
theorem zu_174 : zcutb 174 0 k_M_sortOf = true := by decide +kernel
theorem zs_174 : zfacts 174 zc_M_sortOf := zfacts_0 rfl zlks_11 zr_174 zu_174 rfl (zfacts_nil)
theorem zu_175 : zcutb 175 0 k_M_line = true := by decide +kernel
theorem zs_175 : zfacts 175 zc_M_line := zfacts_0 rfl zlks_11 zr_175 zu_175 rfl (zfacts_nil)
theorem zu_176 : zcutb 176 0 k_M_readReach = true := by decide +kernel
theorem zs_176 : zfacts 176 zc_M_readReach := zfacts_0 rfl zlks_11 zr_176 zu_176 rfl (zfacts_nil)
theorem zu_177 : zcutb 177 0 k_M_readSays = true := by decide +kernel
theorem zs_177 : zfacts 177 zc_M_readSays := zfacts_0 rfl zlks_11 zr_177 zu_177 rfl (zfacts_c rfl zlks_11 zr_177 zu_177 (by decide +kernel) rfl (zfacts_c rfl zlks_11 zr_177 zu_177 (by decide +kernel) rfl (zfacts_nil)))
theorem zu_178 : zcutb 178 0 k_M_readAt = true := by decide +kernel
theorem zs_178 : zfacts 178 zc_M_readAt := zfacts_0 rfl zlks_11 zr_178 zu_178 rfl (zfacts_c rfl zlks_11 zr_178 zu_178 (by decide +kernel) rfl (zfacts_c rfl zlks_11 zr_178 zu_178 (by decide +kernel) rfl (zfacts_nil)))
theorem zu_179 : zcutb 179 0 k_M_readRule = true := by decide +kernel
theorem zs_179 : zfacts 179 zc_M_readRule := zfacts_0 rfl zlks_11 zr_179 zu_179 rfl (zfacts_c rfl zlks_11 zr_179 zu_179 (by decide +kernel) rfl (zfacts_nil))
theorem zu_180 : zcutb 180 0 k_M_country = true := by decide +kernel
theorem zs_180 : zfacts 180 zc_M_country := zfacts_0 rfl zlks_11 zr_180 zu_180 rfl (zfacts_c rfl zlks_11 zr_180 zu_180 (by decide +kernel) rfl (zfacts_c rfl zlks_11 zr_180 zu_180 (by decide +kernel) rfl (zfacts_c rfl zlks_11 zr_180 zu_180 (by decide +kernel) rfl (zfacts_c rfl zlks_11 zr_180 zu_180 (by decide +kernel) rfl (zfacts_nil)))))
theorem zu_181 : zcutb 181 0 k_M_fault = true := by decide +kernel
theorem zs_181 : zfacts 181 zc_M_fault := zfacts_0 rfl zlks_11 zr_181 zu_181 rfl (zfacts_nil)
theorem zu_182 : zcutb 182 0 k_M_isTerm = true := by decide +kernel
theorem zs_182 : zfacts 182 zc_M_isTerm := zfacts_0 rfl zlks_11 zr_182 zu_182 rfl (zfacts_nil)
theorem zu_183 : zcutb 183 0 k_M_isReach = true := by decide +kernel
theorem zs_183 : zfacts 183 zc_M_isReach := zfacts_0 rfl zlks_11 zr_183 zu_183 rfl (zfacts_nil)
theorem zu_184 : zcutb 184 0 k_M_isEditor = true := by decide +kernel
theorem zs_184 : zfacts 184 zc_M_isEditor := zfacts_0 rfl zlks_11 zr_184 zu_184 rfl (zfacts_nil)
theorem zu_185 : zcutb 185 0 k_M_isTown = true := by decide +kernel
theorem zs_185 : zfacts 185 zc_M_isTown := zfacts_0 rfl zlks_11 zr_185 zu_185 rfl (zfacts_nil)
theorem zu_186 : zcutb 186 0 k_M_isPlace = true := by decide +kernel
theorem zs_186 : zfacts 186 zc_M_isPlace := zfacts_0 rfl zlks_11 zr_186 zu_186 rfl (zfacts_nil)
theorem zu_187 : zcutb 187 0 k_M_term = true := by decide +kernel
theorem zs_187 : zfacts 187 zc_M_term := zfacts_0 rfl zlks_11 zr_187 zu_187 rfl (zfacts_nil)
theorem zu_188 : zcutb 188 0 k_M_saysOn = true := by decide +kernel
theorem zs_188 : zfacts 188 zc_M_saysOn := zfacts_0 rfl zlks_11 zr_188 zu_188 rfl (zfacts_nil)
theorem zu_189 : zcutb 189 0 k_M_reach = true := by decide +kernel
theorem zs_189 : zfacts 189 zc_M_reach := zfacts_0 rfl zlks_11 zr_189 zu_189 rfl (zfacts_nil)
theorem zu_190 : zcutb 190 0 k_M_at = true := by decide +kernel
theorem zs_190 : zfacts 190 zc_M_at := zfacts_0 rfl zlks_11 zr_190 zu_190 rfl (zfacts_c rfl zlks_11 zr_190 zu_190 (by decide +kernel) rfl (zfacts_nil))
theorem zu_191 : zcutb 191 0 k_M_editor = true := by decide +kernel
theorem zs_191 : zfacts 191 zc_M_editor := zfacts_0 rfl zlks_11 zr_191 zu_191 rfl (zfacts_nil)
theorem zu_192 : zcutb 192 0 k_M_madeOf = true := by decide +kernel
theorem zs_192 : zfacts 192 zc_M_madeOf := zfacts_0 rfl zlks_11 zr_192 zu_192 rfl (zfacts_nil)
theorem zu_193 : zcutb 193 0 k_M_makes = true := by decide +kernel
theorem zs_193 : zfacts 193 zc_M_makes := zfacts_0 rfl zlks_11 zr_193 zu_193 rfl (zfacts_nil)
theorem zu_194 : zcutb 194 0 k_M_wellOf = true := by decide +kernel
theorem zs_194 : zfacts 194 zc_M_wellOf := zfacts_0 rfl zlks_11 zr_194 zu_194 rfl (zfacts_nil)
theorem zu_195 : zcutb 195 0 k_M_wordsOf = true := by decide +kernel
theorem zs_195 : zfacts 195 zc_M_wordsOf := zfacts_0 rfl zlks_11 zr_195 zu_195 rfl (zfacts_c rfl zlks_11 zr_195 zu_195 (by decide +kernel) rfl (zfacts_nil))
theorem zu_196 : zcutb 196 0 k_M_lastOf = true := by decide +kernel
theorem zs_196 : zfacts 196 zc_M_lastOf := zfacts_0 rfl zlks_11 zr_196 zu_196 rfl (zfacts_nil)
theorem zu_197 : zcutb 197 0 k_M_town = true := by decide +kernel
theorem zs_197 : zfacts 197 zc_M_town := zfacts_0 rfl zlks_11 zr_197 zu_197 rfl (zfacts_c rfl zlks_11 zr_197 zu_197 (by decide +kernel) rfl (zfacts_c rfl zlks_11 zr_197 zu_197 (by decide +kernel) rfl (zfacts_nil)))
theorem zu_198 : zcutb 198 0 k_M_now = true := by decide +kernel
theorem zs_198 : zfacts 198 zc_M_now := zfacts_0 rfl zlks_11 zr_198 zu_198 rfl (zfacts_c rfl zlks_11 zr_198 zu_198 (by decide +kernel) rfl (zfacts_nil))
theorem zu_199 : zcutb 199 0 k_M_comesTo = true := by decide +kernel
theorem zs_199 : zfacts 199 zc_M_comesTo := zfacts_0 rfl zlks_11 zr_199 zu_199 rfl (zfacts_c rfl zlks_11 zr_199 zu_199 (by decide +kernel) rfl (zfacts_c rfl zlks_11 zr_199 zu_199 (by decide +kernel) rfl (zfacts_nil)))
theorem zu_200 : zcutb 200 0 k_M_edits = true := by decide +kernel
theorem zs_200 : zfacts 200 zc_M_edits := zfacts_0 rfl zlks_11 zr_200 zu_200 rfl (zfacts_c rfl zlks_11 zr_200 zu_200 (by decide +kernel) rfl (zfacts_nil))
theorem zu_201 : zcutb 201 0 k_M_day = true := by decide +kernel
theorem zs_201 : zfacts 201 zc_M_day := zfacts_0 rfl zlks_11 zr_201 zu_201 rfl (zfacts_c rfl zlks_11 zr_201 zu_201 (by decide +kernel) rfl (zfacts_c rfl zlks_11 zr_201 zu_201 (by decide +kernel) rfl (zfacts_c rfl zlks_11 zr_201 zu_201 (by decide +kernel) rfl (zfacts_c rfl zlks_11 zr_201 zu_201 (by decide +kernel) rfl (zfacts_c rfl zlks_11 zr_201 zu_201 (by decide +kernel) rfl (zfacts_nil))))))
theorem zu_202 : zcutb 202 0 k_M_goes = true := by decide +kernel
theorem zs_202 : zfacts 202 zc_M_goes := zfacts_0 rfl zlks_11 zr_202 zu_202 rfl (zfacts_c rfl zlks_11 zr_202 zu_202 (by decide +kernel) rfl (zfacts_nil))
theorem zu_203 : zcutb 203 0 k_M_days = true := by decide +kernel
theorem zs_203 : zfacts 203 zc_M_days := zfacts_0 rfl zlks_11 zr_203 zu_203 rfl (zfacts_nil)
theorem zu_204 : zcutb 204 0 k_M_wake = true := by decide +kernel
theorem zs_204 : zfacts 204 zc_M_wake := zfacts_0 rfl zlks_11 zr_204 zu_204 rfl (zfacts_c rfl zlks_11 zr_204 zu_204 (by decide +kernel) rfl (zfacts_nil))
theorem zu_205 : zcutb 205 0 k_M_stone = true := by decide +kernel
theorem zs_205 : zfacts 205 zc_M_stone := zfacts_0 rfl zlks_11 zr_205 zu_205 rfl (zfacts_c rfl zlks_11 zr_205 zu_205 (by decide +kernel) rfl (zfacts_nil))
theorem zu_206 : zcutb 206 0 k_M_keep = true := by decide +kernel
theorem zs_206 : zfacts 206 zc_M_keep := zfacts_0 rfl zlks_11 zr_206 zu_206 rfl (zfacts_c rfl zlks_11 zr_206 zu_206 (by decide +kernel) rfl (zfacts_c rfl zlks_11 zr_206 zu_206 (by decide +kernel) rfl (zfacts_nil)))
theorem zu_207 : zcutb 207 0 k_M_undo = true := by decide +kernel
theorem zs_207 : zfacts 207 zc_M_undo := zfacts_0 rfl zlks_11 zr_207 zu_207 rfl (zfacts_c rfl zlks_11 zr_207 zu_207 (by decide +kernel) rfl (zfacts_nil))
theorem zu_208 : zcutb 208 0 k_M_tries = true := by decide +kernel
theorem zs_208 : zfacts 208 zc_M_tries := zfacts_0 rfl zlks_11 zr_208 zu_208 rfl (zfacts_c rfl zlks_11 zr_208 zu_208 (by decide +kernel) rfl (zfacts_nil))
theorem zu_209 : zcutb 209 0 k_M_back = true := by decide +kernel
theorem zs_209 : zfacts 209 zc_M_back := zfacts_0 rfl zlks_11 zr_209 zu_209 rfl (zfacts_c rfl zlks_11 zr_209 zu_209 (by decide +kernel) rfl (zfacts_nil))
theorem zu_210 : zcutb 210 0 k_M_well = true := by decide +kernel
theorem zs_210 : zfacts 210 zc_M_well := zfacts_0 rfl zlks_11 zr_210 zu_210 rfl (zfacts_nil)
theorem zu_211 : zcutb 211 0 k_M_behind0 = true := by decide +kernel
theorem zs_211 : zfacts 211 zc_M_behind0 := zfacts_0 rfl zlks_11 zr_211 zu_211 rfl (zfacts_c rfl zlks_11 zr_211 zu_211 (by decide +kernel) rfl (zfacts_nil))
theorem zu_212 : zcutb 212 0 k_M_senseOf = true := by decide +kernel
theorem zs_212 : zfacts 212 zc_M_senseOf := zfacts_0 rfl zlks_11 zr_212 zu_212 rfl (zfacts_c rfl zlks_11 zr_212 zu_212 (by decide +kernel) rfl (zfacts_nil))
theorem zu_213 : zcutb 213 0 k_M_sense = true := by decide +kernel
theorem zs_213 : zfacts 213 zc_M_sense := zfacts_0 rfl zlks_11 zr_213 zu_213 rfl (zfacts_nil)
theorem zu_214 : zcutb 214 0 k_M_sayings = true := by decide +kernel
theorem zs_214 : zfacts 214 zc_M_sayings := zfacts_0 rfl zlks_11 zr_214 zu_214 rfl (zfacts_nil)
theorem zu_215 : zcutb 215 0 k_M_flows = true := by decide +kernel
theorem zs_215 : zfacts 215 zc_M_flows := zfacts_0 rfl zlks_11 zr_215 zu_215 rfl (zfacts_c rfl zlks_11 zr_215 zu_215 (by decide +kernel) rfl (zfacts_nil))
theorem zu_216 : zcutb 216 0 k_M_aboveOf = true := by decide +kernel
theorem zs_216 : zfacts 216 zc_M_aboveOf := zfacts_0 rfl zlks_11 zr_216 zu_216 rfl (zfacts_c rfl zlks_11 zr_216 zu_216 (by decide +kernel) rfl (zfacts_c rfl zlks_11 zr_216 zu_216 (by decide +kernel) rfl (zfacts_nil)))
theorem zu_217 : zcutb 217 0 k_M_above = true := by decide +kernel
theorem zs_217 : zfacts 217 zc_M_above := zfacts_0 rfl zlks_11 zr_217 zu_217 rfl (zfacts_nil)
theorem zu_218 : zcutb 218 0 k_M_sourceOf = true := by decide +kernel
theorem zs_218 : zfacts 218 zc_M_sourceOf := zfacts_0 rfl zlks_11 zr_218 zu_218 rfl (zfacts_c rfl zlks_11 zr_218 zu_218 (by decide +kernel) rfl (zfacts_nil))
theorem zu_219 : zcutb 219 0 k_M_source = true := by decide +kernel
theorem zs_219 : zfacts 219 zc_M_source := zfacts_0 rfl zlks_11 zr_219 zu_219 rfl (zfacts_nil)
theorem zu_220 : zcutb 220 0 k_M_madeAt = true := by decide +kernel
theorem zs_220 : zfacts 220 zc_M_madeAt := zfacts_0 rfl zlks_11 zr_220 zu_220 rfl (zfacts_c rfl zlks_11 zr_220 zu_220 (by decide +kernel) rfl (zfacts_nil))
theorem zu_221 : zcutb 221 0 k_M_comesOf = true := by decide +kernel
theorem zs_221 : zfacts 221 zc_M_comesOf := zfacts_0 rfl zlks_11 zr_221 zu_221 rfl (zfacts_c rfl zlks_11 zr_221 zu_221 (by decide +kernel) rfl (zfacts_c rfl zlks_11 zr_221 zu_221 (by decide +kernel) rfl (zfacts_c rfl zlks_11 zr_221 zu_221 (by decide +kernel) rfl (zfacts_nil))))
theorem zu_222 : zcutb 222 0 k_M_hasSource = true := by decide +kernel
theorem zs_222 : zfacts 222 zc_M_hasSource := zfacts_0 rfl zlks_11 zr_222 zu_222 rfl (zfacts_nil)
theorem zu_223 : zcutb 223 0 k_M_comes = true := by decide +kernel
theorem zs_223 : zfacts 223 zc_M_comes := zfacts_0 rfl zlks_11 zr_223 zu_223 rfl (zfacts_nil)
theorem zu_224 : zcutb 224 0 k_M_termAt = true := by decide +kernel
theorem zs_224 : zfacts 224 zc_M_termAt := zfacts_0 rfl zlks_11 zr_224 zu_224 rfl (zfacts_nil)
theorem zu_225 : zcutb 225 0 k_M_areTerms = true := by decide +kernel
theorem zs_225 : zfacts 225 zc_M_areTerms := zfacts_0 rfl zlks_11 zr_225 zu_225 rfl (zfacts_c rfl zlks_11 zr_225 zu_225 (by decide +kernel) rfl (zfacts_nil))
theorem zu_226 : zcutb 226 0 k_M_saying = true := by decide +kernel
theorem zs_226 : zfacts 226 zc_M_saying := zfacts_0 rfl zlks_11 zr_226 zu_226 rfl (zfacts_c rfl zlks_11 zr_226 zu_226 (by decide +kernel) rfl (zfacts_c rfl zlks_11 zr_226 zu_226 (by decide +kernel) rfl (zfacts_c rfl zlks_11 zr_226 zu_226 (by decide +kernel) rfl (zfacts_nil))))
theorem zu_227 : zcutb 227 0 k_M_saidAt = true := by decide +kernel
theorem zs_227 : zfacts 227 zc_M_saidAt := zfacts_0 rfl zlks_11 zr_227 zu_227 rfl (zfacts_nil)
theorem zu_228 : zcutb 228 0 k_M_wish = true := by decide +kernel
theorem zs_228 : zfacts 228 zc_M_wish := zfacts_0 rfl zlks_11 zr_228 zu_228 rfl (zfacts_c rfl zlks_11 zr_228 zu_228 (by decide +kernel) rfl (zfacts_c rfl zlks_11 zr_228 zu_228 (by decide +kernel) rfl (zfacts_nil)))
theorem zu_229 : zcutb 229 0 k_M_ownOf = true := by decide +kernel
theorem zs_229 : zfacts 229 zc_M_ownOf := zfacts_0 rfl zlks_11 zr_229 zu_229 rfl (zfacts_c rfl zlks_11 zr_229 zu_229 (by decide +kernel) rfl (zfacts_nil))
theorem zu_230 : zcutb 230 0 k_M_own = true := by decide +kernel
theorem zs_230 : zfacts 230 zc_M_own := zfacts_0 rfl zlks_11 zr_230 zu_230 rfl (zfacts_nil)
theorem zu_231 : zcutb 231 0 k_M_likesBy = true := by decide +kernel
theorem zs_231 : zfacts 231 zc_M_likesBy := zfacts_0 rfl zlks_11 zr_231 zu_231 rfl (zfacts_c rfl zlks_11 zr_231 zu_231 (by decide +kernel) rfl (zfacts_nil))
theorem zu_232 : zcutb 232 0 k_M_rests = true := by decide +kernel
theorem zs_232 : zfacts 232 zc_M_rests := zfacts_0 rfl zlks_11 zr_232 zu_232 rfl (zfacts_c rfl zlks_11 zr_232 zu_232 (by decide +kernel) rfl (zfacts_c rfl zlks_11 zr_232 zu_232 (by decide +kernel) rfl (zfacts_c rfl zlks_11 zr_232 zu_232 (by decide +kernel) rfl (zfacts_nil))))
theorem zu_233 : zcutb 233 0 k_M_liked = true := by decide +kernel
theorem zs_233 : zfacts 233 zc_M_liked := zfacts_0 rfl zlks_11 zr_233 zu_233 rfl (zfacts_nil)
theorem zu_234 : zcutb 234 0 k_M_sure = true := by decide +kernel
theorem zs_234 : zfacts 234 zc_M_sure := zfacts_0 rfl zlks_11 zr_234 zu_234 rfl (zfacts_nil)
theorem zu_235 : zcutb 235 0 k_M_most = true := by decide +kernel
theorem zs_235 : zfacts 235 zc_M_most := zfacts_0 rfl zlks_11 zr_235 zu_235 rfl (zfacts_c rfl zlks_11 zr_235 zu_235 (by decide +kernel) rfl (zfacts_c rfl zlks_11 zr_235 zu_235 (by decide +kernel) rfl (zfacts_nil)))
theorem zu_236 : zcutb 236 0 k_M_when = true := by decide +kernel
theorem zs_236 : zfacts 236 zc_M_when := zfacts_0 rfl zlks_11 zr_236 zu_236 rfl (zfacts_c rfl zlks_11 zr_236 zu_236 (by decide +kernel) rfl (zfacts_nil))
theorem zu_237 : zcutb 237 0 k_M_clashes = true := by decide +kernel
theorem zs_237 : zfacts 237 zc_M_clashes := zfacts_0 rfl zlks_11 zr_237 zu_237 rfl (zfacts_nil)
theorem zu_238 : zcutb 238 0 k_M_unlike = true := by decide +kernel
theorem zs_238 : zfacts 238 zc_M_unlike := zfacts_0 rfl zlks_11 zr_238 zu_238 rfl (zfacts_c rfl zlks_11 zr_238 zu_238 (by decide +kernel) rfl (zfacts_nil))
theorem zu_239 : zcutb 239 0 k_M_draw = true := by decide +kernel
theorem zs_239 : zfacts 239 zc_M_draw := zfacts_0 rfl zlks_11 zr_239 zu_239 rfl (zfacts_nil)
theorem zu_240 : zcutb 240 0 k_M_draws = true := by decide +kernel
theorem zs_240 : zfacts 240 zc_M_draws := zfacts_0 rfl zlks_11 zr_240 zu_240 rfl (zfacts_c rfl zlks_11 zr_240 zu_240 (by decide +kernel) rfl (zfacts_nil))
theorem zu_241 : zcutb 241 0 k_M_drawn = true := by decide +kernel
theorem zs_241 : zfacts 241 zc_M_drawn := zfacts_0 rfl zlks_11 zr_241 zu_241 rfl (zfacts_nil)
theorem zu_242 : zcutb 242 0 k_M_stones = true := by decide +kernel
theorem zs_242 : zfacts 242 zc_M_stones := zfacts_0 rfl zlks_11 zr_242 zu_242 rfl (zfacts_nil)
theorem zu_243 : zcutb 243 0 k_M_odds = true := by decide +kernel
theorem zs_243 : zfacts 243 zc_M_odds := zfacts_0 rfl zlks_11 zr_243 zu_243 rfl (zfacts_c rfl zlks_11 zr_243 zu_243 (by decide +kernel) rfl (zfacts_nil))
theorem zu_244 : zcutb 244 0 k_M_bookLine = true := by decide +kernel
theorem zs_244 : zfacts 244 zc_M_bookLine := zfacts_0 rfl zlks_11 zr_244 zu_244 rfl (zfacts_c rfl zlks_11 zr_244 zu_244 (by decide +kernel) rfl (zfacts_c rfl zlks_11 zr_244 zu_244 (by decide +kernel) rfl (zfacts_c rfl zlks_11 zr_244 zu_244 (by decide +kernel) rfl (zfacts_nil))))
theorem zu_245 : zcutb 245 0 k_M_does = true := by decide +kernel
theorem zs_245 : zfacts 245 zc_M_does := zfacts_0 rfl zlks_11 zr_245 zu_245 rfl (zfacts_c rfl zlks_11 zr_245 zu_245 (by decide +kernel) rfl (zfacts_nil))
theorem zu_246 : zcutb 246 0 k_M_daybook = true := by decide +kernel
theorem zs_246 : zfacts 246 zc_M_daybook := zfacts_0 rfl zlks_11 zr_246 zu_246 rfl (zfacts_c rfl zlks_11 zr_246 zu_246 (by decide +kernel) rfl (zfacts_c rfl zlks_11 zr_246 zu_246 (by decide +kernel) rfl (zfacts_c rfl zlks_11 zr_246 zu_246 (by decide +kernel) rfl (zfacts_c rfl zlks_11 zr_246 zu_246 (by decide +kernel) rfl (zfacts_c rfl zlks_11 zr_246 zu_246 (by decide +kernel) rfl (zfacts_nil))))))
theorem zu_247 : zcutb 247 0 k_M_booked = true := by decide +kernel
theorem zs_247 : zfacts 247 zc_M_booked := zfacts_0 rfl zlks_11 zr_247 zu_247 rfl (zfacts_nil)
theorem zu_248 : zcutb 248 0 k_M_code = true := by decide +kernel
theorem zs_248 : zfacts 248 zc_M_code := zfacts_0 rfl zlks_11 zr_248 zu_248 rfl (zfacts_nil)
theorem zu_249 : zcutb 249 0 k_M_joins = true := by decide +kernel
theorem zs_249 : zfacts 249 zc_M_joins := zfacts_0 rfl zlks_11 zr_249 zu_249 rfl (zfacts_c rfl zlks_11 zr_249 zu_249 (by decide +kernel) rfl (zfacts_nil))
theorem zu_250 : zcutb 250 0 k_M_nots = true := by decide +kernel
theorem zs_250 : zfacts 250 zc_M_nots := zfacts_0 rfl zlks_11 zr_250 zu_250 rfl (zfacts_nil)
theorem zu_251 : zcutb 251 0 k_M_leafOf = true := by decide +kernel
theorem zs_251 : zfacts 251 zc_M_leafOf := zfacts_0 rfl zlks_11 zr_251 zu_251 rfl (zfacts_nil)
theorem zu_252 : zcutb 252 0 k_M_operand = true := by decide +kernel
theorem zs_252 : zfacts 252 zc_M_operand := zfacts_0 rfl zlks_11 zr_252 zu_252 rfl (zfacts_c rfl zlks_11 zr_252 zu_252 (by decide +kernel) rfl (zfacts_c rfl zlks_11 zr_252 zu_252 (by decide +kernel) rfl (zfacts_c rfl zlks_11 zr_252 zu_252 (by decide +kernel) rfl (zfacts_nil))))
theorem zu_253 : zcutb 253 0 k_M_behind1 = true := by decide +kernel
theorem zs_253 : zfacts 253 zc_M_behind1 := zfacts_0 rfl zlks_11 zr_253 zu_253 rfl (zfacts_c rfl zlks_11 zr_253 zu_253 (by decide +kernel) rfl (zfacts_nil))
theorem zu_254 : zcutb 254 0 k_M_sentence = true := by decide +kernel
theorem zs_254 : zfacts 254 zc_M_sentence := zfacts_0 rfl zlks_11 zr_254 zu_254 rfl (zfacts_c rfl zlks_11 zr_254 zu_254 (by decide +kernel) rfl (zfacts_c rfl zlks_11 zr_254 zu_254 (by decide +kernel) rfl (zfacts_c rfl zlks_11 zr_254 zu_254 (by decide +kernel) rfl (zfacts_nil))))
theorem zu_255 : zcutb 255 0 k_M_isLeaf = true := by decide +kernel
theorem zs_255 : zfacts 255 zc_M_isLeaf := zfacts_0 rfl zlks_11 zr_255 zu_255 rfl (zfacts_c rfl zlks_11 zr_255 zu_255 (by decide +kernel) rfl (zfacts_nil))
theorem zu_256 : zcutb 256 0 k_M_isSaid = true := by decide +kernel
theorem zs_256 : zfacts 256 zc_M_isSaid := zfacts_0 rfl zlks_11 zr_256 zu_256 rfl (zfacts_c rfl zlks_11 zr_256 zu_256 (by decide +kernel) rfl (zfacts_c rfl zlks_11 zr_256 zu_256 (by decide +kernel) rfl (zfacts_nil)))
theorem zu_257 : zcutb 257 0 k_M_said = true := by decide +kernel
theorem zs_257 : zfacts 257 zc_M_said := zfacts_0 rfl zlks_11 zr_257 zu_257 rfl (zfacts_c rfl zlks_11 zr_257 zu_257 (by decide +kernel) rfl (zfacts_nil))
theorem zu_258 : zcutb 258 0 k_M_image = true := by decide +kernel
theorem zs_258 : zfacts 258 zc_M_image := zfacts_0 rfl zlks_11 zr_258 zu_258 rfl (zfacts_c rfl zlks_11 zr_258 zu_258 (by decide +kernel) rfl (zfacts_c rfl zlks_11 zr_258 zu_258 (by decide +kernel) rfl (zfacts_nil)))
theorem zu_259 : zcutb 259 0 k_M_restore = true := by decide +kernel
theorem zs_259 : zfacts 259 zc_M_restore := zfacts_0 rfl zlks_11 zr_259 zu_259 rfl (zfacts_c rfl zlks_11 zr_259 zu_259 (by decide +kernel) rfl (zfacts_c rfl zlks_11 zr_259 zu_259 (by decide +kernel) rfl (zfacts_nil)))
theorem zu_260 : zcutb 260 0 k_M_count = true := by decide +kernel
theorem zs_260 : zfacts 260 zc_M_count := zfacts_0 rfl zlks_11 zr_260 zu_260 rfl (zfacts_nil)
theorem zu_261 : zcutb 261 0 k_J_fill = true := by decide +kernel
theorem zs_261 : zfacts 261 zc_J_fill := zfacts_0 rfl zlks_12 zr_261 zu_261 rfl (zfacts_c rfl zlks_12 zr_261 zu_261 (by decide +kernel) rfl (zfacts_nil))
theorem zfacts_all : ∀ mid pc q, zcode mid pc = some q → zfact mid pc q := fun mid pc q => (fun h => zt_br h (fun h => zt_br h (fun h => zt_br h (fun h => zt_br h (fun h => zt_br h (fun h => zt_br h (fun h => zt_br h (fun h => zt_br h (fun h => zt_lf zs_0 h) (fun h => zt_lf zs_1 h)) (fun h => zt_br h (fun h => zt_lf zs_2 h) (fun h => zt_lf zs_3 h))) (fun h => zt_br h (fun h => zt_br h (fun h => zt_lf zs_4 h) (fun h => zt_lf zs_5 h)) (fun h => zt_br h (fun h => zt_lf zs_6 h) (fun h => zt_lf zs_7 h)))) (fun h => zt_br h (fun h => zt_br h (fun h => zt_br h (fun h => zt_lf zs_8 h) (fun h => zt_lf zs_9 h)) (fun h => zt_br h (fun h => zt_lf zs_10 h) (fun h => zt_lf zs_11 h))) (fun h => zt_br h (fun h => zt_br h (fun h => zt_lf zs_12 h) (fun h => zt_lf zs_13 h)) (fun h => zt_br h (fun h => zt_lf zs_14 h) (fun h => zt_lf zs_15 h))))) (fun h => zt_br h (fun h => zt_br h (fun h => zt_br h (fun h => zt_br h (fun h => zt_lf zs_16 h) (fun h => zt_lf zs_17 h)) (fun h => zt_br h (fun h => zt_lf zs_18 h) (fun h => zt_lf zs_19 h))) (fun h => zt_br h (fun h => zt_br h (fun h => zt_lf zs_20 h) (fun h => zt_lf zs_21 h)) (fun h => zt_br h (fun h => zt_lf zs_22 h) (fun h => zt_lf zs_23 h)))) (fun h => zt_br h (fun h => zt_br h (fun h => zt_br h (fun h => zt_lf zs_24 h) (fun h => zt_lf zs_25 h)) (fun h => zt_br h (fun h => zt_lf zs_26 h) (fun h => zt_lf zs_27 h))) (fun h => zt_br h (fun h => zt_br h (fun h => zt_lf zs_28 h) (fun h => zt_lf zs_29 h)) (fun h => zt_br h (fun h => zt_lf zs_30 h) (fun h => zt_lf zs_31 h)))))) (fun h => zt_br h (fun h => zt_br h (fun h => zt_br h (fun h => zt_br h (fun h => zt_br h (fun h => zt_lf zs_32 h) (fun h => zt_lf zs_33 h)) (fun h => zt_br h (fun h => zt_lf zs_34 h) (fun h => zt_lf zs_35 h))) (fun h => zt_br h (fun h => zt_br h (fun h => zt_lf zs_36 h) (fun h => zt_lf zs_37 h)) (fun h => zt_br h (fun h => zt_lf zs_38 h) (fun h => zt_lf zs_39 h)))) (fun h => zt_br h (fun h => zt_br h (fun h => zt_br h (fun h => zt_lf zs_40 h) (fun h => zt_lf zs_41 h)) (fun h => zt_br h (fun h => zt_lf zs_42 h) (fun h => zt_lf zs_43 h))) (fun h => zt_br h (fun h => zt_br h (fun h => zt_lf zs_44 h) (fun h => zt_lf zs_45 h)) (fun h => zt_br h (fun h => zt_lf zs_46 h) (fun h => zt_lf zs_47 h))))) (fun h => zt_br h (fun h => zt_br h (fun h => zt_br h (fun h => zt_br h (fun h => zt_lf zs_48 h) (fun h => zt_lf zs_49 h)) (fun h => zt_br h (fun h => zt_lf zs_50 h) (fun h => zt_lf zs_51 h))) (fun h => zt_br h (fun h => zt_br h (fun h => zt_lf zs_52 h) (fun h => zt_lf zs_53 h)) (fun h => zt_br h (fun h => zt_lf zs_54 h) (fun h => zt_lf zs_55 h)))) (fun h => zt_br h (fun h => zt_br h (fun h => zt_br h (fun h => zt_lf zs_56 h) (fun h => zt_lf zs_57 h)) (fun h => zt_br h (fun h => zt_lf zs_58 h) (fun h => zt_lf zs_59 h))) (fun h => zt_br h (fun h => zt_br h (fun h => zt_lf zs_60 h) (fun h => zt_lf zs_61 h)) (fun h => zt_br h (fun h => zt_lf zs_62 h) (fun h => zt_br h (fun h => zt_lf zs_63 h) (fun h => zt_lf zs_64 h)))))))) (fun h => zt_br h (fun h => zt_br h (fun h => zt_br h (fun h => zt_br h (fun h => zt_br h (fun h => zt_br h (fun h => zt_lf zs_65 h) (fun h => zt_lf zs_66 h)) (fun h => zt_br h (fun h => zt_lf zs_67 h) (fun h => zt_lf zs_68 h))) (fun h => zt_br h (fun h => zt_br h (fun h => zt_lf zs_69 h) (fun h => zt_lf zs_70 h)) (fun h => zt_br h (fun h => zt_lf zs_71 h) (fun h => zt_lf zs_72 h)))) (fun h => zt_br h (fun h => zt_br h (fun h => zt_br h (fun h => zt_lf zs_73 h) (fun h => zt_lf zs_74 h)) (fun h => zt_br h (fun h => zt_lf zs_75 h) (fun h => zt_lf zs_76 h))) (fun h => zt_br h (fun h => zt_br h (fun h => zt_lf zs_77 h) (fun h => zt_lf zs_78 h)) (fun h => zt_br h (fun h => zt_lf zs_79 h) (fun h => zt_lf zs_80 h))))) (fun h => zt_br h (fun h => zt_br h (fun h => zt_br h (fun h => zt_br h (fun h => zt_lf zs_81 h) (fun h => zt_lf zs_82 h)) (fun h => zt_br h (fun h => zt_lf zs_83 h) (fun h => zt_lf zs_84 h))) (fun h => zt_br h (fun h => zt_br h (fun h => zt_lf zs_85 h) (fun h => zt_lf zs_86 h)) (fun h => zt_br h (fun h => zt_lf zs_87 h) (fun h => zt_lf zs_88 h)))) (fun h => zt_br h (fun h => zt_br h (fun h => zt_br h (fun h => zt_lf zs_89 h) (fun h => zt_lf zs_90 h)) (fun h => zt_br h (fun h => zt_lf zs_91 h) (fun h => zt_lf zs_92 h))) (fun h => zt_br h (fun h => zt_br h (fun h => zt_lf zs_93 h) (fun h => zt_lf zs_94 h)) (fun h => zt_br h (fun h => zt_lf zs_95 h) (fun h => zt_br h (fun h => zt_lf zs_96 h) (fun h => zt_lf zs_97 h))))))) (fun h => zt_br h (fun h => zt_br h (fun h => zt_br h (fun h => zt_br h (fun h => zt_br h (fun h => zt_lf zs_98 h) (fun h => zt_lf zs_99 h)) (fun h => zt_br h (fun h => zt_lf zs_100 h) (fun h => zt_lf zs_101 h))) (fun h => zt_br h (fun h => zt_br h (fun h => zt_lf zs_102 h) (fun h => zt_lf zs_103 h)) (fun h => zt_br h (fun h => zt_lf zs_104 h) (fun h => zt_lf zs_105 h)))) (fun h => zt_br h (fun h => zt_br h (fun h => zt_br h (fun h => zt_lf zs_106 h) (fun h => zt_lf zs_107 h)) (fun h => zt_br h (fun h => zt_lf zs_108 h) (fun h => zt_lf zs_109 h))) (fun h => zt_br h (fun h => zt_br h (fun h => zt_lf zs_110 h) (fun h => zt_lf zs_111 h)) (fun h => zt_br h (fun h => zt_lf zs_112 h) (fun h => zt_lf zs_113 h))))) (fun h => zt_br h (fun h => zt_br h (fun h => zt_br h (fun h => zt_br h (fun h => zt_lf zs_114 h) (fun h => zt_lf zs_115 h)) (fun h => zt_br h (fun h => zt_lf zs_116 h) (fun h => zt_lf zs_117 h))) (fun h => zt_br h (fun h => zt_br h (fun h => zt_lf zs_118 h) (fun h => zt_lf zs_119 h)) (fun h => zt_br h (fun h => zt_lf zs_120 h) (fun h => zt_lf zs_121 h)))) (fun h => zt_br h (fun h => zt_br h (fun h => zt_br h (fun h => zt_lf zs_122 h) (fun h => zt_lf zs_123 h)) (fun h => zt_br h (fun h => zt_lf zs_124 h) (fun h => zt_lf zs_125 h))) (fun h => zt_br h (fun h => zt_br h (fun h => zt_lf zs_126 h) (fun h => zt_lf zs_127 h)) (fun h => zt_br h (fun h => zt_lf zs_128 h) (fun h => zt_br h (fun h => zt_lf zs_129 h) (fun h => zt_lf zs_130 h))))))))) (fun h => zt_br h (fun h => zt_br h (fun h => zt_br h (fun h => zt_br h (fun h => zt_br h (fun h => zt_br h (fun h => zt_br h (fun h => zt_lf zs_131 h) (fun h => zt_lf zs_132 h)) (fun h => zt_br h (fun h => zt_lf zs_133 h) (fun h => zt_lf zs_134 h))) (fun h => zt_br h (fun h => zt_br h (fun h => zt_lf zs_135 h) (fun h => zt_lf zs_136 h)) (fun h => zt_br h (fun h => zt_lf zs_137 h) (fun h => zt_lf zs_138 h)))) (fun h => zt_br h (fun h => zt_br h (fun h => zt_br h (fun h => zt_lf zs_139 h) (fun h => zt_lf zs_140 h)) (fun h => zt_br h (fun h => zt_lf zs_141 h) (fun h => zt_lf zs_142 h))) (fun h => zt_br h (fun h => zt_br h (fun h => zt_lf zs_143 h) (fun h => zt_lf zs_144 h)) (fun h => zt_br h (fun h => zt_lf zs_145 h) (fun h => zt_lf zs_146 h))))) (fun h => zt_br h (fun h => zt_br h (fun h => zt_br h (fun h => zt_br h (fun h => zt_lf zs_147 h) (fun h => zt_lf zs_148 h)) (fun h => zt_br h (fun h => zt_lf zs_149 h) (fun h => zt_lf zs_150 h))) (fun h => zt_br h (fun h => zt_br h (fun h => zt_lf zs_151 h) (fun h => zt_lf zs_152 h)) (fun h => zt_br h (fun h => zt_lf zs_153 h) (fun h => zt_lf zs_154 h)))) (fun h => zt_br h (fun h => zt_br h (fun h => zt_br h (fun h => zt_lf zs_155 h) (fun h => zt_lf zs_156 h)) (fun h => zt_br h (fun h => zt_lf zs_157 h) (fun h => zt_lf zs_158 h))) (fun h => zt_br h (fun h => zt_br h (fun h => zt_lf zs_159 h) (fun h => zt_lf zs_160 h)) (fun h => zt_br h (fun h => zt_lf zs_161 h) (fun h => zt_lf zs_162 h)))))) (fun h => zt_br h (fun h => zt_br h (fun h => zt_br h (fun h => zt_br h (fun h => zt_br h (fun h => zt_lf zs_163 h) (fun h => zt_lf zs_164 h)) (fun h => zt_br h (fun h => zt_lf zs_165 h) (fun h => zt_lf zs_166 h))) (fun h => zt_br h (fun h => zt_br h (fun h => zt_lf zs_167 h) (fun h => zt_lf zs_168 h)) (fun h => zt_br h (fun h => zt_lf zs_169 h) (fun h => zt_lf zs_170 h)))) (fun h => zt_br h (fun h => zt_br h (fun h => zt_br h (fun h => zt_lf zs_171 h) (fun h => zt_lf zs_172 h)) (fun h => zt_br h (fun h => zt_lf zs_173 h) (fun h => zt_lf zs_174 h))) (fun h => zt_br h (fun h => zt_br h (fun h => zt_lf zs_175 h) (fun h => zt_lf zs_176 h)) (fun h => zt_br h (fun h => zt_lf zs_177 h) (fun h => zt_lf zs_178 h))))) (fun h => zt_br h (fun h => zt_br h (fun h => zt_br h (fun h => zt_br h (fun h => zt_lf zs_179 h) (fun h => zt_lf zs_180 h)) (fun h => zt_br h (fun h => zt_lf zs_181 h) (fun h => zt_lf zs_182 h))) (fun h => zt_br h (fun h => zt_br h (fun h => zt_lf zs_183 h) (fun h => zt_lf zs_184 h)) (fun h => zt_br h (fun h => zt_lf zs_185 h) (fun h => zt_lf zs_186 h)))) (fun h => zt_br h (fun h => zt_br h (fun h => zt_br h (fun h => zt_lf zs_187 h) (fun h => zt_lf zs_188 h)) (fun h => zt_br h (fun h => zt_lf zs_189 h) (fun h => zt_lf zs_190 h))) (fun h => zt_br h (fun h => zt_br h (fun h => zt_lf zs_191 h) (fun h => zt_lf zs_192 h)) (fun h => zt_br h (fun h => zt_lf zs_193 h) (fun h => zt_br h (fun h => zt_lf zs_194 h) (fun h => zt_lf zs_195 h)))))))) (fun h => zt_br h (fun h => zt_br h (fun h => zt_br h (fun h => zt_br h (fun h => zt_br h (fun h => zt_br h (fun h => zt_lf zs_196 h) (fun h => zt_lf zs_197 h)) (fun h => zt_br h (fun h => zt_lf zs_198 h) (fun h => zt_lf zs_199 h))) (fun h => zt_br h (fun h => zt_br h (fun h => zt_lf zs_200 h) (fun h => zt_lf zs_201 h)) (fun h => zt_br h (fun h => zt_lf zs_202 h) (fun h => zt_lf zs_203 h)))) (fun h => zt_br h (fun h => zt_br h (fun h => zt_br h (fun h => zt_lf zs_204 h) (fun h => zt_lf zs_205 h)) (fun h => zt_br h (fun h => zt_lf zs_206 h) (fun h => zt_lf zs_207 h))) (fun h => zt_br h (fun h => zt_br h (fun h => zt_lf zs_208 h) (fun h => zt_lf zs_209 h)) (fun h => zt_br h (fun h => zt_lf zs_210 h) (fun h => zt_lf zs_211 h))))) (fun h => zt_br h (fun h => zt_br h (fun h => zt_br h (fun h => zt_br h (fun h => zt_lf zs_212 h) (fun h => zt_lf zs_213 h)) (fun h => zt_br h (fun h => zt_lf zs_214 h) (fun h => zt_lf zs_215 h))) (fun h => zt_br h (fun h => zt_br h (fun h => zt_lf zs_216 h) (fun h => zt_lf zs_217 h)) (fun h => zt_br h (fun h => zt_lf zs_218 h) (fun h => zt_lf zs_219 h)))) (fun h => zt_br h (fun h => zt_br h (fun h => zt_br h (fun h => zt_lf zs_220 h) (fun h => zt_lf zs_221 h)) (fun h => zt_br h (fun h => zt_lf zs_222 h) (fun h => zt_lf zs_223 h))) (fun h => zt_br h (fun h => zt_br h (fun h => zt_lf zs_224 h) (fun h => zt_lf zs_225 h)) (fun h => zt_br h (fun h => zt_lf zs_226 h) (fun h => zt_br h (fun h => zt_lf zs_227 h) (fun h => zt_lf zs_228 h))))))) (fun h => zt_br h (fun h => zt_br h (fun h => zt_br h (fun h => zt_br h (fun h => zt_br h (fun h => zt_lf zs_229 h) (fun h => zt_lf zs_230 h)) (fun h => zt_br h (fun h => zt_lf zs_231 h) (fun h => zt_lf zs_232 h))) (fun h => zt_br h (fun h => zt_br h (fun h => zt_lf zs_233 h) (fun h => zt_lf zs_234 h)) (fun h => zt_br h (fun h => zt_lf zs_235 h) (fun h => zt_lf zs_236 h)))) (fun h => zt_br h (fun h => zt_br h (fun h => zt_br h (fun h => zt_lf zs_237 h) (fun h => zt_lf zs_238 h)) (fun h => zt_br h (fun h => zt_lf zs_239 h) (fun h => zt_lf zs_240 h))) (fun h => zt_br h (fun h => zt_br h (fun h => zt_lf zs_241 h) (fun h => zt_lf zs_242 h)) (fun h => zt_br h (fun h => zt_lf zs_243 h) (fun h => zt_lf zs_244 h))))) (fun h => zt_br h (fun h => zt_br h (fun h => zt_br h (fun h => zt_br h (fun h => zt_lf zs_245 h) (fun h => zt_lf zs_246 h)) (fun h => zt_br h (fun h => zt_lf zs_247 h) (fun h => zt_lf zs_248 h))) (fun h => zt_br h (fun h => zt_br h (fun h => zt_lf zs_249 h) (fun h => zt_lf zs_250 h)) (fun h => zt_br h (fun h => zt_lf zs_251 h) (fun h => zt_lf zs_252 h)))) (fun h => zt_br h (fun h => zt_br h (fun h => zt_br h (fun h => zt_lf zs_253 h) (fun h => zt_lf zs_254 h)) (fun h => zt_br h (fun h => zt_lf zs_255 h) (fun h => zt_lf zs_256 h))) (fun h => zt_br h (fun h => zt_br h (fun h => zt_lf zs_257 h) (fun h => zt_lf zs_258 h)) (fun h => zt_br h (fun h => zt_lf zs_259 h) (fun h => zt_br h (fun h => zt_lf zs_260 h) (fun h => zt_lf zs_261 h))))))))))
end ZCB
