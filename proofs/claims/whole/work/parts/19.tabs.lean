/-! THE TABLE of methods and of links: what each is held by among the words of the tables (by program) -/
section ZTB
abbrev zMt : Type := MethodName × ByteArray × Nat × Nat × String
def zrt (mr : Nat) : Option FieldType := match mr with
  | 0 => none
  | 1 => some .int
  | 2 => some .long
  | _ => some .boolean
def zTs : List Cond := lw_tbl.filter goodWord
theorem zTs_mem {w : Cond} (h : w ∈ lw_tbl) (hg : goodWord w = true) : w ∈ zTs := List.mem_filter.mpr ⟨h, hg⟩
theorem tm0 {w : Cond} (i : Nat) (h : (k2_sels lw_privs)[i]? = some w) (hg : goodWord w = true) : w ∈ zTs := zTs_mem (List.mem_append_left _ (List.mem_of_getElem? h)) hg
theorem tmr {w : Cond} (h : w ∈ tables_1) (hg : goodWord w = true) : w ∈ zTs := zTs_mem (List.mem_append_right _ h) hg
theorem tm1 {w : Cond} (i : Nat) (h : tables_1_1[i]? = some w) (hg : goodWord w = true) : w ∈ zTs := tmr (List.mem_append_left _ (List.mem_of_getElem? h)) hg
theorem tm2 {w : Cond} (i : Nat) (h : tables_1_2[i]? = some w) (hg : goodWord w = true) : w ∈ zTs := tmr (List.mem_append_right _ (List.mem_append_left _ (List.mem_of_getElem? h))) hg
theorem tm3 {w : Cond} (i : Nat) (h : tables_1_3[i]? = some w) (hg : goodWord w = true) : w ∈ zTs := tmr (List.mem_append_right _ (List.mem_append_right _ (List.mem_append_left _ (List.mem_of_getElem? h)))) hg
theorem tm4 {w : Cond} (i : Nat) (h : tables_1_4[i]? = some w) (hg : goodWord w = true) : w ∈ zTs := tmr (List.mem_append_right _ (List.mem_append_right _ (List.mem_append_right _ (List.mem_append_left _ (List.mem_of_getElem? h))))) hg
theorem tm5 {w : Cond} (i : Nat) (h : tables_1_5[i]? = some w) (hg : goodWord w = true) : w ∈ zTs := tmr (List.mem_append_right _ (List.mem_append_right _ (List.mem_append_right _ (List.mem_append_right _ (List.mem_append_left _ (List.mem_of_getElem? h)))))) hg
theorem tm6 {w : Cond} (i : Nat) (h : tables_1_6[i]? = some w) (hg : goodWord w = true) : w ∈ zTs := tmr (List.mem_append_right _ (List.mem_append_right _ (List.mem_append_right _ (List.mem_append_right _ (List.mem_append_right _ (List.mem_append_left _ (List.mem_of_getElem? h))))))) hg
theorem tm7 {w : Cond} (i : Nat) (h : tables_1_7[i]? = some w) (hg : goodWord w = true) : w ∈ zTs := tmr (List.mem_append_right _ (List.mem_append_right _ (List.mem_append_right _ (List.mem_append_right _ (List.mem_append_right _ (List.mem_append_right _ (List.mem_append_left _ (List.mem_of_getElem? h)))))))) hg
theorem tm8 {w : Cond} (i : Nat) (h : tables_1_8[i]? = some w) (hg : goodWord w = true) : w ∈ zTs := tmr (List.mem_append_right _ (List.mem_append_right _ (List.mem_append_right _ (List.mem_append_right _ (List.mem_append_right _ (List.mem_append_right _ (List.mem_append_right _ (List.mem_of_getElem? h)))))))) hg
theorem u_ws_nil {C : String} {T : u_T} : ∀ w ∈ u_ws C T 0, w ∈ zTs := fun _ h => by cases h
theorem u_ws_succ {C : String} {T : u_T} {N : Nat} (h : ∀ w ∈ u_ws C T N, w ∈ zTs) (h1 : u_lay C T N ∈ zTs) : ∀ w ∈ u_ws C T (N + 1), w ∈ zTs := by
  intro w hw
  unfold u_ws at hw h
  rw [List.range_succ, List.map_append] at hw
  rcases List.mem_append.mp hw with hw | hw
  · exact h w hw
  · rw [List.map_singleton, List.mem_singleton] at hw
    rw [hw]; exact h1
def zws (M : zMt) : List Cond := .code M.1 M.2.1 M.2.2.1 (zrt M.2.2.2.1) :: zTs
def zroom (r : Nat) : Room := { frames := r + 1, cells := 0, slots := 0, locals := 64 * (r + 1) }
def zMok (M : zMt) : Prop := plainName M.1.cls = true ∧ M.1.cls ≠ "java/lang/invoke/MethodHandle" ∧ M.1.cls ≠ "java/lang/invoke/VarHandle" ∧ Cond.code M.1 M.2.1 M.2.2.1 (zrt M.2.2.2.1) ∈ zTs ∧ Cond.initialized M.1.cls ∈ zTs ∧ M.2.2.1 ≤ 40 ∧ M.1.cls = M.2.2.2.2
def znp (y : MethodName) : Option Nat := (parseMethodDescriptor y.desc).map (fun d => d.parameters.length)
/-- what a method's link is held by: which, how many arguments, its answer, the receiver's class and 1 -/
def zLM (own : String) (idx : Nat) (M : zMt) (b c d : Nat) : Prop := M.2.2.2.1 = c ∧ Cond.methodLink own idx M.1 ∈ zTs ∧ match d with
  | 0 => Cond.static M.1 ∈ zTs ∧ znp M.1 = some b
  | d + 1 => Cond.instanceMethod M.1 ∈ zTs ∧ Cond.selects M.1.cls M.1 M.1 ∈ zTs ∧ (vwCl[d]?).map (fun q => q.1) = some M.1.cls ∧ (znp M.1).map (fun n => n + 1) = some b
/-- what a field's link is held by -/
def zfk (f : Nat) (fin : Bool) (ty : FieldType) : Prop := match f with
  | 0 => fin = false ∧ ty = .int
  | 1 => fin = false ∧ ty = .long
  | 2 => fin = false ∧ ty = .boolean
  | 3 => fin = false ∧ ∃ C, ty = .object C
  | _ => True
theorem zfk_0 {f : Nat} {fin : Bool} {ty : FieldType} (h : f = 0) (h1 : fin = false) (h2 : ty = .int) : zfk f fin ty := by subst h; exact ⟨h1, h2⟩
theorem zfk_1 {f : Nat} {fin : Bool} {ty : FieldType} (h : f = 1) (h1 : fin = false) (h2 : ty = .long) : zfk f fin ty := by subst h; exact ⟨h1, h2⟩
theorem zfk_2 {f : Nat} {fin : Bool} {ty : FieldType} (h : f = 2) (h1 : fin = false) (h2 : ty = .boolean) : zfk f fin ty := by subst h; exact ⟨h1, h2⟩
theorem zfk_3 {f : Nat} {fin : Bool} {ty : FieldType} (h : f = 3) (h1 : fin = false) (C : String) (h2 : ty = .object C) : zfk f fin ty := by subst h; exact ⟨h1, C, h2⟩
theorem zfk_4 {f : Nat} {fin : Bool} {ty : FieldType} (k : Nat) (h : f = 4 + k) : zfk f fin ty := by
  subst h
  rw [show 4 + k = k + 4 from Nat.add_comm 4 k]
  trivial
def zFL (Ts : List Cond) (own : String) (idx ci slot : Nat) : Prop := ∃ (C : String) (T : u_T) (N : Nat) (ty0 : Nat → FieldType), vwCl[ci]? = some (C, T, N) ∧ slot < N ∧ znf ci = N ∧ ci < 100 ∧ (∀ w ∈ u_ws C T N, w ∈ Ts) ∧ Cond.fieldLink own idx (T slot).1 (T slot).2.1 (T slot).2.2.1 ∈ Ts ∧
  (∀ k, k < N → parseFieldDescriptor (T k).2.2.1 = some (ty0 k)) ∧ (∀ a, a < N → ∀ b, b < N → a ≠ b → (T a).2.1 ≠ (T b).2.1) ∧ zfk (zfi ci slot).1 (T slot).2.2.2 (ty0 slot)
def zmt (mid : Nat) : zMt := cond (Nat.blt mid 131) (cond (Nat.blt mid 65) (cond (Nat.blt mid 32) (cond (Nat.blt mid 16) (cond (Nat.blt mid 8) (cond (Nat.blt mid 4) (cond (Nat.blt mid 2) (cond (Nat.blt mid 1) ((yX0_clear, cX0_clear, 1, 0, RX0)) ((yX0_keep, cX0_keep, 2, 0, RX0))) (cond (Nat.blt mid 3) ((yX0_forgetOldest, cX0_forgetOldest, 3, 0, RX0)) ((yX0_giveBack, cX0_giveBack, 2, 3, RX0)))) (cond (Nat.blt mid 6) (cond (Nat.blt mid 5) ((yX1_clear, cX1_clear, 1, 0, RX1)) ((yX1_copyFrom, cX1_copyFrom, 2, 0, RX1))) (cond (Nat.blt mid 7) ((yX1_hasTerm, cX1_hasTerm, 2, 3, RX1)) ((yX1_hasReach, cX1_hasReach, 2, 3, RX1))))) (cond (Nat.blt mid 12) (cond (Nat.blt mid 10) (cond (Nat.blt mid 9) ((yX1_hasPlace, cX1_hasPlace, 3, 3, RX1)) ((yX1_hasEditor, cX1_hasEditor, 2, 3, RX1))) (cond (Nat.blt mid 11) ((yX1_hasTown, cX1_hasTown, 2, 3, RX1)) ((yX1_addTerm, cX1_addTerm, 4, 0, RX1)))) (cond (Nat.blt mid 14) (cond (Nat.blt mid 13) ((yX1_addReach, cX1_addReach, 5, 0, RX1)) ((yX1_addSaid, cX1_addSaid, 3, 0, RX1))) (cond (Nat.blt mid 15) ((yX1_addEditor, cX1_addEditor, 6, 0, RX1)) ((yX1_addChange, cX1_addChange, 4, 0, RX1)))))) (cond (Nat.blt mid 24) (cond (Nat.blt mid 20) (cond (Nat.blt mid 18) (cond (Nat.blt mid 17) ((yX1_addTown, cX1_addTown, 5, 0, RX1)) ((yX1_addTaste, cX1_addTaste, 3, 0, RX1))) (cond (Nat.blt mid 19) ((yX1_madeBy, cX1_madeBy, 3, 1, RX1)) ((yX1_likes, cX1_likes, 3, 3, RX1)))) (cond (Nat.blt mid 22) (cond (Nat.blt mid 21) ((yX1_saidOn, cX1_saidOn, 4, 1, RX1)) ((yX1_editorOn, cX1_editorOn, 4, 1, RX1))) (cond (Nat.blt mid 23) ((yX1_ownTown, cX1_ownTown, 5, 1, RX1)) ((yX1_daysBetween, cX1_daysBetween, 8, 1, RX1))))) (cond (Nat.blt mid 28) (cond (Nat.blt mid 26) (cond (Nat.blt mid 25) ((yX1_reachesAbove, cX1_reachesAbove, 4, 1, RX1)) ((yX1_oneSource, cX1_oneSource, 5, 1, RX1))) (cond (Nat.blt mid 27) ((yX1_arrival, cX1_arrival, 7, 1, RX1)) ((yX1_afterEditors, cX1_afterEditors, 8, 1, RX1)))) (cond (Nat.blt mid 30) (cond (Nat.blt mid 29) ((yX2_readInto, cX2_readInto, 3, 3, RX2)) ((yX2_readLine, cX2_readLine, 1, 3, RX2))) (cond (Nat.blt mid 31) ((yX2_begins, cX2_begins, 3, 3, RX2)) ((yX2_readNewName, cX2_readNewName, 1, 3, RX2))))))) (cond (Nat.blt mid 48) (cond (Nat.blt mid 40) (cond (Nat.blt mid 36) (cond (Nat.blt mid 34) (cond (Nat.blt mid 33) ((yX2_readNewNameOnReach, cX2_readNewNameOnReach, 1, 3, RX2)) ((yX2_readTerm, cX2_readTerm, 2, 3, RX2))) (cond (Nat.blt mid 35) ((yX2_readReach, cX2_readReach, 3, 3, RX2)) ((yX2_readSays, cX2_readSays, 4, 3, RX2)))) (cond (Nat.blt mid 38) (cond (Nat.blt mid 37) ((yX2_readEditor, cX2_readEditor, 1, 3, RX2)) ((yX2_readWhoAndTerm, cX2_readWhoAndTerm, 2, 3, RX2))) (cond (Nat.blt mid 39) ((yX2_readChange, cX2_readChange, 3, 3, RX2)) ((yX2_readTown, cX2_readTown, 1, 3, RX2))))) (cond (Nat.blt mid 44) (cond (Nat.blt mid 42) (cond (Nat.blt mid 41) ((yX2_readTaste, cX2_readTaste, 1, 3, RX2)) ((yX3_readFrom, cX3_readFrom, 4, 3, RX3))) (cond (Nat.blt mid 43) ((yX3_readLine, cX3_readLine, 7, 3, RX3)) ((yX3_readDays, cX3_readDays, 2, 3, RX3)))) (cond (Nat.blt mid 46) (cond (Nat.blt mid 45) ((yX3_readReads, cX3_readReads, 5, 3, RX3)) ((yX3_readAwake, cX3_readAwake, 3, 3, RX3))) (cond (Nat.blt mid 47) ((yX3_add, cX3_add, 5, 3, RX3)) ((yX3_judge, cX3_judge, 5, 1, RX3)))))) (cond (Nat.blt mid 56) (cond (Nat.blt mid 52) (cond (Nat.blt mid 50) (cond (Nat.blt mid 49) ((yX3_live, cX3_live, 5, 1, RX3)) ((yX3_tell, cX3_tell, 2, 1, RX3))) (cond (Nat.blt mid 51) ((yX4_begin, cX4_begin, 2, 0, RX4)) ((yX4_draw, cX4_draw, 2, 1, RX4)))) (cond (Nat.blt mid 54) (cond (Nat.blt mid 53) ((yX6_find, cX6_find, 4, 1, RX6)) ((yX6_add, cX6_add, 5, 0, RX6))) (cond (Nat.blt mid 55) ((yX6_copyFrom, cX6_copyFrom, 2, 0, RX6)) ((yX7_clear, cX7_clear, 1, 0, RX7))))) (cond (Nat.blt mid 60) (cond (Nat.blt mid 58) (cond (Nat.blt mid 57) ((yX7_copyFrom, cX7_copyFrom, 2, 0, RX7)) ((yX7_readFrom, cX7_readFrom, 3, 3, RX7))) (cond (Nat.blt mid 59) ((yX7_readCond, cX7_readCond, 6, 3, RX7)) ((yX7_readAll, cX7_readAll, 6, 3, RX7)))) (cond (Nat.blt mid 62) (cond (Nat.blt mid 61) ((yX7_readOne, cX7_readOne, 6, 3, RX7)) ((yX7_beginsOne, cX7_beginsOne, 1, 3, RX7))) (cond (Nat.blt mid 63) ((yX7_addNamed, cX7_addNamed, 4, 3, RX7)) (cond (Nat.blt mid 64) ((yX7_readMeasure, cX7_readMeasure, 4, 3, RX7)) ((yX7_add, cX7_add, 4, 3, RX7))))))))) (cond (Nat.blt mid 98) (cond (Nat.blt mid 81) (cond (Nat.blt mid 73) (cond (Nat.blt mid 69) (cond (Nat.blt mid 67) (cond (Nat.blt mid 66) ((yX7_holdsOf, cX7_holdsOf, 7, 3, RX7)) ((yX7_isSo, cX7_isSo, 5, 3, RX7))) (cond (Nat.blt mid 68) ((yX7_compares, cX7_compares, 3, 3, RX7)) ((yX8_begin, cX8_begin, 2, 0, RX8)))) (cond (Nat.blt mid 71) (cond (Nat.blt mid 70) ((yX8_copyFrom, cX8_copyFrom, 2, 0, RX8)) ((yX8_daysLeft, cX8_daysLeft, 1, 1, RX8))) (cond (Nat.blt mid 72) ((yX8_isAwake, cX8_isAwake, 2, 3, RX8)) ((yX8_toggle, cX8_toggle, 2, 0, RX8))))) (cond (Nat.blt mid 77) (cond (Nat.blt mid 75) (cond (Nat.blt mid 74) ((yX8_onTheirWay, cX8_onTheirWay, 6, 1, RX8)) ((yX8_cellOf, cX8_cellOf, 6, 1, RX8))) (cond (Nat.blt mid 76) ((yX8_termAt, cX8_termAt, 4, 1, RX8)) ((yX8_put, cX8_put, 5, 0, RX8)))) (cond (Nat.blt mid 79) (cond (Nat.blt mid 78) ((yX8_readOn, cX8_readOn, 3, 1, RX8)) ((yX8_pass, cX8_pass, 5, 0, RX8))) (cond (Nat.blt mid 80) ((yX8_passDrawnDay, cX8_passDrawnDay, 6, 0, RX8)) ((yX8_passDay, cX8_passDay, 5, 0, RX8)))))) (cond (Nat.blt mid 89) (cond (Nat.blt mid 85) (cond (Nat.blt mid 83) (cond (Nat.blt mid 82) ((yX8_carry, cX8_carry, 5, 0, RX8)) ((yX8_edit, cX8_edit, 6, 0, RX8))) (cond (Nat.blt mid 84) ((yX8_readInTowns, cX8_readInTowns, 6, 0, RX8)) ((yX8_noteTerm, cX8_noteTerm, 5, 0, RX8)))) (cond (Nat.blt mid 87) (cond (Nat.blt mid 86) ((yX8_goOnSaying, cX8_goOnSaying, 5, 0, RX8)) ((yX9_take, cX9_take, 3, 0, RX9))) (cond (Nat.blt mid 88) ((yX9_termOf, cX9_termOf, 2, 1, RX9)) ((yX9_open, cX9_open, 2, 0, RX9))))) (cond (Nat.blt mid 93) (cond (Nat.blt mid 91) (cond (Nat.blt mid 90) ((yX9_advance, cX9_advance, 2, 0, RX9)) ((yX9_scanToken, cX9_scanToken, 5, 0, RX9))) (cond (Nat.blt mid 92) ((yX9_findKey, cX9_findKey, 2, 0, RX9)) ((yX9_fail, cX9_fail, 2, 3, RX9)))) (cond (Nat.blt mid 95) (cond (Nat.blt mid 94) ((yX9_passes, cX9_passes, 2, 3, RX9)) ((yX9_isName, cX9_isName, 1, 3, RX9))) (cond (Nat.blt mid 96) ((yX9_isNewName, cX9_isNewName, 2, 3, RX9)) (cond (Nat.blt mid 97) ((yX9_toldName, cX9_toldName, 4, 1, RX9)) ((yX9_isNumber, cX9_isNumber, 3, 3, RX9)))))))) (cond (Nat.blt mid 114) (cond (Nat.blt mid 106) (cond (Nat.blt mid 102) (cond (Nat.blt mid 100) (cond (Nat.blt mid 99) ((yX10_feed, cX10_feed, 6, 1, RX10)) ((yX10_end, cX10_end, 2, 3, RX10))) (cond (Nat.blt mid 101) ((yX10_country, cX10_country, 3, 1, RX10)) ((yX10_fault, cX10_fault, 1, 1, RX10)))) (cond (Nat.blt mid 104) (cond (Nat.blt mid 103) ((yX10_term, cX10_term, 2, 1, RX10)) ((yX10_reach, cX10_reach, 3, 1, RX10))) (cond (Nat.blt mid 105) ((yX10_editor, cX10_editor, 3, 1, RX10)) ((yX10_makes, cX10_makes, 3, 1, RX10))))) (cond (Nat.blt mid 110) (cond (Nat.blt mid 108) (cond (Nat.blt mid 107) ((yX10_now, cX10_now, 2, 1, RX10)) ((yX10_days, cX10_days, 3, 1, RX10))) (cond (Nat.blt mid 109) ((yX10_wake, cX10_wake, 3, 3, RX10)) ((yX10_stone, cX10_stone, 4, 3, RX10)))) (cond (Nat.blt mid 112) (cond (Nat.blt mid 111) ((yX10_undo, cX10_undo, 1, 1, RX10)) ((yX10_well, cX10_well, 3, 1, RX10))) (cond (Nat.blt mid 113) ((yX10_sense, cX10_sense, 2, 1, RX10)) ((yX10_sayings, cX10_sayings, 2, 1, RX10)))))) (cond (Nat.blt mid 122) (cond (Nat.blt mid 118) (cond (Nat.blt mid 116) (cond (Nat.blt mid 115) ((yX10_flows, cX10_flows, 4, 1, RX10)) ((yX10_above, cX10_above, 2, 1, RX10))) (cond (Nat.blt mid 117) ((yX10_source, cX10_source, 2, 1, RX10)) ((yX10_comes, cX10_comes, 3, 1, RX10)))) (cond (Nat.blt mid 120) (cond (Nat.blt mid 119) ((yX10_saying, cX10_saying, 6, 2, RX10)) ((yX10_saidAt, cX10_saidAt, 2, 1, RX10))) (cond (Nat.blt mid 121) ((yX10_wish, cX10_wish, 8, 1, RX10)) ((yX10_rests, cX10_rests, 6, 1, RX10))))) (cond (Nat.blt mid 126) (cond (Nat.blt mid 124) (cond (Nat.blt mid 123) ((yX10_own, cX10_own, 2, 1, RX10)) ((yX10_liked, cX10_liked, 4, 1, RX10))) (cond (Nat.blt mid 125) ((yX10_sure, cX10_sure, 2, 1, RX10)) ((yX10_most, cX10_most, 5, 1, RX10)))) (cond (Nat.blt mid 128) (cond (Nat.blt mid 127) ((yX10_when, cX10_when, 6, 1, RX10)) ((yX10_clashes, cX10_clashes, 2, 1, RX10))) (cond (Nat.blt mid 129) ((yX10_unlike, cX10_unlike, 6, 1, RX10)) (cond (Nat.blt mid 130) ((yX10_drawn, cX10_drawn, 5, 1, RX10)) ((yX10_stones, cX10_stones, 1, 1, RX10)))))))))) (cond (Nat.blt mid 196) (cond (Nat.blt mid 163) (cond (Nat.blt mid 147) (cond (Nat.blt mid 139) (cond (Nat.blt mid 135) (cond (Nat.blt mid 133) (cond (Nat.blt mid 132) ((yX10_odds, cX10_odds, 6, 1, RX10)) ((yX10_daybook, cX10_daybook, 4, 1, RX10))) (cond (Nat.blt mid 134) ((yX10_booked, cX10_booked, 2, 1, RX10)) ((yX10_sentence, cX10_sentence, 3, 1, RX10)))) (cond (Nat.blt mid 137) (cond (Nat.blt mid 136) ((yX10_said, cX10_said, 4, 1, RX10)) ((yX10_image, cX10_image, 3, 3, RX10))) (cond (Nat.blt mid 138) ((yX10_restore, cX10_restore, 3, 3, RX10)) ((yX10_count, cX10_count, 2, 1, RX10))))) (cond (Nat.blt mid 143) (cond (Nat.blt mid 141) (cond (Nat.blt mid 140) ((yX10_isWithin, cX10_isWithin, 2, 3, RX10)) ((yX10_sumOf, cX10_sumOf, 6, 1, RX10))) (cond (Nat.blt mid 142) ((yX10_takeRow, cX10_takeRow, 5, 1, RX10)) ((yX10_fillArrivals, cX10_fillArrivals, 3, 0, RX10)))) (cond (Nat.blt mid 145) (cond (Nat.blt mid 144) ((yX10_countOf, cX10_countOf, 4, 1, RX10)) ((yX10_leastFor, cX10_leastFor, 3, 1, RX10))) (cond (Nat.blt mid 146) ((yX10_keepFirstWay, cX10_keepFirstWay, 3, 0, RX10)) ((yX10_tryDays, cX10_tryDays, 3, 0, RX10)))))) (cond (Nat.blt mid 155) (cond (Nat.blt mid 151) (cond (Nat.blt mid 149) (cond (Nat.blt mid 148) ((yX10_fillGains, cX10_fillGains, 5, 0, RX10)) ((yX10_isRest, cX10_isRest, 4, 3, RX10))) (cond (Nat.blt mid 150) ((yX10_staysSensible, cX10_staysSensible, 5, 3, RX10)) ((yX11_thrown, cX11_thrown, 1, 1, RX11)))) (cond (Nat.blt mid 153) (cond (Nat.blt mid 152) ((yX11_throwsIf, cX11_throwsIf, 2, 3, RX11)) ((yX11_feed, cX11_feed, 6, 1, RX11))) (cond (Nat.blt mid 154) ((yX11_four, cX11_four, 3, 0, RX11)) ((yX11_end, cX11_end, 2, 3, RX11))))) (cond (Nat.blt mid 159) (cond (Nat.blt mid 157) (cond (Nat.blt mid 156) ((yX11_taken, cX11_taken, 2, 0, RX11)) ((yX11_isIn, cX11_isIn, 3, 3, RX11))) (cond (Nat.blt mid 158) ((yX11_bitOf, cX11_bitOf, 2, 3, RX11)) ((yX11_octet, cX11_octet, 2, 1, RX11)))) (cond (Nat.blt mid 161) (cond (Nat.blt mid 160) ((yX11_peek, cX11_peek, 1, 1, RX11)) ((yX11_isSmall, cX11_isSmall, 1, 3, RX11))) (cond (Nat.blt mid 162) ((yX11_isDigit, cX11_isDigit, 1, 3, RX11)) ((yX11_next, cX11_next, 4, 0, RX11))))))) (cond (Nat.blt mid 179) (cond (Nat.blt mid 171) (cond (Nat.blt mid 167) (cond (Nat.blt mid 165) (cond (Nat.blt mid 164) ((yX11_bad, cX11_bad, 2, 3, RX11)) ((yX11_isWord, cX11_isWord, 3, 3, RX11))) (cond (Nat.blt mid 166) ((yX11_isSign, cX11_isSign, 2, 3, RX11)) ((yX11_sign, cX11_sign, 2, 3, RX11)))) (cond (Nat.blt mid 169) (cond (Nat.blt mid 168) ((yX11_isName, cX11_isName, 3, 3, RX11)) ((yX11_takes, cX11_takes, 3, 3, RX11))) (cond (Nat.blt mid 170) ((yX11_find, cX11_find, 4, 1, RX11)) ((yX11_fresh, cX11_fresh, 2, 3, RX11))))) (cond (Nat.blt mid 175) (cond (Nat.blt mid 173) (cond (Nat.blt mid 172) ((yX11_looksAt, cX11_looksAt, 3, 3, RX11)) ((yX11_looksAtTerm, cX11_looksAtTerm, 1, 3, RX11))) (cond (Nat.blt mid 174) ((yX11_looksAtReach, cX11_looksAtReach, 1, 3, RX11)) ((yX11_sortOf, cX11_sortOf, 1, 1, RX11)))) (cond (Nat.blt mid 177) (cond (Nat.blt mid 176) ((yX11_line, cX11_line, 3, 3, RX11)) ((yX11_readReach, cX11_readReach, 2, 3, RX11))) (cond (Nat.blt mid 178) ((yX11_readSays, cX11_readSays, 3, 3, RX11)) ((yX11_readAt, cX11_readAt, 9, 3, RX11)))))) (cond (Nat.blt mid 187) (cond (Nat.blt mid 183) (cond (Nat.blt mid 181) (cond (Nat.blt mid 180) ((yX11_readRule, cX11_readRule, 5, 3, RX11)) ((yX11_country, cX11_country, 2, 1, RX11))) (cond (Nat.blt mid 182) ((yX11_fault, cX11_fault, 1, 1, RX11)) ((yX11_isTerm, cX11_isTerm, 2, 3, RX11)))) (cond (Nat.blt mid 185) (cond (Nat.blt mid 184) ((yX11_isReach, cX11_isReach, 2, 3, RX11)) ((yX11_isEditor, cX11_isEditor, 2, 3, RX11))) (cond (Nat.blt mid 186) ((yX11_isTown, cX11_isTown, 2, 3, RX11)) ((yX11_isPlace, cX11_isPlace, 3, 3, RX11))))) (cond (Nat.blt mid 191) (cond (Nat.blt mid 189) (cond (Nat.blt mid 188) ((yX11_term, cX11_term, 2, 1, RX11)) ((yX11_saysOn, cX11_saysOn, 3, 1, RX11))) (cond (Nat.blt mid 190) ((yX11_reach, cX11_reach, 3, 1, RX11)) ((yX11_at, cX11_at, 3, 1, RX11)))) (cond (Nat.blt mid 193) (cond (Nat.blt mid 192) ((yX11_editor, cX11_editor, 3, 1, RX11)) ((yX11_madeOf, cX11_madeOf, 4, 1, RX11))) (cond (Nat.blt mid 194) ((yX11_makes, cX11_makes, 3, 1, RX11)) (cond (Nat.blt mid 195) ((yX11_wellOf, cX11_wellOf, 3, 1, RX11)) ((yX11_wordsOf, cX11_wordsOf, 7, 1, RX11))))))))) (cond (Nat.blt mid 229) (cond (Nat.blt mid 212) (cond (Nat.blt mid 204) (cond (Nat.blt mid 200) (cond (Nat.blt mid 198) (cond (Nat.blt mid 197) ((yX11_lastOf, cX11_lastOf, 2, 1, RX11)) ((yX11_town, cX11_town, 4, 1, RX11))) (cond (Nat.blt mid 199) ((yX11_now, cX11_now, 4, 1, RX11)) ((yX11_comesTo, cX11_comesTo, 5, 1, RX11)))) (cond (Nat.blt mid 202) (cond (Nat.blt mid 201) ((yX11_edits, cX11_edits, 4, 0, RX11)) ((yX11_day, cX11_day, 4, 0, RX11))) (cond (Nat.blt mid 203) ((yX11_goes, cX11_goes, 3, 1, RX11)) ((yX11_days, cX11_days, 2, 1, RX11))))) (cond (Nat.blt mid 208) (cond (Nat.blt mid 206) (cond (Nat.blt mid 205) ((yX11_wake, cX11_wake, 3, 3, RX11)) ((yX11_stone, cX11_stone, 4, 3, RX11))) (cond (Nat.blt mid 207) ((yX11_keep, cX11_keep, 2, 0, RX11)) ((yX11_undo, cX11_undo, 2, 1, RX11)))) (cond (Nat.blt mid 210) (cond (Nat.blt mid 209) ((yX11_tries, cX11_tries, 2, 0, RX11)) ((yX11_back, cX11_back, 2, 0, RX11))) (cond (Nat.blt mid 211) ((yX11_well, cX11_well, 3, 1, RX11)) ((yX11_behind, cX11_behind, 3, 1, RX11)))))) (cond (Nat.blt mid 220) (cond (Nat.blt mid 216) (cond (Nat.blt mid 214) (cond (Nat.blt mid 213) ((yX11_senseOf, cX11_senseOf, 5, 1, RX11)) ((yX11_sense, cX11_sense, 2, 1, RX11))) (cond (Nat.blt mid 215) ((yX11_sayings, cX11_sayings, 2, 1, RX11)) ((yX11_flows, cX11_flows, 6, 1, RX11)))) (cond (Nat.blt mid 218) (cond (Nat.blt mid 217) ((yX11_aboveOf, cX11_aboveOf, 5, 1, RX11)) ((yX11_above, cX11_above, 2, 1, RX11))) (cond (Nat.blt mid 219) ((yX11_sourceOf, cX11_sourceOf, 6, 1, RX11)) ((yX11_source, cX11_source, 2, 1, RX11))))) (cond (Nat.blt mid 224) (cond (Nat.blt mid 222) (cond (Nat.blt mid 221) ((yX11_madeAt, cX11_madeAt, 5, 1, RX11)) ((yX11_comesOf, cX11_comesOf, 7, 1, RX11))) (cond (Nat.blt mid 223) ((yX11_hasSource, cX11_hasSource, 2, 3, RX11)) ((yX11_comes, cX11_comes, 3, 1, RX11)))) (cond (Nat.blt mid 226) (cond (Nat.blt mid 225) ((yX11_termAt, cX11_termAt, 2, 1, RX11)) ((yX11_areTerms, cX11_areTerms, 3, 3, RX11))) (cond (Nat.blt mid 227) ((yX11_saying, cX11_saying, 7, 2, RX11)) (cond (Nat.blt mid 228) ((yX11_saidAt, cX11_saidAt, 2, 1, RX11)) ((yX11_wish, cX11_wish, 7, 1, RX11)))))))) (cond (Nat.blt mid 245) (cond (Nat.blt mid 237) (cond (Nat.blt mid 233) (cond (Nat.blt mid 231) (cond (Nat.blt mid 230) ((yX11_ownOf, cX11_ownOf, 4, 1, RX11)) ((yX11_own, cX11_own, 2, 1, RX11))) (cond (Nat.blt mid 232) ((yX11_likesBy, cX11_likesBy, 5, 0, RX11)) ((yX11_rests, cX11_rests, 7, 1, RX11)))) (cond (Nat.blt mid 235) (cond (Nat.blt mid 234) ((yX11_liked, cX11_liked, 4, 1, RX11)) ((yX11_sure, cX11_sure, 2, 1, RX11))) (cond (Nat.blt mid 236) ((yX11_most, cX11_most, 4, 1, RX11)) ((yX11_when, cX11_when, 6, 1, RX11))))) (cond (Nat.blt mid 241) (cond (Nat.blt mid 239) (cond (Nat.blt mid 238) ((yX11_clashes, cX11_clashes, 3, 1, RX11)) ((yX11_unlike, cX11_unlike, 6, 1, RX11))) (cond (Nat.blt mid 240) ((yX11_draw, cX11_draw, 2, 1, RX11)) ((yX11_draws, cX11_draws, 7, 1, RX11)))) (cond (Nat.blt mid 243) (cond (Nat.blt mid 242) ((yX11_drawn, cX11_drawn, 4, 1, RX11)) ((yX11_stones, cX11_stones, 1, 1, RX11))) (cond (Nat.blt mid 244) ((yX11_odds, cX11_odds, 6, 1, RX11)) ((yX11_bookLine, cX11_bookLine, 4, 3, RX11)))))) (cond (Nat.blt mid 253) (cond (Nat.blt mid 249) (cond (Nat.blt mid 247) (cond (Nat.blt mid 246) ((yX11_does, cX11_does, 4, 1, RX11)) ((yX11_daybook, cX11_daybook, 5, 1, RX11))) (cond (Nat.blt mid 248) ((yX11_booked, cX11_booked, 2, 1, RX11)) ((yX11_code, cX11_code, 4, 0, RX11)))) (cond (Nat.blt mid 251) (cond (Nat.blt mid 250) ((yX11_joins, cX11_joins, 2, 0, RX11)) ((yX11_nots, cX11_nots, 1, 0, RX11))) (cond (Nat.blt mid 252) ((yX11_leafOf, cX11_leafOf, 1, 1, RX11)) ((yX11_operand, cX11_operand, 5, 3, RX11))))) (cond (Nat.blt mid 257) (cond (Nat.blt mid 255) (cond (Nat.blt mid 254) ((yX11_behind_, cX11_behind_, 1, 3, RX11)) ((yX11_sentence, cX11_sentence, 3, 1, RX11))) (cond (Nat.blt mid 256) ((yX11_isLeaf, cX11_isLeaf, 6, 3, RX11)) ((yX11_isSaid, cX11_isSaid, 5, 3, RX11)))) (cond (Nat.blt mid 259) (cond (Nat.blt mid 258) ((yX11_said, cX11_said, 4, 1, RX11)) ((yX11_image, cX11_image, 3, 3, RX11))) (cond (Nat.blt mid 260) ((yX11_restore, cX11_restore, 3, 3, RX11)) (cond (Nat.blt mid 261) ((yX11_count, cX11_count, 2, 1, RX11)) ((yJ7_fill_53178, cJ7_fill_53178, 4, 0, RJ7))))))))))
theorem zmt_0 : zmt 0 = (yX0_clear, cX0_clear, 1, 0, RX0) := rfl
theorem zmt_1 : zmt 1 = (yX0_keep, cX0_keep, 2, 0, RX0) := rfl
theorem zmt_2 : zmt 2 = (yX0_forgetOldest, cX0_forgetOldest, 3, 0, RX0) := rfl
theorem zmt_3 : zmt 3 = (yX0_giveBack, cX0_giveBack, 2, 3, RX0) := rfl
theorem zmt_4 : zmt 4 = (yX1_clear, cX1_clear, 1, 0, RX1) := rfl
theorem zmt_5 : zmt 5 = (yX1_copyFrom, cX1_copyFrom, 2, 0, RX1) := rfl
theorem zmt_6 : zmt 6 = (yX1_hasTerm, cX1_hasTerm, 2, 3, RX1) := rfl
theorem zmt_7 : zmt 7 = (yX1_hasReach, cX1_hasReach, 2, 3, RX1) := rfl
theorem zmt_8 : zmt 8 = (yX1_hasPlace, cX1_hasPlace, 3, 3, RX1) := rfl
theorem zmt_9 : zmt 9 = (yX1_hasEditor, cX1_hasEditor, 2, 3, RX1) := rfl
theorem zmt_10 : zmt 10 = (yX1_hasTown, cX1_hasTown, 2, 3, RX1) := rfl
theorem zmt_11 : zmt 11 = (yX1_addTerm, cX1_addTerm, 4, 0, RX1) := rfl
theorem zmt_12 : zmt 12 = (yX1_addReach, cX1_addReach, 5, 0, RX1) := rfl
theorem zmt_13 : zmt 13 = (yX1_addSaid, cX1_addSaid, 3, 0, RX1) := rfl
theorem zmt_14 : zmt 14 = (yX1_addEditor, cX1_addEditor, 6, 0, RX1) := rfl
theorem zmt_15 : zmt 15 = (yX1_addChange, cX1_addChange, 4, 0, RX1) := rfl
theorem zmt_16 : zmt 16 = (yX1_addTown, cX1_addTown, 5, 0, RX1) := rfl
theorem zmt_17 : zmt 17 = (yX1_addTaste, cX1_addTaste, 3, 0, RX1) := rfl
theorem zmt_18 : zmt 18 = (yX1_madeBy, cX1_madeBy, 3, 1, RX1) := rfl
theorem zmt_19 : zmt 19 = (yX1_likes, cX1_likes, 3, 3, RX1) := rfl
theorem zmt_20 : zmt 20 = (yX1_saidOn, cX1_saidOn, 4, 1, RX1) := rfl
theorem zmt_21 : zmt 21 = (yX1_editorOn, cX1_editorOn, 4, 1, RX1) := rfl
theorem zmt_22 : zmt 22 = (yX1_ownTown, cX1_ownTown, 5, 1, RX1) := rfl
theorem zmt_23 : zmt 23 = (yX1_daysBetween, cX1_daysBetween, 8, 1, RX1) := rfl
theorem zmt_24 : zmt 24 = (yX1_reachesAbove, cX1_reachesAbove, 4, 1, RX1) := rfl
theorem zmt_25 : zmt 25 = (yX1_oneSource, cX1_oneSource, 5, 1, RX1) := rfl
theorem zmt_26 : zmt 26 = (yX1_arrival, cX1_arrival, 7, 1, RX1) := rfl
theorem zmt_27 : zmt 27 = (yX1_afterEditors, cX1_afterEditors, 8, 1, RX1) := rfl
theorem zmt_28 : zmt 28 = (yX2_readInto, cX2_readInto, 3, 3, RX2) := rfl
theorem zmt_29 : zmt 29 = (yX2_readLine, cX2_readLine, 1, 3, RX2) := rfl
theorem zmt_30 : zmt 30 = (yX2_begins, cX2_begins, 3, 3, RX2) := rfl
theorem zmt_31 : zmt 31 = (yX2_readNewName, cX2_readNewName, 1, 3, RX2) := rfl
theorem zmt_32 : zmt 32 = (yX2_readNewNameOnReach, cX2_readNewNameOnReach, 1, 3, RX2) := rfl
theorem zmt_33 : zmt 33 = (yX2_readTerm, cX2_readTerm, 2, 3, RX2) := rfl
theorem zmt_34 : zmt 34 = (yX2_readReach, cX2_readReach, 3, 3, RX2) := rfl
theorem zmt_35 : zmt 35 = (yX2_readSays, cX2_readSays, 4, 3, RX2) := rfl
theorem zmt_36 : zmt 36 = (yX2_readEditor, cX2_readEditor, 1, 3, RX2) := rfl
theorem zmt_37 : zmt 37 = (yX2_readWhoAndTerm, cX2_readWhoAndTerm, 2, 3, RX2) := rfl
theorem zmt_38 : zmt 38 = (yX2_readChange, cX2_readChange, 3, 3, RX2) := rfl
theorem zmt_39 : zmt 39 = (yX2_readTown, cX2_readTown, 1, 3, RX2) := rfl
theorem zmt_40 : zmt 40 = (yX2_readTaste, cX2_readTaste, 1, 3, RX2) := rfl
theorem zmt_41 : zmt 41 = (yX3_readFrom, cX3_readFrom, 4, 3, RX3) := rfl
theorem zmt_42 : zmt 42 = (yX3_readLine, cX3_readLine, 7, 3, RX3) := rfl
theorem zmt_43 : zmt 43 = (yX3_readDays, cX3_readDays, 2, 3, RX3) := rfl
theorem zmt_44 : zmt 44 = (yX3_readReads, cX3_readReads, 5, 3, RX3) := rfl
theorem zmt_45 : zmt 45 = (yX3_readAwake, cX3_readAwake, 3, 3, RX3) := rfl
theorem zmt_46 : zmt 46 = (yX3_add, cX3_add, 5, 3, RX3) := rfl
theorem zmt_47 : zmt 47 = (yX3_judge, cX3_judge, 5, 1, RX3) := rfl
theorem zmt_48 : zmt 48 = (yX3_live, cX3_live, 5, 1, RX3) := rfl
theorem zmt_49 : zmt 49 = (yX3_tell, cX3_tell, 2, 1, RX3) := rfl
theorem zmt_50 : zmt 50 = (yX4_begin, cX4_begin, 2, 0, RX4) := rfl
theorem zmt_51 : zmt 51 = (yX4_draw, cX4_draw, 2, 1, RX4) := rfl
theorem zmt_52 : zmt 52 = (yX6_find, cX6_find, 4, 1, RX6) := rfl
theorem zmt_53 : zmt 53 = (yX6_add, cX6_add, 5, 0, RX6) := rfl
theorem zmt_54 : zmt 54 = (yX6_copyFrom, cX6_copyFrom, 2, 0, RX6) := rfl
theorem zmt_55 : zmt 55 = (yX7_clear, cX7_clear, 1, 0, RX7) := rfl
theorem zmt_56 : zmt 56 = (yX7_copyFrom, cX7_copyFrom, 2, 0, RX7) := rfl
theorem zmt_57 : zmt 57 = (yX7_readFrom, cX7_readFrom, 3, 3, RX7) := rfl
theorem zmt_58 : zmt 58 = (yX7_readCond, cX7_readCond, 6, 3, RX7) := rfl
theorem zmt_59 : zmt 59 = (yX7_readAll, cX7_readAll, 6, 3, RX7) := rfl
theorem zmt_60 : zmt 60 = (yX7_readOne, cX7_readOne, 6, 3, RX7) := rfl
theorem zmt_61 : zmt 61 = (yX7_beginsOne, cX7_beginsOne, 1, 3, RX7) := rfl
theorem zmt_62 : zmt 62 = (yX7_addNamed, cX7_addNamed, 4, 3, RX7) := rfl
theorem zmt_63 : zmt 63 = (yX7_readMeasure, cX7_readMeasure, 4, 3, RX7) := rfl
theorem zmt_64 : zmt 64 = (yX7_add, cX7_add, 4, 3, RX7) := rfl
theorem zmt_65 : zmt 65 = (yX7_holdsOf, cX7_holdsOf, 7, 3, RX7) := rfl
theorem zmt_66 : zmt 66 = (yX7_isSo, cX7_isSo, 5, 3, RX7) := rfl
theorem zmt_67 : zmt 67 = (yX7_compares, cX7_compares, 3, 3, RX7) := rfl
theorem zmt_68 : zmt 68 = (yX8_begin, cX8_begin, 2, 0, RX8) := rfl
theorem zmt_69 : zmt 69 = (yX8_copyFrom, cX8_copyFrom, 2, 0, RX8) := rfl
theorem zmt_70 : zmt 70 = (yX8_daysLeft, cX8_daysLeft, 1, 1, RX8) := rfl
theorem zmt_71 : zmt 71 = (yX8_isAwake, cX8_isAwake, 2, 3, RX8) := rfl
theorem zmt_72 : zmt 72 = (yX8_toggle, cX8_toggle, 2, 0, RX8) := rfl
theorem zmt_73 : zmt 73 = (yX8_onTheirWay, cX8_onTheirWay, 6, 1, RX8) := rfl
theorem zmt_74 : zmt 74 = (yX8_cellOf, cX8_cellOf, 6, 1, RX8) := rfl
theorem zmt_75 : zmt 75 = (yX8_termAt, cX8_termAt, 4, 1, RX8) := rfl
theorem zmt_76 : zmt 76 = (yX8_put, cX8_put, 5, 0, RX8) := rfl
theorem zmt_77 : zmt 77 = (yX8_readOn, cX8_readOn, 3, 1, RX8) := rfl
theorem zmt_78 : zmt 78 = (yX8_pass, cX8_pass, 5, 0, RX8) := rfl
theorem zmt_79 : zmt 79 = (yX8_passDrawnDay, cX8_passDrawnDay, 6, 0, RX8) := rfl
theorem zmt_80 : zmt 80 = (yX8_passDay, cX8_passDay, 5, 0, RX8) := rfl
theorem zmt_81 : zmt 81 = (yX8_carry, cX8_carry, 5, 0, RX8) := rfl
theorem zmt_82 : zmt 82 = (yX8_edit, cX8_edit, 6, 0, RX8) := rfl
theorem zmt_83 : zmt 83 = (yX8_readInTowns, cX8_readInTowns, 6, 0, RX8) := rfl
theorem zmt_84 : zmt 84 = (yX8_noteTerm, cX8_noteTerm, 5, 0, RX8) := rfl
theorem zmt_85 : zmt 85 = (yX8_goOnSaying, cX8_goOnSaying, 5, 0, RX8) := rfl
theorem zmt_86 : zmt 86 = (yX9_take, cX9_take, 3, 0, RX9) := rfl
theorem zmt_87 : zmt 87 = (yX9_termOf, cX9_termOf, 2, 1, RX9) := rfl
theorem zmt_88 : zmt 88 = (yX9_open, cX9_open, 2, 0, RX9) := rfl
theorem zmt_89 : zmt 89 = (yX9_advance, cX9_advance, 2, 0, RX9) := rfl
theorem zmt_90 : zmt 90 = (yX9_scanToken, cX9_scanToken, 5, 0, RX9) := rfl
theorem zmt_91 : zmt 91 = (yX9_findKey, cX9_findKey, 2, 0, RX9) := rfl
theorem zmt_92 : zmt 92 = (yX9_fail, cX9_fail, 2, 3, RX9) := rfl
theorem zmt_93 : zmt 93 = (yX9_passes, cX9_passes, 2, 3, RX9) := rfl
theorem zmt_94 : zmt 94 = (yX9_isName, cX9_isName, 1, 3, RX9) := rfl
theorem zmt_95 : zmt 95 = (yX9_isNewName, cX9_isNewName, 2, 3, RX9) := rfl
theorem zmt_96 : zmt 96 = (yX9_toldName, cX9_toldName, 4, 1, RX9) := rfl
theorem zmt_97 : zmt 97 = (yX9_isNumber, cX9_isNumber, 3, 3, RX9) := rfl
theorem zmt_98 : zmt 98 = (yX10_feed, cX10_feed, 6, 1, RX10) := rfl
theorem zmt_99 : zmt 99 = (yX10_end, cX10_end, 2, 3, RX10) := rfl
theorem zmt_100 : zmt 100 = (yX10_country, cX10_country, 3, 1, RX10) := rfl
theorem zmt_101 : zmt 101 = (yX10_fault, cX10_fault, 1, 1, RX10) := rfl
theorem zmt_102 : zmt 102 = (yX10_term, cX10_term, 2, 1, RX10) := rfl
theorem zmt_103 : zmt 103 = (yX10_reach, cX10_reach, 3, 1, RX10) := rfl
theorem zmt_104 : zmt 104 = (yX10_editor, cX10_editor, 3, 1, RX10) := rfl
theorem zmt_105 : zmt 105 = (yX10_makes, cX10_makes, 3, 1, RX10) := rfl
theorem zmt_106 : zmt 106 = (yX10_now, cX10_now, 2, 1, RX10) := rfl
theorem zmt_107 : zmt 107 = (yX10_days, cX10_days, 3, 1, RX10) := rfl
theorem zmt_108 : zmt 108 = (yX10_wake, cX10_wake, 3, 3, RX10) := rfl
theorem zmt_109 : zmt 109 = (yX10_stone, cX10_stone, 4, 3, RX10) := rfl
theorem zmt_110 : zmt 110 = (yX10_undo, cX10_undo, 1, 1, RX10) := rfl
theorem zmt_111 : zmt 111 = (yX10_well, cX10_well, 3, 1, RX10) := rfl
theorem zmt_112 : zmt 112 = (yX10_sense, cX10_sense, 2, 1, RX10) := rfl
theorem zmt_113 : zmt 113 = (yX10_sayings, cX10_sayings, 2, 1, RX10) := rfl
theorem zmt_114 : zmt 114 = (yX10_flows, cX10_flows, 4, 1, RX10) := rfl
theorem zmt_115 : zmt 115 = (yX10_above, cX10_above, 2, 1, RX10) := rfl
theorem zmt_116 : zmt 116 = (yX10_source, cX10_source, 2, 1, RX10) := rfl
theorem zmt_117 : zmt 117 = (yX10_comes, cX10_comes, 3, 1, RX10) := rfl
theorem zmt_118 : zmt 118 = (yX10_saying, cX10_saying, 6, 2, RX10) := rfl
theorem zmt_119 : zmt 119 = (yX10_saidAt, cX10_saidAt, 2, 1, RX10) := rfl
theorem zmt_120 : zmt 120 = (yX10_wish, cX10_wish, 8, 1, RX10) := rfl
theorem zmt_121 : zmt 121 = (yX10_rests, cX10_rests, 6, 1, RX10) := rfl
theorem zmt_122 : zmt 122 = (yX10_own, cX10_own, 2, 1, RX10) := rfl
theorem zmt_123 : zmt 123 = (yX10_liked, cX10_liked, 4, 1, RX10) := rfl
theorem zmt_124 : zmt 124 = (yX10_sure, cX10_sure, 2, 1, RX10) := rfl
theorem zmt_125 : zmt 125 = (yX10_most, cX10_most, 5, 1, RX10) := rfl
theorem zmt_126 : zmt 126 = (yX10_when, cX10_when, 6, 1, RX10) := rfl
theorem zmt_127 : zmt 127 = (yX10_clashes, cX10_clashes, 2, 1, RX10) := rfl
theorem zmt_128 : zmt 128 = (yX10_unlike, cX10_unlike, 6, 1, RX10) := rfl
theorem zmt_129 : zmt 129 = (yX10_drawn, cX10_drawn, 5, 1, RX10) := rfl
theorem zmt_130 : zmt 130 = (yX10_stones, cX10_stones, 1, 1, RX10) := rfl
theorem zmt_131 : zmt 131 = (yX10_odds, cX10_odds, 6, 1, RX10) := rfl
theorem zmt_132 : zmt 132 = (yX10_daybook, cX10_daybook, 4, 1, RX10) := rfl
theorem zmt_133 : zmt 133 = (yX10_booked, cX10_booked, 2, 1, RX10) := rfl
theorem zmt_134 : zmt 134 = (yX10_sentence, cX10_sentence, 3, 1, RX10) := rfl
theorem zmt_135 : zmt 135 = (yX10_said, cX10_said, 4, 1, RX10) := rfl
theorem zmt_136 : zmt 136 = (yX10_image, cX10_image, 3, 3, RX10) := rfl
theorem zmt_137 : zmt 137 = (yX10_restore, cX10_restore, 3, 3, RX10) := rfl
theorem zmt_138 : zmt 138 = (yX10_count, cX10_count, 2, 1, RX10) := rfl
theorem zmt_139 : zmt 139 = (yX10_isWithin, cX10_isWithin, 2, 3, RX10) := rfl
theorem zmt_140 : zmt 140 = (yX10_sumOf, cX10_sumOf, 6, 1, RX10) := rfl
theorem zmt_141 : zmt 141 = (yX10_takeRow, cX10_takeRow, 5, 1, RX10) := rfl
theorem zmt_142 : zmt 142 = (yX10_fillArrivals, cX10_fillArrivals, 3, 0, RX10) := rfl
theorem zmt_143 : zmt 143 = (yX10_countOf, cX10_countOf, 4, 1, RX10) := rfl
theorem zmt_144 : zmt 144 = (yX10_leastFor, cX10_leastFor, 3, 1, RX10) := rfl
theorem zmt_145 : zmt 145 = (yX10_keepFirstWay, cX10_keepFirstWay, 3, 0, RX10) := rfl
theorem zmt_146 : zmt 146 = (yX10_tryDays, cX10_tryDays, 3, 0, RX10) := rfl
theorem zmt_147 : zmt 147 = (yX10_fillGains, cX10_fillGains, 5, 0, RX10) := rfl
theorem zmt_148 : zmt 148 = (yX10_isRest, cX10_isRest, 4, 3, RX10) := rfl
theorem zmt_149 : zmt 149 = (yX10_staysSensible, cX10_staysSensible, 5, 3, RX10) := rfl
theorem zmt_150 : zmt 150 = (yX11_thrown, cX11_thrown, 1, 1, RX11) := rfl
theorem zmt_151 : zmt 151 = (yX11_throwsIf, cX11_throwsIf, 2, 3, RX11) := rfl
theorem zmt_152 : zmt 152 = (yX11_feed, cX11_feed, 6, 1, RX11) := rfl
theorem zmt_153 : zmt 153 = (yX11_four, cX11_four, 3, 0, RX11) := rfl
theorem zmt_154 : zmt 154 = (yX11_end, cX11_end, 2, 3, RX11) := rfl
theorem zmt_155 : zmt 155 = (yX11_taken, cX11_taken, 2, 0, RX11) := rfl
theorem zmt_156 : zmt 156 = (yX11_isIn, cX11_isIn, 3, 3, RX11) := rfl
theorem zmt_157 : zmt 157 = (yX11_bitOf, cX11_bitOf, 2, 3, RX11) := rfl
theorem zmt_158 : zmt 158 = (yX11_octet, cX11_octet, 2, 1, RX11) := rfl
theorem zmt_159 : zmt 159 = (yX11_peek, cX11_peek, 1, 1, RX11) := rfl
theorem zmt_160 : zmt 160 = (yX11_isSmall, cX11_isSmall, 1, 3, RX11) := rfl
theorem zmt_161 : zmt 161 = (yX11_isDigit, cX11_isDigit, 1, 3, RX11) := rfl
theorem zmt_162 : zmt 162 = (yX11_next, cX11_next, 4, 0, RX11) := rfl
theorem zmt_163 : zmt 163 = (yX11_bad, cX11_bad, 2, 3, RX11) := rfl
theorem zmt_164 : zmt 164 = (yX11_isWord, cX11_isWord, 3, 3, RX11) := rfl
theorem zmt_165 : zmt 165 = (yX11_isSign, cX11_isSign, 2, 3, RX11) := rfl
theorem zmt_166 : zmt 166 = (yX11_sign, cX11_sign, 2, 3, RX11) := rfl
theorem zmt_167 : zmt 167 = (yX11_isName, cX11_isName, 3, 3, RX11) := rfl
theorem zmt_168 : zmt 168 = (yX11_takes, cX11_takes, 3, 3, RX11) := rfl
theorem zmt_169 : zmt 169 = (yX11_find, cX11_find, 4, 1, RX11) := rfl
theorem zmt_170 : zmt 170 = (yX11_fresh, cX11_fresh, 2, 3, RX11) := rfl
theorem zmt_171 : zmt 171 = (yX11_looksAt, cX11_looksAt, 3, 3, RX11) := rfl
theorem zmt_172 : zmt 172 = (yX11_looksAtTerm, cX11_looksAtTerm, 1, 3, RX11) := rfl
theorem zmt_173 : zmt 173 = (yX11_looksAtReach, cX11_looksAtReach, 1, 3, RX11) := rfl
theorem zmt_174 : zmt 174 = (yX11_sortOf, cX11_sortOf, 1, 1, RX11) := rfl
theorem zmt_175 : zmt 175 = (yX11_line, cX11_line, 3, 3, RX11) := rfl
theorem zmt_176 : zmt 176 = (yX11_readReach, cX11_readReach, 2, 3, RX11) := rfl
theorem zmt_177 : zmt 177 = (yX11_readSays, cX11_readSays, 3, 3, RX11) := rfl
theorem zmt_178 : zmt 178 = (yX11_readAt, cX11_readAt, 9, 3, RX11) := rfl
theorem zmt_179 : zmt 179 = (yX11_readRule, cX11_readRule, 5, 3, RX11) := rfl
theorem zmt_180 : zmt 180 = (yX11_country, cX11_country, 2, 1, RX11) := rfl
theorem zmt_181 : zmt 181 = (yX11_fault, cX11_fault, 1, 1, RX11) := rfl
theorem zmt_182 : zmt 182 = (yX11_isTerm, cX11_isTerm, 2, 3, RX11) := rfl
theorem zmt_183 : zmt 183 = (yX11_isReach, cX11_isReach, 2, 3, RX11) := rfl
theorem zmt_184 : zmt 184 = (yX11_isEditor, cX11_isEditor, 2, 3, RX11) := rfl
theorem zmt_185 : zmt 185 = (yX11_isTown, cX11_isTown, 2, 3, RX11) := rfl
theorem zmt_186 : zmt 186 = (yX11_isPlace, cX11_isPlace, 3, 3, RX11) := rfl
theorem zmt_187 : zmt 187 = (yX11_term, cX11_term, 2, 1, RX11) := rfl
theorem zmt_188 : zmt 188 = (yX11_saysOn, cX11_saysOn, 3, 1, RX11) := rfl
theorem zmt_189 : zmt 189 = (yX11_reach, cX11_reach, 3, 1, RX11) := rfl
theorem zmt_190 : zmt 190 = (yX11_at, cX11_at, 3, 1, RX11) := rfl
theorem zmt_191 : zmt 191 = (yX11_editor, cX11_editor, 3, 1, RX11) := rfl
theorem zmt_192 : zmt 192 = (yX11_madeOf, cX11_madeOf, 4, 1, RX11) := rfl
theorem zmt_193 : zmt 193 = (yX11_makes, cX11_makes, 3, 1, RX11) := rfl
theorem zmt_194 : zmt 194 = (yX11_wellOf, cX11_wellOf, 3, 1, RX11) := rfl
theorem zmt_195 : zmt 195 = (yX11_wordsOf, cX11_wordsOf, 7, 1, RX11) := rfl
theorem zmt_196 : zmt 196 = (yX11_lastOf, cX11_lastOf, 2, 1, RX11) := rfl
theorem zmt_197 : zmt 197 = (yX11_town, cX11_town, 4, 1, RX11) := rfl
theorem zmt_198 : zmt 198 = (yX11_now, cX11_now, 4, 1, RX11) := rfl
theorem zmt_199 : zmt 199 = (yX11_comesTo, cX11_comesTo, 5, 1, RX11) := rfl
theorem zmt_200 : zmt 200 = (yX11_edits, cX11_edits, 4, 0, RX11) := rfl
theorem zmt_201 : zmt 201 = (yX11_day, cX11_day, 4, 0, RX11) := rfl
theorem zmt_202 : zmt 202 = (yX11_goes, cX11_goes, 3, 1, RX11) := rfl
theorem zmt_203 : zmt 203 = (yX11_days, cX11_days, 2, 1, RX11) := rfl
theorem zmt_204 : zmt 204 = (yX11_wake, cX11_wake, 3, 3, RX11) := rfl
theorem zmt_205 : zmt 205 = (yX11_stone, cX11_stone, 4, 3, RX11) := rfl
theorem zmt_206 : zmt 206 = (yX11_keep, cX11_keep, 2, 0, RX11) := rfl
theorem zmt_207 : zmt 207 = (yX11_undo, cX11_undo, 2, 1, RX11) := rfl
theorem zmt_208 : zmt 208 = (yX11_tries, cX11_tries, 2, 0, RX11) := rfl
theorem zmt_209 : zmt 209 = (yX11_back, cX11_back, 2, 0, RX11) := rfl
theorem zmt_210 : zmt 210 = (yX11_well, cX11_well, 3, 1, RX11) := rfl
theorem zmt_211 : zmt 211 = (yX11_behind, cX11_behind, 3, 1, RX11) := rfl
theorem zmt_212 : zmt 212 = (yX11_senseOf, cX11_senseOf, 5, 1, RX11) := rfl
theorem zmt_213 : zmt 213 = (yX11_sense, cX11_sense, 2, 1, RX11) := rfl
theorem zmt_214 : zmt 214 = (yX11_sayings, cX11_sayings, 2, 1, RX11) := rfl
theorem zmt_215 : zmt 215 = (yX11_flows, cX11_flows, 6, 1, RX11) := rfl
theorem zmt_216 : zmt 216 = (yX11_aboveOf, cX11_aboveOf, 5, 1, RX11) := rfl
theorem zmt_217 : zmt 217 = (yX11_above, cX11_above, 2, 1, RX11) := rfl
theorem zmt_218 : zmt 218 = (yX11_sourceOf, cX11_sourceOf, 6, 1, RX11) := rfl
theorem zmt_219 : zmt 219 = (yX11_source, cX11_source, 2, 1, RX11) := rfl
theorem zmt_220 : zmt 220 = (yX11_madeAt, cX11_madeAt, 5, 1, RX11) := rfl
theorem zmt_221 : zmt 221 = (yX11_comesOf, cX11_comesOf, 7, 1, RX11) := rfl
theorem zmt_222 : zmt 222 = (yX11_hasSource, cX11_hasSource, 2, 3, RX11) := rfl
theorem zmt_223 : zmt 223 = (yX11_comes, cX11_comes, 3, 1, RX11) := rfl
theorem zmt_224 : zmt 224 = (yX11_termAt, cX11_termAt, 2, 1, RX11) := rfl
theorem zmt_225 : zmt 225 = (yX11_areTerms, cX11_areTerms, 3, 3, RX11) := rfl
theorem zmt_226 : zmt 226 = (yX11_saying, cX11_saying, 7, 2, RX11) := rfl
theorem zmt_227 : zmt 227 = (yX11_saidAt, cX11_saidAt, 2, 1, RX11) := rfl
theorem zmt_228 : zmt 228 = (yX11_wish, cX11_wish, 7, 1, RX11) := rfl
theorem zmt_229 : zmt 229 = (yX11_ownOf, cX11_ownOf, 4, 1, RX11) := rfl
theorem zmt_230 : zmt 230 = (yX11_own, cX11_own, 2, 1, RX11) := rfl
theorem zmt_231 : zmt 231 = (yX11_likesBy, cX11_likesBy, 5, 0, RX11) := rfl
theorem zmt_232 : zmt 232 = (yX11_rests, cX11_rests, 7, 1, RX11) := rfl
theorem zmt_233 : zmt 233 = (yX11_liked, cX11_liked, 4, 1, RX11) := rfl
theorem zmt_234 : zmt 234 = (yX11_sure, cX11_sure, 2, 1, RX11) := rfl
theorem zmt_235 : zmt 235 = (yX11_most, cX11_most, 4, 1, RX11) := rfl
theorem zmt_236 : zmt 236 = (yX11_when, cX11_when, 6, 1, RX11) := rfl
theorem zmt_237 : zmt 237 = (yX11_clashes, cX11_clashes, 3, 1, RX11) := rfl
theorem zmt_238 : zmt 238 = (yX11_unlike, cX11_unlike, 6, 1, RX11) := rfl
theorem zmt_239 : zmt 239 = (yX11_draw, cX11_draw, 2, 1, RX11) := rfl
theorem zmt_240 : zmt 240 = (yX11_draws, cX11_draws, 7, 1, RX11) := rfl
theorem zmt_241 : zmt 241 = (yX11_drawn, cX11_drawn, 4, 1, RX11) := rfl
theorem zmt_242 : zmt 242 = (yX11_stones, cX11_stones, 1, 1, RX11) := rfl
theorem zmt_243 : zmt 243 = (yX11_odds, cX11_odds, 6, 1, RX11) := rfl
theorem zmt_244 : zmt 244 = (yX11_bookLine, cX11_bookLine, 4, 3, RX11) := rfl
theorem zmt_245 : zmt 245 = (yX11_does, cX11_does, 4, 1, RX11) := rfl
theorem zmt_246 : zmt 246 = (yX11_daybook, cX11_daybook, 5, 1, RX11) := rfl
theorem zmt_247 : zmt 247 = (yX11_booked, cX11_booked, 2, 1, RX11) := rfl
theorem zmt_248 : zmt 248 = (yX11_code, cX11_code, 4, 0, RX11) := rfl
theorem zmt_249 : zmt 249 = (yX11_joins, cX11_joins, 2, 0, RX11) := rfl
theorem zmt_250 : zmt 250 = (yX11_nots, cX11_nots, 1, 0, RX11) := rfl
theorem zmt_251 : zmt 251 = (yX11_leafOf, cX11_leafOf, 1, 1, RX11) := rfl
theorem zmt_252 : zmt 252 = (yX11_operand, cX11_operand, 5, 3, RX11) := rfl
theorem zmt_253 : zmt 253 = (yX11_behind_, cX11_behind_, 1, 3, RX11) := rfl
theorem zmt_254 : zmt 254 = (yX11_sentence, cX11_sentence, 3, 1, RX11) := rfl
theorem zmt_255 : zmt 255 = (yX11_isLeaf, cX11_isLeaf, 6, 3, RX11) := rfl
theorem zmt_256 : zmt 256 = (yX11_isSaid, cX11_isSaid, 5, 3, RX11) := rfl
theorem zmt_257 : zmt 257 = (yX11_said, cX11_said, 4, 1, RX11) := rfl
theorem zmt_258 : zmt 258 = (yX11_image, cX11_image, 3, 3, RX11) := rfl
theorem zmt_259 : zmt 259 = (yX11_restore, cX11_restore, 3, 3, RX11) := rfl
theorem zmt_260 : zmt 260 = (yX11_count, cX11_count, 2, 1, RX11) := rfl
theorem zmt_261 : zmt 261 = (yJ7_fill_53178, cJ7_fill_53178, 4, 0, RJ7) := rfl
/-- what a link's number is held by -/
def zLK (Ts : List Cond) (own : String) (idx : Nat) (e : zK) : Prop := match e with
  | (0, ci, slot, _) => zFL Ts own idx ci slot
  | (1, a, b, c, d, _) => zLM own idx (zmt a) b c d ∧ zMok (zmt a)
  | (2, a, b, _) => (a = 200 ∧ b = 26 ∧ own = "RiverText$Tape" ∧ idx = 62) ∨ (a = 201 ∧ b = 20 ∧ own = "RiverText$Stream" ∧ idx = 181)
  | (3, _, _, _, _, _, x) => r32 x ∧ Cond.constant own idx (Int32.ofInt x) ∈ Ts
  | (4, _, _, _, _, _, x) => r64 x ∧ Cond.constantLong own idx (Int64.ofInt x) ∈ Ts
  | (5, _) => Cond.methodLink own idx arraycopyName ∈ Ts ∧ Cond.native arraycopyName ∈ Ts ∧ Cond.static arraycopyName ∈ Ts ∧ Cond.initialized "java/lang/System" ∈ Ts
  | (6, _) => Cond.methodLink own idx Lib.Math.min.name ∈ Ts ∧ Cond.static Lib.Math.min.name ∈ Ts ∧ Cond.initialized "java/lang/Math" ∈ Ts ∧ Cond.code Lib.Math.min.name Lib.Math.min.code 2 (some .int) ∈ Ts
  | (7, a, b, c, d, _) => zLM own idx (zmt a) b c d ∧ zMok (zmt a)
  | _ => True
def zLKs (own : String) (lks : List (Nat × zK)) : Prop := ∀ idx e, zlk idx lks = some e → zLK zTs own idx e
theorem zLKs_nil {own : String} : zLKs own [] := fun _ _ h => by cases h
theorem zLKs_cons {own : String} {i : Nat} {e : zK} {t : List (Nat × zK)} (h : zLK zTs own i e) (ht : zLKs own t) : zLKs own ((i, e) :: t) := by
  intro idx e' h'
  simp only [zlk] at h'
  cases hb : Nat.beq i idx with
  | true =>
    rw [hb] at h'
    cases h'
    rw [← Nat.eq_of_beq_eq_true hb]
    exact h
  | false =>
    rw [hb] at h'
    exact ht _ _ h'
theorem zLK1 {own : String} {idx a b c d r : Nat} {x : Int} {M : zMt} (h : zmt a = M) (h1 : zLM own idx M b c d) (h2 : zMok M) : zLK zTs own idx (1, a, b, c, d, r, x) := by subst h; exact ⟨h1, h2⟩
theorem zLK7 {own : String} {idx a b c d r : Nat} {x : Int} {M : zMt} (h : zmt a = M) (h1 : zLM own idx M b c d) (h2 : zMok M) : zLK zTs own idx (7, a, b, c, d, r, x) := by subst h; exact ⟨h1, h2⟩
theorem zLMv {own : String} {idx : Nat} {M : zMt} {b c d n : Nat} (h : M.2.2.2.1 = c) (h1 : Cond.methodLink own idx M.1 ∈ zTs) (h2 : Cond.instanceMethod M.1 ∈ zTs) (h3 : Cond.selects M.1.cls M.1 M.1 ∈ zTs) (h4 : (vwCl[d]?).map (fun q => q.1) = some M.1.cls) (h5 : znp M.1 = some n) (h6 : n + 1 = b) : zLM own idx M b c (d + 1) :=
  ⟨h, h1, h2, h3, h4, by rw [h5, ← h6]; rfl⟩
theorem zLMs {own : String} {idx : Nat} {M : zMt} {b c : Nat} (h : M.2.2.2.1 = c) (h1 : Cond.methodLink own idx M.1 ∈ zTs) (h2 : Cond.static M.1 ∈ zTs) (h5 : znp M.1 = some b) : zLM own idx M b c 0 :=
  ⟨h, h1, h2, h5⟩
theorem zpl_0 : plainName RX0 = true ∧ RX0 ≠ "java/lang/invoke/MethodHandle" ∧ RX0 ≠ "java/lang/invoke/VarHandle" := by decide +kernel
theorem zin_0 : Cond.initialized RX0 ∈ zTs := (tm1 8 rfl rfl)
theorem zpl_1 : plainName RX1 = true ∧ RX1 ≠ "java/lang/invoke/MethodHandle" ∧ RX1 ≠ "java/lang/invoke/VarHandle" := by decide +kernel
theorem zin_1 : Cond.initialized RX1 ∈ zTs := (tm1 3 rfl rfl)
theorem zpl_2 : plainName RX2 = true ∧ RX2 ≠ "java/lang/invoke/MethodHandle" ∧ RX2 ≠ "java/lang/invoke/VarHandle" := by decide +kernel
theorem zin_2 : Cond.initialized RX2 ∈ zTs := (tm1 5 rfl rfl)
theorem zpl_3 : plainName RX3 = true ∧ RX3 ≠ "java/lang/invoke/MethodHandle" ∧ RX3 ≠ "java/lang/invoke/VarHandle" := by decide +kernel
theorem zin_3 : Cond.initialized RX3 ∈ zTs := (tm1 10 rfl rfl)
theorem zpl_4 : plainName RX4 = true ∧ RX4 ≠ "java/lang/invoke/MethodHandle" ∧ RX4 ≠ "java/lang/invoke/VarHandle" := by decide +kernel
theorem zin_4 : Cond.initialized RX4 ∈ zTs := (tm1 12 rfl rfl)
theorem zpl_5 : plainName RX5 = true ∧ RX5 ≠ "java/lang/invoke/MethodHandle" ∧ RX5 ≠ "java/lang/invoke/VarHandle" := by decide +kernel
theorem zin_5 : Cond.initialized RX5 ∈ zTs := (tm1 11 rfl rfl)
theorem zpl_6 : plainName RX6 = true ∧ RX6 ≠ "java/lang/invoke/MethodHandle" ∧ RX6 ≠ "java/lang/invoke/VarHandle" := by decide +kernel
theorem zin_6 : Cond.initialized RX6 ∈ zTs := (tm1 4 rfl rfl)
theorem zpl_7 : plainName RX7 = true ∧ RX7 ≠ "java/lang/invoke/MethodHandle" ∧ RX7 ≠ "java/lang/invoke/VarHandle" := by decide +kernel
theorem zin_7 : Cond.initialized RX7 ∈ zTs := (tm1 9 rfl rfl)
theorem zpl_8 : plainName RX8 = true ∧ RX8 ≠ "java/lang/invoke/MethodHandle" ∧ RX8 ≠ "java/lang/invoke/VarHandle" := by decide +kernel
theorem zin_8 : Cond.initialized RX8 ∈ zTs := (tm1 6 rfl rfl)
theorem zpl_9 : plainName RX9 = true ∧ RX9 ≠ "java/lang/invoke/MethodHandle" ∧ RX9 ≠ "java/lang/invoke/VarHandle" := by decide +kernel
theorem zin_9 : Cond.initialized RX9 ∈ zTs := (tm1 2 rfl rfl)
theorem zpl_10 : plainName RX10 = true ∧ RX10 ≠ "java/lang/invoke/MethodHandle" ∧ RX10 ≠ "java/lang/invoke/VarHandle" := by decide +kernel
theorem zin_10 : Cond.initialized RX10 ∈ zTs := (tm1 1 rfl rfl)
theorem zpl_11 : plainName RX11 = true ∧ RX11 ≠ "java/lang/invoke/MethodHandle" ∧ RX11 ≠ "java/lang/invoke/VarHandle" := by decide +kernel
theorem zin_11 : Cond.initialized RX11 ∈ zTs := (tm1 13 rfl rfl)
theorem zpl_12 : plainName RJ7 = true ∧ RJ7 ≠ "java/lang/invoke/MethodHandle" ∧ RJ7 ≠ "java/lang/invoke/VarHandle" := by decide +kernel
theorem zin_12 : Cond.initialized RJ7 ∈ zTs := (tm1 7 rfl rfl)
theorem zmo_0 : zMok (yX0_clear, cX0_clear, 1, 0, RX0) := ⟨zpl_0.1, zpl_0.2.1, zpl_0.2.2, (tm3 194 rfl rfl), zin_0, Nat.le_of_ble_eq_true rfl, rfl⟩
theorem znp_0 : znp yX0_clear = some 0 := by decide +kernel
theorem zia_0 : Cond.instanceMethod yX0_clear ∈ zTs := (tm3 192 rfl rfl)
theorem zse_0 : Cond.selects RX0 yX0_clear yX0_clear ∈ zTs := (tm3 193 rfl rfl)
theorem zmo_1 : zMok (yX0_keep, cX0_keep, 2, 0, RX0) := ⟨zpl_0.1, zpl_0.2.1, zpl_0.2.2, (tm4 19 rfl rfl), zin_0, Nat.le_of_ble_eq_true rfl, rfl⟩
theorem znp_1 : znp yX0_keep = some 1 := by decide +kernel
theorem zia_1 : Cond.instanceMethod yX0_keep ∈ zTs := (tm4 17 rfl rfl)
theorem zse_1 : Cond.selects RX0 yX0_keep yX0_keep ∈ zTs := (tm4 18 rfl rfl)
theorem zmo_2 : zMok (yX0_forgetOldest, cX0_forgetOldest, 3, 0, RX0) := ⟨zpl_0.1, zpl_0.2.1, zpl_0.2.2, (tm4 23 rfl rfl), zin_0, Nat.le_of_ble_eq_true rfl, rfl⟩
theorem znp_2 : znp yX0_forgetOldest = some 0 := by decide +kernel
theorem zia_2 : Cond.instanceMethod yX0_forgetOldest ∈ zTs := (tm4 22 rfl rfl)
theorem zse_2 : Cond.selects RX0 yX0_forgetOldest yX0_forgetOldest ∈ zTs := (tm0 14 rfl rfl)
theorem zmo_3 : zMok (yX0_giveBack, cX0_giveBack, 2, 3, RX0) := ⟨zpl_0.1, zpl_0.2.1, zpl_0.2.2, (tm4 104 rfl rfl), zin_0, Nat.le_of_ble_eq_true rfl, rfl⟩
theorem znp_3 : znp yX0_giveBack = some 1 := by decide +kernel
theorem zia_3 : Cond.instanceMethod yX0_giveBack ∈ zTs := (tm4 102 rfl rfl)
theorem zse_3 : Cond.selects RX0 yX0_giveBack yX0_giveBack ∈ zTs := (tm4 103 rfl rfl)
theorem zmo_4 : zMok (yX1_clear, cX1_clear, 1, 0, RX1) := ⟨zpl_1.1, zpl_1.2.1, zpl_1.2.2, (tm3 59 rfl rfl), zin_1, Nat.le_of_ble_eq_true rfl, rfl⟩
theorem znp_4 : znp yX1_clear = some 0 := by decide +kernel
theorem zia_4 : Cond.instanceMethod yX1_clear ∈ zTs := (tm3 57 rfl rfl)
theorem zse_4 : Cond.selects RX1 yX1_clear yX1_clear ∈ zTs := (tm3 58 rfl rfl)
theorem zmo_5 : zMok (yX1_copyFrom, cX1_copyFrom, 2, 0, RX1) := ⟨zpl_1.1, zpl_1.2.1, zpl_1.2.2, (tm5 161 rfl rfl), zin_1, Nat.le_of_ble_eq_true rfl, rfl⟩
theorem znp_5 : znp yX1_copyFrom = some 1 := by decide +kernel
theorem zia_5 : Cond.instanceMethod yX1_copyFrom ∈ zTs := (tm5 159 rfl rfl)
theorem zse_5 : Cond.selects RX1 yX1_copyFrom yX1_copyFrom ∈ zTs := (tm5 160 rfl rfl)
theorem zmo_6 : zMok (yX1_hasTerm, cX1_hasTerm, 2, 3, RX1) := ⟨zpl_1.1, zpl_1.2.1, zpl_1.2.2, (tm3 206 rfl rfl), zin_1, Nat.le_of_ble_eq_true rfl, rfl⟩
theorem znp_6 : znp yX1_hasTerm = some 1 := by decide +kernel
theorem zia_6 : Cond.instanceMethod yX1_hasTerm ∈ zTs := (tm3 204 rfl rfl)
theorem zse_6 : Cond.selects RX1 yX1_hasTerm yX1_hasTerm ∈ zTs := (tm3 205 rfl rfl)
theorem zmo_7 : zMok (yX1_hasReach, cX1_hasReach, 2, 3, RX1) := ⟨zpl_1.1, zpl_1.2.1, zpl_1.2.2, (tm3 121 rfl rfl), zin_1, Nat.le_of_ble_eq_true rfl, rfl⟩
theorem znp_7 : znp yX1_hasReach = some 1 := by decide +kernel
theorem zia_7 : Cond.instanceMethod yX1_hasReach ∈ zTs := (tm3 119 rfl rfl)
theorem zse_7 : Cond.selects RX1 yX1_hasReach yX1_hasReach ∈ zTs := (tm3 120 rfl rfl)
theorem zmo_8 : zMok (yX1_hasPlace, cX1_hasPlace, 3, 3, RX1) := ⟨zpl_1.1, zpl_1.2.1, zpl_1.2.2, (tm4 94 rfl rfl), zin_1, Nat.le_of_ble_eq_true rfl, rfl⟩
theorem znp_8 : znp yX1_hasPlace = some 2 := by decide +kernel
theorem zia_8 : Cond.instanceMethod yX1_hasPlace ∈ zTs := (tm4 92 rfl rfl)
theorem zse_8 : Cond.selects RX1 yX1_hasPlace yX1_hasPlace ∈ zTs := (tm4 93 rfl rfl)
theorem zmo_9 : zMok (yX1_hasEditor, cX1_hasEditor, 2, 3, RX1) := ⟨zpl_1.1, zpl_1.2.1, zpl_1.2.2, (tm3 223 rfl rfl), zin_1, Nat.le_of_ble_eq_true rfl, rfl⟩
theorem znp_9 : znp yX1_hasEditor = some 1 := by decide +kernel
theorem zia_9 : Cond.instanceMethod yX1_hasEditor ∈ zTs := (tm3 221 rfl rfl)
theorem zse_9 : Cond.selects RX1 yX1_hasEditor yX1_hasEditor ∈ zTs := (tm3 222 rfl rfl)
theorem zmo_10 : zMok (yX1_hasTown, cX1_hasTown, 2, 3, RX1) := ⟨zpl_1.1, zpl_1.2.1, zpl_1.2.2, (tm4 112 rfl rfl), zin_1, Nat.le_of_ble_eq_true rfl, rfl⟩
theorem znp_10 : znp yX1_hasTown = some 1 := by decide +kernel
theorem zia_10 : Cond.instanceMethod yX1_hasTown ∈ zTs := (tm4 110 rfl rfl)
theorem zse_10 : Cond.selects RX1 yX1_hasTown yX1_hasTown ∈ zTs := (tm4 111 rfl rfl)
theorem zmo_11 : zMok (yX1_addTerm, cX1_addTerm, 4, 0, RX1) := ⟨zpl_1.1, zpl_1.2.1, zpl_1.2.2, (tm3 97 rfl rfl), zin_1, Nat.le_of_ble_eq_true rfl, rfl⟩
theorem znp_11 : znp yX1_addTerm = some 2 := by decide +kernel
theorem zia_11 : Cond.instanceMethod yX1_addTerm ∈ zTs := (tm3 95 rfl rfl)
theorem zse_11 : Cond.selects RX1 yX1_addTerm yX1_addTerm ∈ zTs := (tm3 96 rfl rfl)
theorem zmo_12 : zMok (yX1_addReach, cX1_addReach, 5, 0, RX1) := ⟨zpl_1.1, zpl_1.2.1, zpl_1.2.2, (tm3 117 rfl rfl), zin_1, Nat.le_of_ble_eq_true rfl, rfl⟩
theorem znp_12 : znp yX1_addReach = some 3 := by decide +kernel
theorem zia_12 : Cond.instanceMethod yX1_addReach ∈ zTs := (tm3 115 rfl rfl)
theorem zse_12 : Cond.selects RX1 yX1_addReach yX1_addReach ∈ zTs := (tm3 116 rfl rfl)
theorem zmo_13 : zMok (yX1_addSaid, cX1_addSaid, 3, 0, RX1) := ⟨zpl_1.1, zpl_1.2.1, zpl_1.2.2, (tm3 129 rfl rfl), zin_1, Nat.le_of_ble_eq_true rfl, rfl⟩
theorem znp_13 : znp yX1_addSaid = some 2 := by decide +kernel
theorem zia_13 : Cond.instanceMethod yX1_addSaid ∈ zTs := (tm3 127 rfl rfl)
theorem zse_13 : Cond.selects RX1 yX1_addSaid yX1_addSaid ∈ zTs := (tm3 128 rfl rfl)
theorem zmo_14 : zMok (yX1_addEditor, cX1_addEditor, 6, 0, RX1) := ⟨zpl_1.1, zpl_1.2.1, zpl_1.2.2, (tm3 145 rfl rfl), zin_1, Nat.le_of_ble_eq_true rfl, rfl⟩
theorem znp_14 : znp yX1_addEditor = some 3 := by decide +kernel
theorem zia_14 : Cond.instanceMethod yX1_addEditor ∈ zTs := (tm3 143 rfl rfl)
theorem zse_14 : Cond.selects RX1 yX1_addEditor yX1_addEditor ∈ zTs := (tm3 144 rfl rfl)
theorem zmo_15 : zMok (yX1_addChange, cX1_addChange, 4, 0, RX1) := ⟨zpl_1.1, zpl_1.2.1, zpl_1.2.2, (tm3 161 rfl rfl), zin_1, Nat.le_of_ble_eq_true rfl, rfl⟩
theorem znp_15 : znp yX1_addChange = some 3 := by decide +kernel
theorem zia_15 : Cond.instanceMethod yX1_addChange ∈ zTs := (tm3 159 rfl rfl)
theorem zse_15 : Cond.selects RX1 yX1_addChange yX1_addChange ∈ zTs := (tm3 160 rfl rfl)
theorem zmo_16 : zMok (yX1_addTown, cX1_addTown, 5, 0, RX1) := ⟨zpl_1.1, zpl_1.2.1, zpl_1.2.2, (tm3 169 rfl rfl), zin_1, Nat.le_of_ble_eq_true rfl, rfl⟩
theorem znp_16 : znp yX1_addTown = some 3 := by decide +kernel
theorem zia_16 : Cond.instanceMethod yX1_addTown ∈ zTs := (tm3 167 rfl rfl)
theorem zse_16 : Cond.selects RX1 yX1_addTown yX1_addTown ∈ zTs := (tm3 168 rfl rfl)
theorem zmo_17 : zMok (yX1_addTaste, cX1_addTaste, 3, 0, RX1) := ⟨zpl_1.1, zpl_1.2.1, zpl_1.2.2, (tm3 181 rfl rfl), zin_1, Nat.le_of_ble_eq_true rfl, rfl⟩
theorem znp_17 : znp yX1_addTaste = some 2 := by decide +kernel
theorem zia_17 : Cond.instanceMethod yX1_addTaste ∈ zTs := (tm3 179 rfl rfl)
theorem zse_17 : Cond.selects RX1 yX1_addTaste yX1_addTaste ∈ zTs := (tm3 180 rfl rfl)
theorem zmo_18 : zMok (yX1_madeBy, cX1_madeBy, 3, 1, RX1) := ⟨zpl_1.1, zpl_1.2.1, zpl_1.2.2, (tm3 157 rfl rfl), zin_1, Nat.le_of_ble_eq_true rfl, rfl⟩
theorem znp_18 : znp yX1_madeBy = some 2 := by decide +kernel
theorem zia_18 : Cond.instanceMethod yX1_madeBy ∈ zTs := (tm3 155 rfl rfl)
theorem zse_18 : Cond.selects RX1 yX1_madeBy yX1_madeBy ∈ zTs := (tm3 156 rfl rfl)
theorem zmo_19 : zMok (yX1_likes, cX1_likes, 3, 3, RX1) := ⟨zpl_1.1, zpl_1.2.1, zpl_1.2.2, (tm3 177 rfl rfl), zin_1, Nat.le_of_ble_eq_true rfl, rfl⟩
theorem znp_19 : znp yX1_likes = some 2 := by decide +kernel
theorem zia_19 : Cond.instanceMethod yX1_likes ∈ zTs := (tm3 175 rfl rfl)
theorem zse_19 : Cond.selects RX1 yX1_likes yX1_likes ∈ zTs := (tm3 176 rfl rfl)
theorem zmo_20 : zMok (yX1_saidOn, cX1_saidOn, 4, 1, RX1) := ⟨zpl_1.1, zpl_1.2.1, zpl_1.2.2, (tm3 215 rfl rfl), zin_1, Nat.le_of_ble_eq_true rfl, rfl⟩
theorem znp_20 : znp yX1_saidOn = some 2 := by decide +kernel
theorem zia_20 : Cond.instanceMethod yX1_saidOn ∈ zTs := (tm3 213 rfl rfl)
theorem zse_20 : Cond.selects RX1 yX1_saidOn yX1_saidOn ∈ zTs := (tm3 214 rfl rfl)
theorem zmo_21 : zMok (yX1_editorOn, cX1_editorOn, 4, 1, RX1) := ⟨zpl_1.1, zpl_1.2.1, zpl_1.2.2, (tm3 141 rfl rfl), zin_1, Nat.le_of_ble_eq_true rfl, rfl⟩
theorem znp_21 : znp yX1_editorOn = some 2 := by decide +kernel
theorem zia_21 : Cond.instanceMethod yX1_editorOn ∈ zTs := (tm3 139 rfl rfl)
theorem zse_21 : Cond.selects RX1 yX1_editorOn yX1_editorOn ∈ zTs := (tm3 140 rfl rfl)
theorem zmo_22 : zMok (yX1_ownTown, cX1_ownTown, 5, 1, RX1) := ⟨zpl_1.1, zpl_1.2.1, zpl_1.2.2, (tm4 219 rfl rfl), zin_1, Nat.le_of_ble_eq_true rfl, rfl⟩
theorem znp_22 : znp yX1_ownTown = some 1 := by decide +kernel
theorem zia_22 : Cond.instanceMethod yX1_ownTown ∈ zTs := (tm4 217 rfl rfl)
theorem zse_22 : Cond.selects RX1 yX1_ownTown yX1_ownTown ∈ zTs := (tm4 218 rfl rfl)
theorem zmo_23 : zMok (yX1_daysBetween, cX1_daysBetween, 8, 1, RX1) := ⟨zpl_1.1, zpl_1.2.1, zpl_1.2.2, (tm4 132 rfl rfl), zin_1, Nat.le_of_ble_eq_true rfl, rfl⟩
theorem znp_23 : znp yX1_daysBetween = some 3 := by decide +kernel
theorem zia_23 : Cond.instanceMethod yX1_daysBetween ∈ zTs := (tm4 130 rfl rfl)
theorem zse_23 : Cond.selects RX1 yX1_daysBetween yX1_daysBetween ∈ zTs := (tm4 131 rfl rfl)
theorem zmo_24 : zMok (yX1_reachesAbove, cX1_reachesAbove, 4, 1, RX1) := ⟨zpl_1.1, zpl_1.2.1, zpl_1.2.2, (tm4 140 rfl rfl), zin_1, Nat.le_of_ble_eq_true rfl, rfl⟩
theorem znp_24 : znp yX1_reachesAbove = some 1 := by decide +kernel
theorem zia_24 : Cond.instanceMethod yX1_reachesAbove ∈ zTs := (tm4 138 rfl rfl)
theorem zse_24 : Cond.selects RX1 yX1_reachesAbove yX1_reachesAbove ∈ zTs := (tm4 139 rfl rfl)
theorem zmo_25 : zMok (yX1_oneSource, cX1_oneSource, 5, 1, RX1) := ⟨zpl_1.1, zpl_1.2.1, zpl_1.2.2, (tm4 148 rfl rfl), zin_1, Nat.le_of_ble_eq_true rfl, rfl⟩
theorem znp_25 : znp yX1_oneSource = some 1 := by decide +kernel
theorem zia_25 : Cond.instanceMethod yX1_oneSource ∈ zTs := (tm4 146 rfl rfl)
theorem zse_25 : Cond.selects RX1 yX1_oneSource yX1_oneSource ∈ zTs := (tm4 147 rfl rfl)
theorem zmo_26 : zMok (yX1_arrival, cX1_arrival, 7, 1, RX1) := ⟨zpl_1.1, zpl_1.2.1, zpl_1.2.2, (tm4 158 rfl rfl), zin_1, Nat.le_of_ble_eq_true rfl, rfl⟩
theorem znp_26 : znp yX1_arrival = some 3 := by decide +kernel
theorem zia_26 : Cond.instanceMethod yX1_arrival ∈ zTs := (tm4 156 rfl rfl)
theorem zse_26 : Cond.selects RX1 yX1_arrival yX1_arrival ∈ zTs := (tm4 157 rfl rfl)
theorem zmo_27 : zMok (yX1_afterEditors, cX1_afterEditors, 8, 1, RX1) := ⟨zpl_1.1, zpl_1.2.1, zpl_1.2.2, (tm4 163 rfl rfl), zin_1, Nat.le_of_ble_eq_true rfl, rfl⟩
theorem znp_27 : znp yX1_afterEditors = some 4 := by decide +kernel
theorem zia_27 : Cond.instanceMethod yX1_afterEditors ∈ zTs := (tm4 162 rfl rfl)
theorem zse_27 : Cond.selects RX1 yX1_afterEditors yX1_afterEditors ∈ zTs := (tm0 21 rfl rfl)
theorem zmo_28 : zMok (yX2_readInto, cX2_readInto, 3, 3, RX2) := ⟨zpl_2.1, zpl_2.2.1, zpl_2.2.2, (tm3 55 rfl rfl), zin_2, Nat.le_of_ble_eq_true rfl, rfl⟩
theorem znp_28 : znp yX2_readInto = some 1 := by decide +kernel
theorem zia_28 : Cond.instanceMethod yX2_readInto ∈ zTs := (tm3 53 rfl rfl)
theorem zse_28 : Cond.selects RX2 yX2_readInto yX2_readInto ∈ zTs := (tm3 54 rfl rfl)
theorem zmo_29 : zMok (yX2_readLine, cX2_readLine, 1, 3, RX2) := ⟨zpl_2.1, zpl_2.2.1, zpl_2.2.2, (tm3 63 rfl rfl), zin_2, Nat.le_of_ble_eq_true rfl, rfl⟩
theorem znp_29 : znp yX2_readLine = some 0 := by decide +kernel
theorem zia_29 : Cond.instanceMethod yX2_readLine ∈ zTs := (tm3 62 rfl rfl)
theorem zse_29 : Cond.selects RX2 yX2_readLine yX2_readLine ∈ zTs := (tm0 2 rfl rfl)
theorem zmo_30 : zMok (yX2_begins, cX2_begins, 3, 3, RX2) := ⟨zpl_2.1, zpl_2.2.1, zpl_2.2.2, (tm3 71 rfl rfl), zin_2, Nat.le_of_ble_eq_true rfl, rfl⟩
theorem znp_30 : znp yX2_begins = some 2 := by decide +kernel
theorem zia_30 : Cond.instanceMethod yX2_begins ∈ zTs := (tm3 70 rfl rfl)
theorem zse_30 : Cond.selects RX2 yX2_begins yX2_begins ∈ zTs := (tm0 4 rfl rfl)
theorem zmo_31 : zMok (yX2_readNewName, cX2_readNewName, 1, 3, RX2) := ⟨zpl_2.1, zpl_2.2.1, zpl_2.2.2, (tm3 80 rfl rfl), zin_2, Nat.le_of_ble_eq_true rfl, rfl⟩
theorem znp_31 : znp yX2_readNewName = some 0 := by decide +kernel
theorem zia_31 : Cond.instanceMethod yX2_readNewName ∈ zTs := (tm3 79 rfl rfl)
theorem zse_31 : Cond.selects RX2 yX2_readNewName yX2_readNewName ∈ zTs := (tm0 5 rfl rfl)
theorem zmo_32 : zMok (yX2_readNewNameOnReach, cX2_readNewNameOnReach, 1, 3, RX2) := ⟨zpl_2.1, zpl_2.2.1, zpl_2.2.2, (tm3 137 rfl rfl), zin_2, Nat.le_of_ble_eq_true rfl, rfl⟩
theorem znp_32 : znp yX2_readNewNameOnReach = some 0 := by decide +kernel
theorem zia_32 : Cond.instanceMethod yX2_readNewNameOnReach ∈ zTs := (tm3 136 rfl rfl)
theorem zse_32 : Cond.selects RX2 yX2_readNewNameOnReach yX2_readNewNameOnReach ∈ zTs := (tm0 9 rfl rfl)
theorem zmo_33 : zMok (yX2_readTerm, cX2_readTerm, 2, 3, RX2) := ⟨zpl_2.1, zpl_2.2.1, zpl_2.2.2, (tm3 67 rfl rfl), zin_2, Nat.le_of_ble_eq_true rfl, rfl⟩
theorem znp_33 : znp yX2_readTerm = some 1 := by decide +kernel
theorem zia_33 : Cond.instanceMethod yX2_readTerm ∈ zTs := (tm3 66 rfl rfl)
theorem zse_33 : Cond.selects RX2 yX2_readTerm yX2_readTerm ∈ zTs := (tm0 3 rfl rfl)
theorem zmo_34 : zMok (yX2_readReach, cX2_readReach, 3, 3, RX2) := ⟨zpl_2.1, zpl_2.2.1, zpl_2.2.2, (tm3 105 rfl rfl), zin_2, Nat.le_of_ble_eq_true rfl, rfl⟩
theorem znp_34 : znp yX2_readReach = some 0 := by decide +kernel
theorem zia_34 : Cond.instanceMethod yX2_readReach ∈ zTs := (tm3 104 rfl rfl)
theorem zse_34 : Cond.selects RX2 yX2_readReach yX2_readReach ∈ zTs := (tm0 6 rfl rfl)
theorem zmo_35 : zMok (yX2_readSays, cX2_readSays, 4, 3, RX2) := ⟨zpl_2.1, zpl_2.2.1, zpl_2.2.2, (tm3 125 rfl rfl), zin_2, Nat.le_of_ble_eq_true rfl, rfl⟩
theorem znp_35 : znp yX2_readSays = some 0 := by decide +kernel
theorem zia_35 : Cond.instanceMethod yX2_readSays ∈ zTs := (tm3 124 rfl rfl)
theorem zse_35 : Cond.selects RX2 yX2_readSays yX2_readSays ∈ zTs := (tm0 7 rfl rfl)
theorem zmo_36 : zMok (yX2_readEditor, cX2_readEditor, 1, 3, RX2) := ⟨zpl_2.1, zpl_2.2.1, zpl_2.2.2, (tm3 133 rfl rfl), zin_2, Nat.le_of_ble_eq_true rfl, rfl⟩
theorem znp_36 : znp yX2_readEditor = some 0 := by decide +kernel
theorem zia_36 : Cond.instanceMethod yX2_readEditor ∈ zTs := (tm3 132 rfl rfl)
theorem zse_36 : Cond.selects RX2 yX2_readEditor yX2_readEditor ∈ zTs := (tm0 8 rfl rfl)
theorem zmo_37 : zMok (yX2_readWhoAndTerm, cX2_readWhoAndTerm, 2, 3, RX2) := ⟨zpl_2.1, zpl_2.2.1, zpl_2.2.2, (tm3 153 rfl rfl), zin_2, Nat.le_of_ble_eq_true rfl, rfl⟩
theorem znp_37 : znp yX2_readWhoAndTerm = some 1 := by decide +kernel
theorem zia_37 : Cond.instanceMethod yX2_readWhoAndTerm ∈ zTs := (tm3 152 rfl rfl)
theorem zse_37 : Cond.selects RX2 yX2_readWhoAndTerm yX2_readWhoAndTerm ∈ zTs := (tm0 11 rfl rfl)
theorem zmo_38 : zMok (yX2_readChange, cX2_readChange, 3, 3, RX2) := ⟨zpl_2.1, zpl_2.2.1, zpl_2.2.2, (tm3 149 rfl rfl), zin_2, Nat.le_of_ble_eq_true rfl, rfl⟩
theorem znp_38 : znp yX2_readChange = some 1 := by decide +kernel
theorem zia_38 : Cond.instanceMethod yX2_readChange ∈ zTs := (tm3 148 rfl rfl)
theorem zse_38 : Cond.selects RX2 yX2_readChange yX2_readChange ∈ zTs := (tm0 10 rfl rfl)
theorem zmo_39 : zMok (yX2_readTown, cX2_readTown, 1, 3, RX2) := ⟨zpl_2.1, zpl_2.2.1, zpl_2.2.2, (tm3 165 rfl rfl), zin_2, Nat.le_of_ble_eq_true rfl, rfl⟩
theorem znp_39 : znp yX2_readTown = some 0 := by decide +kernel
theorem zia_39 : Cond.instanceMethod yX2_readTown ∈ zTs := (tm3 164 rfl rfl)
theorem zse_39 : Cond.selects RX2 yX2_readTown yX2_readTown ∈ zTs := (tm0 12 rfl rfl)
theorem zmo_40 : zMok (yX2_readTaste, cX2_readTaste, 1, 3, RX2) := ⟨zpl_2.1, zpl_2.2.1, zpl_2.2.2, (tm3 173 rfl rfl), zin_2, Nat.le_of_ble_eq_true rfl, rfl⟩
theorem znp_40 : znp yX2_readTaste = some 0 := by decide +kernel
theorem zia_40 : Cond.instanceMethod yX2_readTaste ∈ zTs := (tm3 172 rfl rfl)
theorem zse_40 : Cond.selects RX2 yX2_readTaste yX2_readTaste ∈ zTs := (tm0 13 rfl rfl)
theorem zmo_41 : zMok (yX3_readFrom, cX3_readFrom, 4, 3, RX3) := ⟨zpl_3.1, zpl_3.2.1, zpl_3.2.2, (tm5 50 rfl rfl), zin_3, Nat.le_of_ble_eq_true rfl, rfl⟩
theorem znp_41 : znp yX3_readFrom = some 2 := by decide +kernel
theorem zia_41 : Cond.instanceMethod yX3_readFrom ∈ zTs := (tm5 48 rfl rfl)
theorem zse_41 : Cond.selects RX3 yX3_readFrom yX3_readFrom ∈ zTs := (tm5 49 rfl rfl)
theorem zmo_42 : zMok (yX3_readLine, cX3_readLine, 7, 3, RX3) := ⟨zpl_3.1, zpl_3.2.1, zpl_3.2.2, (tm5 54 rfl rfl), zin_3, Nat.le_of_ble_eq_true rfl, rfl⟩
theorem znp_42 : znp yX3_readLine = some 2 := by decide +kernel
theorem zia_42 : Cond.instanceMethod yX3_readLine ∈ zTs := (tm5 53 rfl rfl)
theorem zse_42 : Cond.selects RX3 yX3_readLine yX3_readLine ∈ zTs := (tm0 31 rfl rfl)
theorem zmo_43 : zMok (yX3_readDays, cX3_readDays, 2, 3, RX3) := ⟨zpl_3.1, zpl_3.2.1, zpl_3.2.2, (tm5 62 rfl rfl), zin_3, Nat.le_of_ble_eq_true rfl, rfl⟩
theorem znp_43 : znp yX3_readDays = some 1 := by decide +kernel
theorem zia_43 : Cond.instanceMethod yX3_readDays ∈ zTs := (tm5 61 rfl rfl)
theorem zse_43 : Cond.selects RX3 yX3_readDays yX3_readDays ∈ zTs := (tm0 32 rfl rfl)
theorem zmo_44 : zMok (yX3_readReads, cX3_readReads, 5, 3, RX3) := ⟨zpl_3.1, zpl_3.2.1, zpl_3.2.2, (tm5 71 rfl rfl), zin_3, Nat.le_of_ble_eq_true rfl, rfl⟩
theorem znp_44 : znp yX3_readReads = some 3 := by decide +kernel
theorem zia_44 : Cond.instanceMethod yX3_readReads ∈ zTs := (tm5 70 rfl rfl)
theorem zse_44 : Cond.selects RX3 yX3_readReads yX3_readReads ∈ zTs := (tm0 34 rfl rfl)
theorem zmo_45 : zMok (yX3_readAwake, cX3_readAwake, 3, 3, RX3) := ⟨zpl_3.1, zpl_3.2.1, zpl_3.2.2, (tm5 76 rfl rfl), zin_3, Nat.le_of_ble_eq_true rfl, rfl⟩
theorem znp_45 : znp yX3_readAwake = some 2 := by decide +kernel
theorem zia_45 : Cond.instanceMethod yX3_readAwake ∈ zTs := (tm5 75 rfl rfl)
theorem zse_45 : Cond.selects RX3 yX3_readAwake yX3_readAwake ∈ zTs := (tm0 35 rfl rfl)
theorem zmo_46 : zMok (yX3_add, cX3_add, 5, 3, RX3) := ⟨zpl_3.1, zpl_3.2.1, zpl_3.2.2, (tm5 67 rfl rfl), zin_3, Nat.le_of_ble_eq_true rfl, rfl⟩
theorem znp_46 : znp yX3_add = some 4 := by decide +kernel
theorem zia_46 : Cond.instanceMethod yX3_add ∈ zTs := (tm5 66 rfl rfl)
theorem zse_46 : Cond.selects RX3 yX3_add yX3_add ∈ zTs := (tm0 33 rfl rfl)
theorem zmo_47 : zMok (yX3_judge, cX3_judge, 5, 1, RX3) := ⟨zpl_3.1, zpl_3.2.1, zpl_3.2.2, (tm5 81 rfl rfl), zin_3, Nat.le_of_ble_eq_true rfl, rfl⟩
theorem znp_47 : znp yX3_judge = some 2 := by decide +kernel
theorem zia_47 : Cond.instanceMethod yX3_judge ∈ zTs := (tm5 79 rfl rfl)
theorem zse_47 : Cond.selects RX3 yX3_judge yX3_judge ∈ zTs := (tm5 80 rfl rfl)
theorem zmo_48 : zMok (yX3_live, cX3_live, 5, 1, RX3) := ⟨zpl_3.1, zpl_3.2.1, zpl_3.2.2, (tm5 85 rfl rfl), zin_3, Nat.le_of_ble_eq_true rfl, rfl⟩
theorem znp_48 : znp yX3_live = some 3 := by decide +kernel
theorem zia_48 : Cond.instanceMethod yX3_live ∈ zTs := (tm5 84 rfl rfl)
theorem zse_48 : Cond.selects RX3 yX3_live yX3_live ∈ zTs := (tm0 36 rfl rfl)
theorem zmo_49 : zMok (yX3_tell, cX3_tell, 2, 1, RX3) := ⟨zpl_3.1, zpl_3.2.1, zpl_3.2.2, (tm5 97 rfl rfl), zin_3, Nat.le_of_ble_eq_true rfl, rfl⟩
theorem znp_49 : znp yX3_tell = some 1 := by decide +kernel
theorem zia_49 : Cond.instanceMethod yX3_tell ∈ zTs := (tm5 95 rfl rfl)
theorem zse_49 : Cond.selects RX3 yX3_tell yX3_tell ∈ zTs := (tm5 96 rfl rfl)
theorem zmo_50 : zMok (yX4_begin, cX4_begin, 2, 0, RX4) := ⟨zpl_4.1, zpl_4.2.1, zpl_4.2.2, (tm5 20 rfl rfl), zin_4, Nat.le_of_ble_eq_true rfl, rfl⟩
theorem znp_50 : znp yX4_begin = some 1 := by decide +kernel
theorem zia_50 : Cond.instanceMethod yX4_begin ∈ zTs := (tm5 18 rfl rfl)
theorem zse_50 : Cond.selects RX4 yX4_begin yX4_begin ∈ zTs := (tm5 19 rfl rfl)
theorem zmo_51 : zMok (yX4_draw, cX4_draw, 2, 1, RX4) := ⟨zpl_4.1, zpl_4.2.1, zpl_4.2.2, (tm5 28 rfl rfl), zin_4, Nat.le_of_ble_eq_true rfl, rfl⟩
theorem znp_51 : znp yX4_draw = some 1 := by decide +kernel
theorem zia_51 : Cond.instanceMethod yX4_draw ∈ zTs := (tm5 26 rfl rfl)
theorem zse_51 : Cond.selects RX4 yX4_draw yX4_draw ∈ zTs := (tm5 27 rfl rfl)
theorem zmo_52 : zMok (yX6_find, cX6_find, 4, 1, RX6) := ⟨zpl_6.1, zpl_6.2.1, zpl_6.2.2, (tm3 93 rfl rfl), zin_6, Nat.le_of_ble_eq_true rfl, rfl⟩
theorem znp_52 : znp yX6_find = some 1 := by decide +kernel
theorem zia_52 : Cond.instanceMethod yX6_find ∈ zTs := (tm3 91 rfl rfl)
theorem zse_52 : Cond.selects RX6 yX6_find yX6_find ∈ zTs := (tm3 92 rfl rfl)
theorem zmo_53 : zMok (yX6_add, cX6_add, 5, 0, RX6) := ⟨zpl_6.1, zpl_6.2.1, zpl_6.2.2, (tm3 101 rfl rfl), zin_6, Nat.le_of_ble_eq_true rfl, rfl⟩
theorem znp_53 : znp yX6_add = some 3 := by decide +kernel
theorem zia_53 : Cond.instanceMethod yX6_add ∈ zTs := (tm3 99 rfl rfl)
theorem zse_53 : Cond.selects RX6 yX6_add yX6_add ∈ zTs := (tm3 100 rfl rfl)
theorem zmo_54 : zMok (yX6_copyFrom, cX6_copyFrom, 2, 0, RX6) := ⟨zpl_6.1, zpl_6.2.1, zpl_6.2.2, (tm5 165 rfl rfl), zin_6, Nat.le_of_ble_eq_true rfl, rfl⟩
theorem znp_54 : znp yX6_copyFrom = some 1 := by decide +kernel
theorem zia_54 : Cond.instanceMethod yX6_copyFrom ∈ zTs := (tm5 163 rfl rfl)
theorem zse_54 : Cond.selects RX6 yX6_copyFrom yX6_copyFrom ∈ zTs := (tm5 164 rfl rfl)
theorem zmo_55 : zMok (yX7_clear, cX7_clear, 1, 0, RX7) := ⟨zpl_7.1, zpl_7.2.1, zpl_7.2.2, (tm3 190 rfl rfl), zin_7, Nat.le_of_ble_eq_true rfl, rfl⟩
theorem znp_55 : znp yX7_clear = some 0 := by decide +kernel
theorem zia_55 : Cond.instanceMethod yX7_clear ∈ zTs := (tm3 188 rfl rfl)
theorem zse_55 : Cond.selects RX7 yX7_clear yX7_clear ∈ zTs := (tm3 189 rfl rfl)
theorem zmo_56 : zMok (yX7_copyFrom, cX7_copyFrom, 2, 0, RX7) := ⟨zpl_7.1, zpl_7.2.1, zpl_7.2.2, (tm5 171 rfl rfl), zin_7, Nat.le_of_ble_eq_true rfl, rfl⟩
theorem znp_56 : znp yX7_copyFrom = some 1 := by decide +kernel
theorem zia_56 : Cond.instanceMethod yX7_copyFrom ∈ zTs := (tm5 169 rfl rfl)
theorem zse_56 : Cond.selects RX7 yX7_copyFrom yX7_copyFrom ∈ zTs := (tm5 170 rfl rfl)
theorem zmo_57 : zMok (yX7_readFrom, cX7_readFrom, 3, 3, RX7) := ⟨zpl_7.1, zpl_7.2.1, zpl_7.2.2, (tm5 105 rfl rfl), zin_7, Nat.le_of_ble_eq_true rfl, rfl⟩
theorem znp_57 : znp yX7_readFrom = some 2 := by decide +kernel
theorem zia_57 : Cond.instanceMethod yX7_readFrom ∈ zTs := (tm5 103 rfl rfl)
theorem zse_57 : Cond.selects RX7 yX7_readFrom yX7_readFrom ∈ zTs := (tm5 104 rfl rfl)
theorem zmo_58 : zMok (yX7_readCond, cX7_readCond, 6, 3, RX7) := ⟨zpl_7.1, zpl_7.2.1, zpl_7.2.2, (tm5 110 rfl rfl), zin_7, Nat.le_of_ble_eq_true rfl, rfl⟩
theorem znp_58 : znp yX7_readCond = some 3 := by decide +kernel
theorem zia_58 : Cond.instanceMethod yX7_readCond ∈ zTs := (tm5 109 rfl rfl)
theorem zse_58 : Cond.selects RX7 yX7_readCond yX7_readCond ∈ zTs := (tm0 37 rfl rfl)
theorem zmo_59 : zMok (yX7_readAll, cX7_readAll, 6, 3, RX7) := ⟨zpl_7.1, zpl_7.2.1, zpl_7.2.2, (tm5 114 rfl rfl), zin_7, Nat.le_of_ble_eq_true rfl, rfl⟩
theorem znp_59 : znp yX7_readAll = some 3 := by decide +kernel
theorem zia_59 : Cond.instanceMethod yX7_readAll ∈ zTs := (tm5 113 rfl rfl)
theorem zse_59 : Cond.selects RX7 yX7_readAll yX7_readAll ∈ zTs := (tm0 38 rfl rfl)
theorem zmo_60 : zMok (yX7_readOne, cX7_readOne, 6, 3, RX7) := ⟨zpl_7.1, zpl_7.2.1, zpl_7.2.2, (tm5 118 rfl rfl), zin_7, Nat.le_of_ble_eq_true rfl, rfl⟩
theorem znp_60 : znp yX7_readOne = some 3 := by decide +kernel
theorem zia_60 : Cond.instanceMethod yX7_readOne ∈ zTs := (tm5 117 rfl rfl)
theorem zse_60 : Cond.selects RX7 yX7_readOne yX7_readOne ∈ zTs := (tm0 39 rfl rfl)
theorem zmo_61 : zMok (yX7_beginsOne, cX7_beginsOne, 1, 3, RX7) := ⟨zpl_7.1, zpl_7.2.1, zpl_7.2.2, (tm5 121 rfl rfl), zin_7, Nat.le_of_ble_eq_true rfl, rfl⟩
theorem znp_61 : znp yX7_beginsOne = some 1 := by decide +kernel
theorem zst_61 : Cond.static yX7_beginsOne ∈ zTs := (tm5 120 rfl rfl)
theorem zmo_62 : zMok (yX7_addNamed, cX7_addNamed, 4, 3, RX7) := ⟨zpl_7.1, zpl_7.2.1, zpl_7.2.2, (tm5 133 rfl rfl), zin_7, Nat.le_of_ble_eq_true rfl, rfl⟩
theorem znp_62 : znp yX7_addNamed = some 3 := by decide +kernel
theorem zia_62 : Cond.instanceMethod yX7_addNamed ∈ zTs := (tm5 132 rfl rfl)
theorem zse_62 : Cond.selects RX7 yX7_addNamed yX7_addNamed ∈ zTs := (tm0 41 rfl rfl)
theorem zmo_63 : zMok (yX7_readMeasure, cX7_readMeasure, 4, 3, RX7) := ⟨zpl_7.1, zpl_7.2.1, zpl_7.2.2, (tm5 137 rfl rfl), zin_7, Nat.le_of_ble_eq_true rfl, rfl⟩
theorem znp_63 : znp yX7_readMeasure = some 2 := by decide +kernel
theorem zia_63 : Cond.instanceMethod yX7_readMeasure ∈ zTs := (tm5 136 rfl rfl)
theorem zse_63 : Cond.selects RX7 yX7_readMeasure yX7_readMeasure ∈ zTs := (tm0 42 rfl rfl)
theorem zmo_64 : zMok (yX7_add, cX7_add, 4, 3, RX7) := ⟨zpl_7.1, zpl_7.2.1, zpl_7.2.2, (tm5 128 rfl rfl), zin_7, Nat.le_of_ble_eq_true rfl, rfl⟩
theorem znp_64 : znp yX7_add = some 3 := by decide +kernel
theorem zia_64 : Cond.instanceMethod yX7_add ∈ zTs := (tm5 127 rfl rfl)
theorem zse_64 : Cond.selects RX7 yX7_add yX7_add ∈ zTs := (tm0 40 rfl rfl)
theorem zmo_65 : zMok (yX7_holdsOf, cX7_holdsOf, 7, 3, RX7) := ⟨zpl_7.1, zpl_7.2.1, zpl_7.2.2, (tm5 145 rfl rfl), zin_7, Nat.le_of_ble_eq_true rfl, rfl⟩
theorem znp_65 : znp yX7_holdsOf = some 3 := by decide +kernel
theorem zia_65 : Cond.instanceMethod yX7_holdsOf ∈ zTs := (tm5 143 rfl rfl)
theorem zse_65 : Cond.selects RX7 yX7_holdsOf yX7_holdsOf ∈ zTs := (tm5 144 rfl rfl)
theorem zmo_66 : zMok (yX7_isSo, cX7_isSo, 5, 3, RX7) := ⟨zpl_7.1, zpl_7.2.1, zpl_7.2.2, (tm5 149 rfl rfl), zin_7, Nat.le_of_ble_eq_true rfl, rfl⟩
theorem znp_66 : znp yX7_isSo = some 4 := by decide +kernel
theorem zia_66 : Cond.instanceMethod yX7_isSo ∈ zTs := (tm5 148 rfl rfl)
theorem zse_66 : Cond.selects RX7 yX7_isSo yX7_isSo ∈ zTs := (tm0 43 rfl rfl)
theorem zmo_67 : zMok (yX7_compares, cX7_compares, 3, 3, RX7) := ⟨zpl_7.1, zpl_7.2.1, zpl_7.2.2, (tm5 153 rfl rfl), zin_7, Nat.le_of_ble_eq_true rfl, rfl⟩
theorem znp_67 : znp yX7_compares = some 2 := by decide +kernel
theorem zia_67 : Cond.instanceMethod yX7_compares ∈ zTs := (tm5 152 rfl rfl)
theorem zse_67 : Cond.selects RX7 yX7_compares yX7_compares ∈ zTs := (tm0 44 rfl rfl)
theorem zmo_68 : zMok (yX8_begin, cX8_begin, 2, 0, RX8) := ⟨zpl_8.1, zpl_8.2.1, zpl_8.2.2, (tm2 9 rfl rfl), zin_8, Nat.le_of_ble_eq_true rfl, rfl⟩
theorem znp_68 : znp yX8_begin = some 1 := by decide +kernel
theorem zia_68 : Cond.instanceMethod yX8_begin ∈ zTs := (tm2 7 rfl rfl)
theorem zse_68 : Cond.selects RX8 yX8_begin yX8_begin ∈ zTs := (tm2 8 rfl rfl)
theorem zmo_69 : zMok (yX8_copyFrom, cX8_copyFrom, 2, 0, RX8) := ⟨zpl_8.1, zpl_8.2.1, zpl_8.2.2, (tm4 27 rfl rfl), zin_8, Nat.le_of_ble_eq_true rfl, rfl⟩
theorem znp_69 : znp yX8_copyFrom = some 1 := by decide +kernel
theorem zia_69 : Cond.instanceMethod yX8_copyFrom ∈ zTs := (tm4 25 rfl rfl)
theorem zse_69 : Cond.selects RX8 yX8_copyFrom yX8_copyFrom ∈ zTs := (tm4 26 rfl rfl)
theorem zmo_70 : zMok (yX8_daysLeft, cX8_daysLeft, 1, 1, RX8) := ⟨zpl_8.1, zpl_8.2.1, zpl_8.2.2, (tm4 14 rfl rfl), zin_8, Nat.le_of_ble_eq_true rfl, rfl⟩
theorem znp_70 : znp yX8_daysLeft = some 0 := by decide +kernel
theorem zia_70 : Cond.instanceMethod yX8_daysLeft ∈ zTs := (tm4 12 rfl rfl)
theorem zse_70 : Cond.selects RX8 yX8_daysLeft yX8_daysLeft ∈ zTs := (tm4 13 rfl rfl)
theorem zmo_71 : zMok (yX8_isAwake, cX8_isAwake, 2, 3, RX8) := ⟨zpl_8.1, zpl_8.2.1, zpl_8.2.2, (tm3 227 rfl rfl), zin_8, Nat.le_of_ble_eq_true rfl, rfl⟩
theorem znp_71 : znp yX8_isAwake = some 1 := by decide +kernel
theorem zia_71 : Cond.instanceMethod yX8_isAwake ∈ zTs := (tm3 225 rfl rfl)
theorem zse_71 : Cond.selects RX8 yX8_isAwake yX8_isAwake ∈ zTs := (tm3 226 rfl rfl)
theorem zmo_72 : zMok (yX8_toggle, cX8_toggle, 2, 0, RX8) := ⟨zpl_8.1, zpl_8.2.1, zpl_8.2.2, (tm4 86 rfl rfl), zin_8, Nat.le_of_ble_eq_true rfl, rfl⟩
theorem znp_72 : znp yX8_toggle = some 1 := by decide +kernel
theorem zia_72 : Cond.instanceMethod yX8_toggle ∈ zTs := (tm4 84 rfl rfl)
theorem zse_72 : Cond.selects RX8 yX8_toggle yX8_toggle ∈ zTs := (tm4 85 rfl rfl)
theorem zmo_73 : zMok (yX8_onTheirWay, cX8_onTheirWay, 6, 1, RX8) := ⟨zpl_8.1, zpl_8.2.1, zpl_8.2.2, (tm4 0 rfl rfl), zin_8, Nat.le_of_ble_eq_true rfl, rfl⟩
theorem znp_73 : znp yX8_onTheirWay = some 0 := by decide +kernel
theorem zia_73 : Cond.instanceMethod yX8_onTheirWay ∈ zTs := (tm3 238 rfl rfl)
theorem zse_73 : Cond.selects RX8 yX8_onTheirWay yX8_onTheirWay ∈ zTs := (tm3 239 rfl rfl)
theorem zmo_74 : zMok (yX8_cellOf, cX8_cellOf, 6, 1, RX8) := ⟨zpl_8.1, zpl_8.2.1, zpl_8.2.2, (tm4 44 rfl rfl), zin_8, Nat.le_of_ble_eq_true rfl, rfl⟩
theorem znp_74 : znp yX8_cellOf = some 3 := by decide +kernel
theorem zia_74 : Cond.instanceMethod yX8_cellOf ∈ zTs := (tm4 43 rfl rfl)
theorem zse_74 : Cond.selects RX8 yX8_cellOf yX8_cellOf ∈ zTs := (tm0 15 rfl rfl)
theorem zmo_75 : zMok (yX8_termAt, cX8_termAt, 4, 1, RX8) := ⟨zpl_8.1, zpl_8.2.1, zpl_8.2.2, (tm4 53 rfl rfl), zin_8, Nat.le_of_ble_eq_true rfl, rfl⟩
theorem znp_75 : znp yX8_termAt = some 3 := by decide +kernel
theorem zia_75 : Cond.instanceMethod yX8_termAt ∈ zTs := (tm4 51 rfl rfl)
theorem zse_75 : Cond.selects RX8 yX8_termAt yX8_termAt ∈ zTs := (tm4 52 rfl rfl)
theorem zmo_76 : zMok (yX8_put, cX8_put, 5, 0, RX8) := ⟨zpl_8.1, zpl_8.2.1, zpl_8.2.2, (tm4 57 rfl rfl), zin_8, Nat.le_of_ble_eq_true rfl, rfl⟩
theorem znp_76 : znp yX8_put = some 4 := by decide +kernel
theorem zia_76 : Cond.instanceMethod yX8_put ∈ zTs := (tm4 55 rfl rfl)
theorem zse_76 : Cond.selects RX8 yX8_put yX8_put ∈ zTs := (tm4 56 rfl rfl)
theorem zmo_77 : zMok (yX8_readOn, cX8_readOn, 3, 1, RX8) := ⟨zpl_8.1, zpl_8.2.1, zpl_8.2.2, (tm4 116 rfl rfl), zin_8, Nat.le_of_ble_eq_true rfl, rfl⟩
theorem znp_77 : znp yX8_readOn = some 2 := by decide +kernel
theorem zia_77 : Cond.instanceMethod yX8_readOn ∈ zTs := (tm4 114 rfl rfl)
theorem zse_77 : Cond.selects RX8 yX8_readOn yX8_readOn ∈ zTs := (tm4 115 rfl rfl)
theorem zmo_78 : zMok (yX8_pass, cX8_pass, 5, 0, RX8) := ⟨zpl_8.1, zpl_8.2.1, zpl_8.2.2, (tm4 35 rfl rfl), zin_8, Nat.le_of_ble_eq_true rfl, rfl⟩
theorem znp_78 : znp yX8_pass = some 2 := by decide +kernel
theorem zia_78 : Cond.instanceMethod yX8_pass ∈ zTs := (tm4 33 rfl rfl)
theorem zse_78 : Cond.selects RX8 yX8_pass yX8_pass ∈ zTs := (tm4 34 rfl rfl)
theorem zmo_79 : zMok (yX8_passDrawnDay, cX8_passDrawnDay, 6, 0, RX8) := ⟨zpl_8.1, zpl_8.2.1, zpl_8.2.2, (tm5 24 rfl rfl), zin_8, Nat.le_of_ble_eq_true rfl, rfl⟩
theorem znp_79 : znp yX8_passDrawnDay = some 2 := by decide +kernel
theorem zia_79 : Cond.instanceMethod yX8_passDrawnDay ∈ zTs := (tm5 22 rfl rfl)
theorem zse_79 : Cond.selects RX8 yX8_passDrawnDay yX8_passDrawnDay ∈ zTs := (tm5 23 rfl rfl)
theorem zmo_80 : zMok (yX8_passDay, cX8_passDay, 5, 0, RX8) := ⟨zpl_8.1, zpl_8.2.1, zpl_8.2.2, (tm4 40 rfl rfl), zin_8, Nat.le_of_ble_eq_true rfl, rfl⟩
theorem znp_80 : znp yX8_passDay = some 1 := by decide +kernel
theorem zia_80 : Cond.instanceMethod yX8_passDay ∈ zTs := (tm4 38 rfl rfl)
theorem zse_80 : Cond.selects RX8 yX8_passDay yX8_passDay ∈ zTs := (tm4 39 rfl rfl)
theorem zmo_81 : zMok (yX8_carry, cX8_carry, 5, 0, RX8) := ⟨zpl_8.1, zpl_8.2.1, zpl_8.2.2, (tm4 49 rfl rfl), zin_8, Nat.le_of_ble_eq_true rfl, rfl⟩
theorem znp_81 : znp yX8_carry = some 3 := by decide +kernel
theorem zia_81 : Cond.instanceMethod yX8_carry ∈ zTs := (tm4 48 rfl rfl)
theorem zse_81 : Cond.selects RX8 yX8_carry yX8_carry ∈ zTs := (tm0 16 rfl rfl)
theorem zmo_82 : zMok (yX8_edit, cX8_edit, 6, 0, RX8) := ⟨zpl_8.1, zpl_8.2.1, zpl_8.2.2, (tm4 62 rfl rfl), zin_8, Nat.le_of_ble_eq_true rfl, rfl⟩
theorem znp_82 : znp yX8_edit = some 2 := by decide +kernel
theorem zia_82 : Cond.instanceMethod yX8_edit ∈ zTs := (tm4 61 rfl rfl)
theorem zse_82 : Cond.selects RX8 yX8_edit yX8_edit ∈ zTs := (tm0 17 rfl rfl)
theorem zmo_83 : zMok (yX8_readInTowns, cX8_readInTowns, 6, 0, RX8) := ⟨zpl_8.1, zpl_8.2.1, zpl_8.2.2, (tm4 67 rfl rfl), zin_8, Nat.le_of_ble_eq_true rfl, rfl⟩
theorem znp_83 : znp yX8_readInTowns = some 2 := by decide +kernel
theorem zia_83 : Cond.instanceMethod yX8_readInTowns ∈ zTs := (tm4 66 rfl rfl)
theorem zse_83 : Cond.selects RX8 yX8_readInTowns yX8_readInTowns ∈ zTs := (tm0 18 rfl rfl)
theorem zmo_84 : zMok (yX8_noteTerm, cX8_noteTerm, 5, 0, RX8) := ⟨zpl_8.1, zpl_8.2.1, zpl_8.2.2, (tm4 71 rfl rfl), zin_8, Nat.le_of_ble_eq_true rfl, rfl⟩
theorem znp_84 : znp yX8_noteTerm = some 4 := by decide +kernel
theorem zia_84 : Cond.instanceMethod yX8_noteTerm ∈ zTs := (tm4 70 rfl rfl)
theorem zse_84 : Cond.selects RX8 yX8_noteTerm yX8_noteTerm ∈ zTs := (tm0 19 rfl rfl)
theorem zmo_85 : zMok (yX8_goOnSaying, cX8_goOnSaying, 5, 0, RX8) := ⟨zpl_8.1, zpl_8.2.1, zpl_8.2.2, (tm4 76 rfl rfl), zin_8, Nat.le_of_ble_eq_true rfl, rfl⟩
theorem znp_85 : znp yX8_goOnSaying = some 3 := by decide +kernel
theorem zia_85 : Cond.instanceMethod yX8_goOnSaying ∈ zTs := (tm4 75 rfl rfl)
theorem zse_85 : Cond.selects RX8 yX8_goOnSaying yX8_goOnSaying ∈ zTs := (tm0 20 rfl rfl)
theorem zmo_86 : zMok (yX9_take, cX9_take, 3, 0, RX9) := ⟨zpl_9.1, zpl_9.2.1, zpl_9.2.2, (tm3 22 rfl rfl), zin_9, Nat.le_of_ble_eq_true rfl, rfl⟩
theorem znp_86 : znp yX9_take = some 1 := by decide +kernel
theorem zia_86 : Cond.instanceMethod yX9_take ∈ zTs := (tm3 20 rfl rfl)
theorem zse_86 : Cond.selects RX9 yX9_take yX9_take ∈ zTs := (tm3 21 rfl rfl)
theorem zmo_87 : zMok (yX9_termOf, cX9_termOf, 2, 1, RX9) := ⟨zpl_9.1, zpl_9.2.1, zpl_9.2.2, (tm4 177 rfl rfl), zin_9, Nat.le_of_ble_eq_true rfl, rfl⟩
theorem znp_87 : znp yX9_termOf = some 1 := by decide +kernel
theorem zia_87 : Cond.instanceMethod yX9_termOf ∈ zTs := (tm4 175 rfl rfl)
theorem zse_87 : Cond.selects RX9 yX9_termOf yX9_termOf ∈ zTs := (tm4 176 rfl rfl)
theorem zmo_88 : zMok (yX9_open, cX9_open, 2, 0, RX9) := ⟨zpl_9.1, zpl_9.2.1, zpl_9.2.2, (tm3 34 rfl rfl), zin_9, Nat.le_of_ble_eq_true rfl, rfl⟩
theorem znp_88 : znp yX9_open = some 1 := by decide +kernel
theorem zia_88 : Cond.instanceMethod yX9_open ∈ zTs := (tm3 32 rfl rfl)
theorem zse_88 : Cond.selects RX9 yX9_open yX9_open ∈ zTs := (tm3 33 rfl rfl)
theorem zmo_89 : zMok (yX9_advance, cX9_advance, 2, 0, RX9) := ⟨zpl_9.1, zpl_9.2.1, zpl_9.2.2, (tm3 38 rfl rfl), zin_9, Nat.le_of_ble_eq_true rfl, rfl⟩
theorem znp_89 : znp yX9_advance = some 0 := by decide +kernel
theorem zia_89 : Cond.instanceMethod yX9_advance ∈ zTs := (tm3 36 rfl rfl)
theorem zse_89 : Cond.selects RX9 yX9_advance yX9_advance ∈ zTs := (tm3 37 rfl rfl)
theorem zmo_90 : zMok (yX9_scanToken, cX9_scanToken, 5, 0, RX9) := ⟨zpl_9.1, zpl_9.2.1, zpl_9.2.2, (tm3 45 rfl rfl), zin_9, Nat.le_of_ble_eq_true rfl, rfl⟩
theorem znp_90 : znp yX9_scanToken = some 0 := by decide +kernel
theorem zia_90 : Cond.instanceMethod yX9_scanToken ∈ zTs := (tm3 44 rfl rfl)
theorem zse_90 : Cond.selects RX9 yX9_scanToken yX9_scanToken ∈ zTs := (tm0 0 rfl rfl)
theorem zmo_91 : zMok (yX9_findKey, cX9_findKey, 2, 0, RX9) := ⟨zpl_9.1, zpl_9.2.1, zpl_9.2.2, (tm3 49 rfl rfl), zin_9, Nat.le_of_ble_eq_true rfl, rfl⟩
theorem znp_91 : znp yX9_findKey = some 0 := by decide +kernel
theorem zia_91 : Cond.instanceMethod yX9_findKey ∈ zTs := (tm3 48 rfl rfl)
theorem zse_91 : Cond.selects RX9 yX9_findKey yX9_findKey ∈ zTs := (tm0 1 rfl rfl)
theorem zmo_92 : zMok (yX9_fail, cX9_fail, 2, 3, RX9) := ⟨zpl_9.1, zpl_9.2.1, zpl_9.2.2, (tm3 75 rfl rfl), zin_9, Nat.le_of_ble_eq_true rfl, rfl⟩
theorem znp_92 : znp yX9_fail = some 1 := by decide +kernel
theorem zia_92 : Cond.instanceMethod yX9_fail ∈ zTs := (tm3 73 rfl rfl)
theorem zse_92 : Cond.selects RX9 yX9_fail yX9_fail ∈ zTs := (tm3 74 rfl rfl)
theorem zmo_93 : zMok (yX9_passes, cX9_passes, 2, 3, RX9) := ⟨zpl_9.1, zpl_9.2.1, zpl_9.2.2, (tm3 185 rfl rfl), zin_9, Nat.le_of_ble_eq_true rfl, rfl⟩
theorem znp_93 : znp yX9_passes = some 1 := by decide +kernel
theorem zia_93 : Cond.instanceMethod yX9_passes ∈ zTs := (tm3 183 rfl rfl)
theorem zse_93 : Cond.selects RX9 yX9_passes yX9_passes ∈ zTs := (tm3 184 rfl rfl)
theorem zmo_94 : zMok (yX9_isName, cX9_isName, 1, 3, RX9) := ⟨zpl_9.1, zpl_9.2.1, zpl_9.2.2, (tm3 88 rfl rfl), zin_9, Nat.le_of_ble_eq_true rfl, rfl⟩
theorem znp_94 : znp yX9_isName = some 0 := by decide +kernel
theorem zia_94 : Cond.instanceMethod yX9_isName ∈ zTs := (tm3 86 rfl rfl)
theorem zse_94 : Cond.selects RX9 yX9_isName yX9_isName ∈ zTs := (tm3 87 rfl rfl)
theorem zmo_95 : zMok (yX9_isNewName, cX9_isNewName, 2, 3, RX9) := ⟨zpl_9.1, zpl_9.2.1, zpl_9.2.2, (tm3 84 rfl rfl), zin_9, Nat.le_of_ble_eq_true rfl, rfl⟩
theorem znp_95 : znp yX9_isNewName = some 1 := by decide +kernel
theorem zia_95 : Cond.instanceMethod yX9_isNewName ∈ zTs := (tm3 82 rfl rfl)
theorem zse_95 : Cond.selects RX9 yX9_isNewName yX9_isNewName ∈ zTs := (tm3 83 rfl rfl)
theorem zmo_96 : zMok (yX9_toldName, cX9_toldName, 4, 1, RX9) := ⟨zpl_9.1, zpl_9.2.1, zpl_9.2.2, (tm3 113 rfl rfl), zin_9, Nat.le_of_ble_eq_true rfl, rfl⟩
theorem znp_96 : znp yX9_toldName = some 2 := by decide +kernel
theorem zia_96 : Cond.instanceMethod yX9_toldName ∈ zTs := (tm3 111 rfl rfl)
theorem zse_96 : Cond.selects RX9 yX9_toldName yX9_toldName ∈ zTs := (tm3 112 rfl rfl)
theorem zmo_97 : zMok (yX9_isNumber, cX9_isNumber, 3, 3, RX9) := ⟨zpl_9.1, zpl_9.2.1, zpl_9.2.2, (tm3 109 rfl rfl), zin_9, Nat.le_of_ble_eq_true rfl, rfl⟩
theorem znp_97 : znp yX9_isNumber = some 2 := by decide +kernel
theorem zia_97 : Cond.instanceMethod yX9_isNumber ∈ zTs := (tm3 107 rfl rfl)
theorem zse_97 : Cond.selects RX9 yX9_isNumber yX9_isNumber ∈ zTs := (tm3 108 rfl rfl)
theorem zmo_98 : zMok (yX10_feed, cX10_feed, 6, 1, RX10) := ⟨zpl_10.1, zpl_10.2.1, zpl_10.2.2, (tm3 18 rfl rfl), zin_10, Nat.le_of_ble_eq_true rfl, rfl⟩
theorem znp_98 : znp yX10_feed = some 5 := by decide +kernel
theorem zia_98 : Cond.instanceMethod yX10_feed ∈ zTs := (tm3 16 rfl rfl)
theorem zse_98 : Cond.selects RX10 yX10_feed yX10_feed ∈ zTs := (tm3 17 rfl rfl)
theorem zmo_99 : zMok (yX10_end, cX10_end, 2, 3, RX10) := ⟨zpl_10.1, zpl_10.2.1, zpl_10.2.2, (tm3 26 rfl rfl), zin_10, Nat.le_of_ble_eq_true rfl, rfl⟩
theorem znp_99 : znp yX10_end = some 1 := by decide +kernel
theorem zia_99 : Cond.instanceMethod yX10_end ∈ zTs := (tm3 24 rfl rfl)
theorem zse_99 : Cond.selects RX10 yX10_end yX10_end ∈ zTs := (tm3 25 rfl rfl)
theorem zmo_100 : zMok (yX10_country, cX10_country, 3, 1, RX10) := ⟨zpl_10.1, zpl_10.2.1, zpl_10.2.2, (tm3 30 rfl rfl), zin_10, Nat.le_of_ble_eq_true rfl, rfl⟩
theorem znp_100 : znp yX10_country = some 0 := by decide +kernel
theorem zia_100 : Cond.instanceMethod yX10_country ∈ zTs := (tm3 28 rfl rfl)
theorem zse_100 : Cond.selects RX10 yX10_country yX10_country ∈ zTs := (tm3 29 rfl rfl)
theorem zmo_101 : zMok (yX10_fault, cX10_fault, 1, 1, RX10) := ⟨zpl_10.1, zpl_10.2.1, zpl_10.2.2, (tm3 198 rfl rfl), zin_10, Nat.le_of_ble_eq_true rfl, rfl⟩
theorem znp_101 : znp yX10_fault = some 0 := by decide +kernel
theorem zia_101 : Cond.instanceMethod yX10_fault ∈ zTs := (tm3 196 rfl rfl)
theorem zse_101 : Cond.selects RX10 yX10_fault yX10_fault ∈ zTs := (tm3 197 rfl rfl)
theorem zmo_102 : zMok (yX10_term, cX10_term, 2, 1, RX10) := ⟨zpl_10.1, zpl_10.2.1, zpl_10.2.2, (tm3 202 rfl rfl), zin_10, Nat.le_of_ble_eq_true rfl, rfl⟩
theorem znp_102 : znp yX10_term = some 1 := by decide +kernel
theorem zia_102 : Cond.instanceMethod yX10_term ∈ zTs := (tm3 200 rfl rfl)
theorem zse_102 : Cond.selects RX10 yX10_term yX10_term ∈ zTs := (tm3 201 rfl rfl)
theorem zmo_103 : zMok (yX10_reach, cX10_reach, 3, 1, RX10) := ⟨zpl_10.1, zpl_10.2.1, zpl_10.2.2, (tm3 210 rfl rfl), zin_10, Nat.le_of_ble_eq_true rfl, rfl⟩
theorem znp_103 : znp yX10_reach = some 2 := by decide +kernel
theorem zia_103 : Cond.instanceMethod yX10_reach ∈ zTs := (tm3 208 rfl rfl)
theorem zse_103 : Cond.selects RX10 yX10_reach yX10_reach ∈ zTs := (tm3 209 rfl rfl)
theorem zmo_104 : zMok (yX10_editor, cX10_editor, 3, 1, RX10) := ⟨zpl_10.1, zpl_10.2.1, zpl_10.2.2, (tm3 219 rfl rfl), zin_10, Nat.le_of_ble_eq_true rfl, rfl⟩
theorem znp_104 : znp yX10_editor = some 2 := by decide +kernel
theorem zia_104 : Cond.instanceMethod yX10_editor ∈ zTs := (tm3 217 rfl rfl)
theorem zse_104 : Cond.selects RX10 yX10_editor yX10_editor ∈ zTs := (tm3 218 rfl rfl)
theorem zmo_105 : zMok (yX10_makes, cX10_makes, 3, 1, RX10) := ⟨zpl_10.1, zpl_10.2.1, zpl_10.2.2, (tm3 231 rfl rfl), zin_10, Nat.le_of_ble_eq_true rfl, rfl⟩
theorem znp_105 : znp yX10_makes = some 2 := by decide +kernel
theorem zia_105 : Cond.instanceMethod yX10_makes ∈ zTs := (tm3 229 rfl rfl)
theorem zse_105 : Cond.selects RX10 yX10_makes yX10_makes ∈ zTs := (tm3 230 rfl rfl)
theorem zmo_106 : zMok (yX10_now, cX10_now, 2, 1, RX10) := ⟨zpl_10.1, zpl_10.2.1, zpl_10.2.2, (tm3 236 rfl rfl), zin_10, Nat.le_of_ble_eq_true rfl, rfl⟩
theorem znp_106 : znp yX10_now = some 1 := by decide +kernel
theorem zia_106 : Cond.instanceMethod yX10_now ∈ zTs := (tm3 234 rfl rfl)
theorem zse_106 : Cond.selects RX10 yX10_now yX10_now ∈ zTs := (tm3 235 rfl rfl)
theorem zmo_107 : zMok (yX10_days, cX10_days, 3, 1, RX10) := ⟨zpl_10.1, zpl_10.2.1, zpl_10.2.2, (tm4 7 rfl rfl), zin_10, Nat.le_of_ble_eq_true rfl, rfl⟩
theorem znp_107 : znp yX10_days = some 1 := by decide +kernel
theorem zia_107 : Cond.instanceMethod yX10_days ∈ zTs := (tm4 5 rfl rfl)
theorem zse_107 : Cond.selects RX10 yX10_days yX10_days ∈ zTs := (tm4 6 rfl rfl)
theorem zmo_108 : zMok (yX10_wake, cX10_wake, 3, 3, RX10) := ⟨zpl_10.1, zpl_10.2.1, zpl_10.2.2, (tm4 82 rfl rfl), zin_10, Nat.le_of_ble_eq_true rfl, rfl⟩
theorem znp_108 : znp yX10_wake = some 2 := by decide +kernel
theorem zia_108 : Cond.instanceMethod yX10_wake ∈ zTs := (tm4 80 rfl rfl)
theorem zse_108 : Cond.selects RX10 yX10_wake yX10_wake ∈ zTs := (tm4 81 rfl rfl)
theorem zmo_109 : zMok (yX10_stone, cX10_stone, 4, 3, RX10) := ⟨zpl_10.1, zpl_10.2.1, zpl_10.2.2, (tm4 90 rfl rfl), zin_10, Nat.le_of_ble_eq_true rfl, rfl⟩
theorem znp_109 : znp yX10_stone = some 3 := by decide +kernel
theorem zia_109 : Cond.instanceMethod yX10_stone ∈ zTs := (tm4 88 rfl rfl)
theorem zse_109 : Cond.selects RX10 yX10_stone yX10_stone ∈ zTs := (tm4 89 rfl rfl)
theorem zmo_110 : zMok (yX10_undo, cX10_undo, 1, 1, RX10) := ⟨zpl_10.1, zpl_10.2.1, zpl_10.2.2, (tm4 100 rfl rfl), zin_10, Nat.le_of_ble_eq_true rfl, rfl⟩
theorem znp_110 : znp yX10_undo = some 0 := by decide +kernel
theorem zia_110 : Cond.instanceMethod yX10_undo ∈ zTs := (tm4 98 rfl rfl)
theorem zse_110 : Cond.selects RX10 yX10_undo yX10_undo ∈ zTs := (tm4 99 rfl rfl)
theorem zmo_111 : zMok (yX10_well, cX10_well, 3, 1, RX10) := ⟨zpl_10.1, zpl_10.2.1, zpl_10.2.2, (tm4 108 rfl rfl), zin_10, Nat.le_of_ble_eq_true rfl, rfl⟩
theorem znp_111 : znp yX10_well = some 2 := by decide +kernel
theorem zia_111 : Cond.instanceMethod yX10_well ∈ zTs := (tm4 106 rfl rfl)
theorem zse_111 : Cond.selects RX10 yX10_well yX10_well ∈ zTs := (tm4 107 rfl rfl)
theorem zmo_112 : zMok (yX10_sense, cX10_sense, 2, 1, RX10) := ⟨zpl_10.1, zpl_10.2.1, zpl_10.2.2, (tm4 120 rfl rfl), zin_10, Nat.le_of_ble_eq_true rfl, rfl⟩
theorem znp_112 : znp yX10_sense = some 1 := by decide +kernel
theorem zia_112 : Cond.instanceMethod yX10_sense ∈ zTs := (tm4 118 rfl rfl)
theorem zse_112 : Cond.selects RX10 yX10_sense yX10_sense ∈ zTs := (tm4 119 rfl rfl)
theorem zmo_113 : zMok (yX10_sayings, cX10_sayings, 2, 1, RX10) := ⟨zpl_10.1, zpl_10.2.1, zpl_10.2.2, (tm4 124 rfl rfl), zin_10, Nat.le_of_ble_eq_true rfl, rfl⟩
theorem znp_113 : znp yX10_sayings = some 1 := by decide +kernel
theorem zia_113 : Cond.instanceMethod yX10_sayings ∈ zTs := (tm4 122 rfl rfl)
theorem zse_113 : Cond.selects RX10 yX10_sayings yX10_sayings ∈ zTs := (tm4 123 rfl rfl)
theorem zmo_114 : zMok (yX10_flows, cX10_flows, 4, 1, RX10) := ⟨zpl_10.1, zpl_10.2.1, zpl_10.2.2, (tm4 128 rfl rfl), zin_10, Nat.le_of_ble_eq_true rfl, rfl⟩
theorem znp_114 : znp yX10_flows = some 3 := by decide +kernel
theorem zia_114 : Cond.instanceMethod yX10_flows ∈ zTs := (tm4 126 rfl rfl)
theorem zse_114 : Cond.selects RX10 yX10_flows yX10_flows ∈ zTs := (tm4 127 rfl rfl)
theorem zmo_115 : zMok (yX10_above, cX10_above, 2, 1, RX10) := ⟨zpl_10.1, zpl_10.2.1, zpl_10.2.2, (tm4 136 rfl rfl), zin_10, Nat.le_of_ble_eq_true rfl, rfl⟩
theorem znp_115 : znp yX10_above = some 1 := by decide +kernel
theorem zia_115 : Cond.instanceMethod yX10_above ∈ zTs := (tm4 134 rfl rfl)
theorem zse_115 : Cond.selects RX10 yX10_above yX10_above ∈ zTs := (tm4 135 rfl rfl)
theorem zmo_116 : zMok (yX10_source, cX10_source, 2, 1, RX10) := ⟨zpl_10.1, zpl_10.2.1, zpl_10.2.2, (tm4 144 rfl rfl), zin_10, Nat.le_of_ble_eq_true rfl, rfl⟩
theorem znp_116 : znp yX10_source = some 1 := by decide +kernel
theorem zia_116 : Cond.instanceMethod yX10_source ∈ zTs := (tm4 142 rfl rfl)
theorem zse_116 : Cond.selects RX10 yX10_source yX10_source ∈ zTs := (tm4 143 rfl rfl)
theorem zmo_117 : zMok (yX10_comes, cX10_comes, 3, 1, RX10) := ⟨zpl_10.1, zpl_10.2.1, zpl_10.2.2, (tm4 153 rfl rfl), zin_10, Nat.le_of_ble_eq_true rfl, rfl⟩
theorem znp_117 : znp yX10_comes = some 2 := by decide +kernel
theorem zia_117 : Cond.instanceMethod yX10_comes ∈ zTs := (tm4 151 rfl rfl)
theorem zse_117 : Cond.selects RX10 yX10_comes yX10_comes ∈ zTs := (tm4 152 rfl rfl)
theorem zmo_118 : zMok (yX10_saying, cX10_saying, 6, 2, RX10) := ⟨zpl_10.1, zpl_10.2.1, zpl_10.2.2, (tm4 169 rfl rfl), zin_10, Nat.le_of_ble_eq_true rfl, rfl⟩
theorem znp_118 : znp yX10_saying = some 1 := by decide +kernel
theorem zia_118 : Cond.instanceMethod yX10_saying ∈ zTs := (tm4 167 rfl rfl)
theorem zse_118 : Cond.selects RX10 yX10_saying yX10_saying ∈ zTs := (tm4 168 rfl rfl)
theorem zmo_119 : zMok (yX10_saidAt, cX10_saidAt, 2, 1, RX10) := ⟨zpl_10.1, zpl_10.2.1, zpl_10.2.2, (tm4 198 rfl rfl), zin_10, Nat.le_of_ble_eq_true rfl, rfl⟩
theorem znp_119 : znp yX10_saidAt = some 1 := by decide +kernel
theorem zia_119 : Cond.instanceMethod yX10_saidAt ∈ zTs := (tm4 196 rfl rfl)
theorem zse_119 : Cond.selects RX10 yX10_saidAt yX10_saidAt ∈ zTs := (tm4 197 rfl rfl)
theorem zmo_120 : zMok (yX10_wish, cX10_wish, 8, 1, RX10) := ⟨zpl_10.1, zpl_10.2.1, zpl_10.2.2, (tm4 202 rfl rfl), zin_10, Nat.le_of_ble_eq_true rfl, rfl⟩
theorem znp_120 : znp yX10_wish = some 1 := by decide +kernel
theorem zia_120 : Cond.instanceMethod yX10_wish ∈ zTs := (tm4 200 rfl rfl)
theorem zse_120 : Cond.selects RX10 yX10_wish yX10_wish ∈ zTs := (tm4 201 rfl rfl)
theorem zmo_121 : zMok (yX10_rests, cX10_rests, 6, 1, RX10) := ⟨zpl_10.1, zpl_10.2.1, zpl_10.2.2, (tm4 206 rfl rfl), zin_10, Nat.le_of_ble_eq_true rfl, rfl⟩
theorem znp_121 : znp yX10_rests = some 2 := by decide +kernel
theorem zia_121 : Cond.instanceMethod yX10_rests ∈ zTs := (tm4 204 rfl rfl)
theorem zse_121 : Cond.selects RX10 yX10_rests yX10_rests ∈ zTs := (tm4 205 rfl rfl)
theorem zmo_122 : zMok (yX10_own, cX10_own, 2, 1, RX10) := ⟨zpl_10.1, zpl_10.2.1, zpl_10.2.2, (tm4 227 rfl rfl), zin_10, Nat.le_of_ble_eq_true rfl, rfl⟩
theorem znp_122 : znp yX10_own = some 1 := by decide +kernel
theorem zia_122 : Cond.instanceMethod yX10_own ∈ zTs := (tm4 225 rfl rfl)
theorem zse_122 : Cond.selects RX10 yX10_own yX10_own ∈ zTs := (tm4 226 rfl rfl)
theorem zmo_123 : zMok (yX10_liked, cX10_liked, 4, 1, RX10) := ⟨zpl_10.1, zpl_10.2.1, zpl_10.2.2, (tm4 231 rfl rfl), zin_10, Nat.le_of_ble_eq_true rfl, rfl⟩
theorem znp_123 : znp yX10_liked = some 3 := by decide +kernel
theorem zia_123 : Cond.instanceMethod yX10_liked ∈ zTs := (tm4 229 rfl rfl)
theorem zse_123 : Cond.selects RX10 yX10_liked yX10_liked ∈ zTs := (tm4 230 rfl rfl)
theorem zmo_124 : zMok (yX10_sure, cX10_sure, 2, 1, RX10) := ⟨zpl_10.1, zpl_10.2.1, zpl_10.2.2, (tm4 235 rfl rfl), zin_10, Nat.le_of_ble_eq_true rfl, rfl⟩
theorem znp_124 : znp yX10_sure = some 1 := by decide +kernel
theorem zia_124 : Cond.instanceMethod yX10_sure ∈ zTs := (tm4 233 rfl rfl)
theorem zse_124 : Cond.selects RX10 yX10_sure yX10_sure ∈ zTs := (tm4 234 rfl rfl)
theorem zmo_125 : zMok (yX10_most, cX10_most, 5, 1, RX10) := ⟨zpl_10.1, zpl_10.2.1, zpl_10.2.2, (tm4 239 rfl rfl), zin_10, Nat.le_of_ble_eq_true rfl, rfl⟩
theorem znp_125 : znp yX10_most = some 0 := by decide +kernel
theorem zia_125 : Cond.instanceMethod yX10_most ∈ zTs := (tm4 237 rfl rfl)
theorem zse_125 : Cond.selects RX10 yX10_most yX10_most ∈ zTs := (tm4 238 rfl rfl)
theorem zmo_126 : zMok (yX10_when, cX10_when, 6, 1, RX10) := ⟨zpl_10.1, zpl_10.2.1, zpl_10.2.2, (tm5 3 rfl rfl), zin_10, Nat.le_of_ble_eq_true rfl, rfl⟩
theorem znp_126 : znp yX10_when = some 3 := by decide +kernel
theorem zia_126 : Cond.instanceMethod yX10_when ∈ zTs := (tm5 1 rfl rfl)
theorem zse_126 : Cond.selects RX10 yX10_when yX10_when ∈ zTs := (tm5 2 rfl rfl)
theorem zmo_127 : zMok (yX10_clashes, cX10_clashes, 2, 1, RX10) := ⟨zpl_10.1, zpl_10.2.1, zpl_10.2.2, (tm5 8 rfl rfl), zin_10, Nat.le_of_ble_eq_true rfl, rfl⟩
theorem znp_127 : znp yX10_clashes = some 1 := by decide +kernel
theorem zia_127 : Cond.instanceMethod yX10_clashes ∈ zTs := (tm5 6 rfl rfl)
theorem zse_127 : Cond.selects RX10 yX10_clashes yX10_clashes ∈ zTs := (tm5 7 rfl rfl)
theorem zmo_128 : zMok (yX10_unlike, cX10_unlike, 6, 1, RX10) := ⟨zpl_10.1, zpl_10.2.1, zpl_10.2.2, (tm5 12 rfl rfl), zin_10, Nat.le_of_ble_eq_true rfl, rfl⟩
theorem znp_128 : znp yX10_unlike = some 3 := by decide +kernel
theorem zia_128 : Cond.instanceMethod yX10_unlike ∈ zTs := (tm5 10 rfl rfl)
theorem zse_128 : Cond.selects RX10 yX10_unlike yX10_unlike ∈ zTs := (tm5 11 rfl rfl)
theorem zmo_129 : zMok (yX10_drawn, cX10_drawn, 5, 1, RX10) := ⟨zpl_10.1, zpl_10.2.1, zpl_10.2.2, (tm5 16 rfl rfl), zin_10, Nat.le_of_ble_eq_true rfl, rfl⟩
theorem znp_129 : znp yX10_drawn = some 2 := by decide +kernel
theorem zia_129 : Cond.instanceMethod yX10_drawn ∈ zTs := (tm5 14 rfl rfl)
theorem zse_129 : Cond.selects RX10 yX10_drawn yX10_drawn ∈ zTs := (tm5 15 rfl rfl)
theorem zmo_130 : zMok (yX10_stones, cX10_stones, 1, 1, RX10) := ⟨zpl_10.1, zpl_10.2.1, zpl_10.2.2, (tm5 34 rfl rfl), zin_10, Nat.le_of_ble_eq_true rfl, rfl⟩
theorem znp_130 : znp yX10_stones = some 0 := by decide +kernel
theorem zia_130 : Cond.instanceMethod yX10_stones ∈ zTs := (tm5 32 rfl rfl)
theorem zse_130 : Cond.selects RX10 yX10_stones yX10_stones ∈ zTs := (tm5 33 rfl rfl)
theorem zmo_131 : zMok (yX10_odds, cX10_odds, 6, 1, RX10) := ⟨zpl_10.1, zpl_10.2.1, zpl_10.2.2, (tm5 38 rfl rfl), zin_10, Nat.le_of_ble_eq_true rfl, rfl⟩
theorem znp_131 : znp yX10_odds = some 3 := by decide +kernel
theorem zia_131 : Cond.instanceMethod yX10_odds ∈ zTs := (tm5 36 rfl rfl)
theorem zse_131 : Cond.selects RX10 yX10_odds yX10_odds ∈ zTs := (tm5 37 rfl rfl)
theorem zmo_132 : zMok (yX10_daybook, cX10_daybook, 4, 1, RX10) := ⟨zpl_10.1, zpl_10.2.1, zpl_10.2.2, (tm5 46 rfl rfl), zin_10, Nat.le_of_ble_eq_true rfl, rfl⟩
theorem znp_132 : znp yX10_daybook = some 1 := by decide +kernel
theorem zia_132 : Cond.instanceMethod yX10_daybook ∈ zTs := (tm5 44 rfl rfl)
theorem zse_132 : Cond.selects RX10 yX10_daybook yX10_daybook ∈ zTs := (tm5 45 rfl rfl)
theorem zmo_133 : zMok (yX10_booked, cX10_booked, 2, 1, RX10) := ⟨zpl_10.1, zpl_10.2.1, zpl_10.2.2, (tm5 93 rfl rfl), zin_10, Nat.le_of_ble_eq_true rfl, rfl⟩
theorem znp_133 : znp yX10_booked = some 1 := by decide +kernel
theorem zia_133 : Cond.instanceMethod yX10_booked ∈ zTs := (tm5 91 rfl rfl)
theorem zse_133 : Cond.selects RX10 yX10_booked yX10_booked ∈ zTs := (tm5 92 rfl rfl)
theorem zmo_134 : zMok (yX10_sentence, cX10_sentence, 3, 1, RX10) := ⟨zpl_10.1, zpl_10.2.1, zpl_10.2.2, (tm5 101 rfl rfl), zin_10, Nat.le_of_ble_eq_true rfl, rfl⟩
theorem znp_134 : znp yX10_sentence = some 0 := by decide +kernel
theorem zia_134 : Cond.instanceMethod yX10_sentence ∈ zTs := (tm5 99 rfl rfl)
theorem zse_134 : Cond.selects RX10 yX10_sentence yX10_sentence ∈ zTs := (tm5 100 rfl rfl)
theorem zmo_135 : zMok (yX10_said, cX10_said, 4, 1, RX10) := ⟨zpl_10.1, zpl_10.2.1, zpl_10.2.2, (tm5 141 rfl rfl), zin_10, Nat.le_of_ble_eq_true rfl, rfl⟩
theorem znp_135 : znp yX10_said = some 1 := by decide +kernel
theorem zia_135 : Cond.instanceMethod yX10_said ∈ zTs := (tm5 139 rfl rfl)
theorem zse_135 : Cond.selects RX10 yX10_said yX10_said ∈ zTs := (tm5 140 rfl rfl)
theorem zmo_136 : zMok (yX10_image, cX10_image, 3, 3, RX10) := ⟨zpl_10.1, zpl_10.2.1, zpl_10.2.2, (tm5 157 rfl rfl), zin_10, Nat.le_of_ble_eq_true rfl, rfl⟩
theorem znp_136 : znp yX10_image = some 1 := by decide +kernel
theorem zia_136 : Cond.instanceMethod yX10_image ∈ zTs := (tm5 155 rfl rfl)
theorem zse_136 : Cond.selects RX10 yX10_image yX10_image ∈ zTs := (tm5 156 rfl rfl)
theorem zmo_137 : zMok (yX10_restore, cX10_restore, 3, 3, RX10) := ⟨zpl_10.1, zpl_10.2.1, zpl_10.2.2, (tm5 176 rfl rfl), zin_10, Nat.le_of_ble_eq_true rfl, rfl⟩
theorem znp_137 : znp yX10_restore = some 1 := by decide +kernel
theorem zia_137 : Cond.instanceMethod yX10_restore ∈ zTs := (tm5 174 rfl rfl)
theorem zse_137 : Cond.selects RX10 yX10_restore yX10_restore ∈ zTs := (tm5 175 rfl rfl)
theorem zmo_138 : zMok (yX10_count, cX10_count, 2, 1, RX10) := ⟨zpl_10.1, zpl_10.2.1, zpl_10.2.2, (tm5 180 rfl rfl), zin_10, Nat.le_of_ble_eq_true rfl, rfl⟩
theorem znp_138 : znp yX10_count = some 1 := by decide +kernel
theorem zia_138 : Cond.instanceMethod yX10_count ∈ zTs := (tm5 178 rfl rfl)
theorem zse_138 : Cond.selects RX10 yX10_count yX10_count ∈ zTs := (tm5 179 rfl rfl)
theorem zmo_139 : zMok (yX10_isWithin, cX10_isWithin, 2, 3, RX10) := ⟨zpl_10.1, zpl_10.2.1, zpl_10.2.2, (tm4 10 rfl rfl), zin_10, Nat.le_of_ble_eq_true rfl, rfl⟩
theorem znp_139 : znp yX10_isWithin = some 2 := by decide +kernel
theorem zst_139 : Cond.static yX10_isWithin ∈ zTs := (tm4 9 rfl rfl)
theorem zmo_140 : zMok (yX10_sumOf, cX10_sumOf, 6, 1, RX10) := ⟨zpl_10.1, zpl_10.2.1, zpl_10.2.2, (tm4 3 rfl rfl), zin_10, Nat.le_of_ble_eq_true rfl, rfl⟩
theorem znp_140 : znp yX10_sumOf = some 1 := by decide +kernel
theorem zst_140 : Cond.static yX10_sumOf ∈ zTs := (tm4 2 rfl rfl)
theorem zmo_141 : zMok (yX10_takeRow, cX10_takeRow, 5, 1, RX10) := ⟨zpl_10.1, zpl_10.2.1, zpl_10.2.2, (tm4 173 rfl rfl), zin_10, Nat.le_of_ble_eq_true rfl, rfl⟩
theorem znp_141 : znp yX10_takeRow = some 1 := by decide +kernel
theorem zia_141 : Cond.instanceMethod yX10_takeRow ∈ zTs := (tm4 172 rfl rfl)
theorem zse_141 : Cond.selects RX10 yX10_takeRow yX10_takeRow ∈ zTs := (tm0 22 rfl rfl)
theorem zmo_142 : zMok (yX10_fillArrivals, cX10_fillArrivals, 3, 0, RX10) := ⟨zpl_10.1, zpl_10.2.1, zpl_10.2.2, (tm4 182 rfl rfl), zin_10, Nat.le_of_ble_eq_true rfl, rfl⟩
theorem znp_142 : znp yX10_fillArrivals = some 1 := by decide +kernel
theorem zia_142 : Cond.instanceMethod yX10_fillArrivals ∈ zTs := (tm4 181 rfl rfl)
theorem zse_142 : Cond.selects RX10 yX10_fillArrivals yX10_fillArrivals ∈ zTs := (tm0 23 rfl rfl)
theorem zmo_143 : zMok (yX10_countOf, cX10_countOf, 4, 1, RX10) := ⟨zpl_10.1, zpl_10.2.1, zpl_10.2.2, (tm4 186 rfl rfl), zin_10, Nat.le_of_ble_eq_true rfl, rfl⟩
theorem znp_143 : znp yX10_countOf = some 1 := by decide +kernel
theorem zia_143 : Cond.instanceMethod yX10_countOf ∈ zTs := (tm4 185 rfl rfl)
theorem zse_143 : Cond.selects RX10 yX10_countOf yX10_countOf ∈ zTs := (tm0 24 rfl rfl)
theorem zmo_144 : zMok (yX10_leastFor, cX10_leastFor, 3, 1, RX10) := ⟨zpl_10.1, zpl_10.2.1, zpl_10.2.2, (tm4 194 rfl rfl), zin_10, Nat.le_of_ble_eq_true rfl, rfl⟩
theorem znp_144 : znp yX10_leastFor = some 1 := by decide +kernel
theorem zia_144 : Cond.instanceMethod yX10_leastFor ∈ zTs := (tm4 193 rfl rfl)
theorem zse_144 : Cond.selects RX10 yX10_leastFor yX10_leastFor ∈ zTs := (tm0 26 rfl rfl)
theorem zmo_145 : zMok (yX10_keepFirstWay, cX10_keepFirstWay, 3, 0, RX10) := ⟨zpl_10.1, zpl_10.2.1, zpl_10.2.2, (tm4 190 rfl rfl), zin_10, Nat.le_of_ble_eq_true rfl, rfl⟩
theorem znp_145 : znp yX10_keepFirstWay = some 1 := by decide +kernel
theorem zia_145 : Cond.instanceMethod yX10_keepFirstWay ∈ zTs := (tm4 189 rfl rfl)
theorem zse_145 : Cond.selects RX10 yX10_keepFirstWay yX10_keepFirstWay ∈ zTs := (tm0 25 rfl rfl)
theorem zmo_146 : zMok (yX10_tryDays, cX10_tryDays, 3, 0, RX10) := ⟨zpl_10.1, zpl_10.2.1, zpl_10.2.2, (tm4 214 rfl rfl), zin_10, Nat.le_of_ble_eq_true rfl, rfl⟩
theorem znp_146 : znp yX10_tryDays = some 2 := by decide +kernel
theorem zia_146 : Cond.instanceMethod yX10_tryDays ∈ zTs := (tm4 213 rfl rfl)
theorem zse_146 : Cond.selects RX10 yX10_tryDays yX10_tryDays ∈ zTs := (tm0 28 rfl rfl)
theorem zmo_147 : zMok (yX10_fillGains, cX10_fillGains, 5, 0, RX10) := ⟨zpl_10.1, zpl_10.2.1, zpl_10.2.2, (tm4 210 rfl rfl), zin_10, Nat.le_of_ble_eq_true rfl, rfl⟩
theorem znp_147 : znp yX10_fillGains = some 2 := by decide +kernel
theorem zia_147 : Cond.instanceMethod yX10_fillGains ∈ zTs := (tm4 209 rfl rfl)
theorem zse_147 : Cond.selects RX10 yX10_fillGains yX10_fillGains ∈ zTs := (tm0 27 rfl rfl)
theorem zmo_148 : zMok (yX10_isRest, cX10_isRest, 4, 3, RX10) := ⟨zpl_10.1, zpl_10.2.1, zpl_10.2.2, (tm4 223 rfl rfl), zin_10, Nat.le_of_ble_eq_true rfl, rfl⟩
theorem znp_148 : znp yX10_isRest = some 1 := by decide +kernel
theorem zia_148 : Cond.instanceMethod yX10_isRest ∈ zTs := (tm4 222 rfl rfl)
theorem zse_148 : Cond.selects RX10 yX10_isRest yX10_isRest ∈ zTs := (tm0 29 rfl rfl)
theorem zmo_149 : zMok (yX10_staysSensible, cX10_staysSensible, 5, 3, RX10) := ⟨zpl_10.1, zpl_10.2.1, zpl_10.2.2, (tm5 42 rfl rfl), zin_10, Nat.le_of_ble_eq_true rfl, rfl⟩
theorem znp_149 : znp yX10_staysSensible = some 2 := by decide +kernel
theorem zia_149 : Cond.instanceMethod yX10_staysSensible ∈ zTs := (tm5 41 rfl rfl)
theorem zse_149 : Cond.selects RX10 yX10_staysSensible yX10_staysSensible ∈ zTs := (tm0 30 rfl rfl)
theorem zmo_150 : zMok (yX11_thrown, cX11_thrown, 1, 1, RX11) := ⟨zpl_11.1, zpl_11.2.1, zpl_11.2.2, (tm6 20 rfl rfl), zin_11, Nat.le_of_ble_eq_true rfl, rfl⟩
theorem znp_150 : znp yX11_thrown = some 0 := by decide +kernel
theorem zia_150 : Cond.instanceMethod yX11_thrown ∈ zTs := (tm6 18 rfl rfl)
theorem zse_150 : Cond.selects RX11 yX11_thrown yX11_thrown ∈ zTs := (tm6 19 rfl rfl)
theorem zmo_151 : zMok (yX11_throwsIf, cX11_throwsIf, 2, 3, RX11) := ⟨zpl_11.1, zpl_11.2.1, zpl_11.2.2, (tm7 94 rfl rfl), zin_11, Nat.le_of_ble_eq_true rfl, rfl⟩
theorem znp_151 : znp yX11_throwsIf = some 1 := by decide +kernel
theorem zia_151 : Cond.instanceMethod yX11_throwsIf ∈ zTs := (tm7 93 rfl rfl)
theorem zse_151 : Cond.selects RX11 yX11_throwsIf yX11_throwsIf ∈ zTs := (tm0 71 rfl rfl)
theorem zmo_152 : zMok (yX11_feed, cX11_feed, 6, 1, RX11) := ⟨zpl_11.1, zpl_11.2.1, zpl_11.2.2, (tm6 24 rfl rfl), zin_11, Nat.le_of_ble_eq_true rfl, rfl⟩
theorem znp_152 : znp yX11_feed = some 5 := by decide +kernel
theorem zia_152 : Cond.instanceMethod yX11_feed ∈ zTs := (tm6 22 rfl rfl)
theorem zse_152 : Cond.selects RX11 yX11_feed yX11_feed ∈ zTs := (tm6 23 rfl rfl)
theorem zmo_153 : zMok (yX11_four, cX11_four, 3, 0, RX11) := ⟨zpl_11.1, zpl_11.2.1, zpl_11.2.2, (tm6 29 rfl rfl), zin_11, Nat.le_of_ble_eq_true rfl, rfl⟩
theorem znp_153 : znp yX11_four = some 1 := by decide +kernel
theorem zia_153 : Cond.instanceMethod yX11_four ∈ zTs := (tm6 27 rfl rfl)
theorem zse_153 : Cond.selects RX11 yX11_four yX11_four ∈ zTs := (tm0 46 rfl rfl)
theorem zmo_154 : zMok (yX11_end, cX11_end, 2, 3, RX11) := ⟨zpl_11.1, zpl_11.2.1, zpl_11.2.2, (tm6 33 rfl rfl), zin_11, Nat.le_of_ble_eq_true rfl, rfl⟩
theorem znp_154 : znp yX11_end = some 1 := by decide +kernel
theorem zia_154 : Cond.instanceMethod yX11_end ∈ zTs := (tm6 31 rfl rfl)
theorem zse_154 : Cond.selects RX11 yX11_end yX11_end ∈ zTs := (tm6 32 rfl rfl)
theorem zmo_155 : zMok (yX11_taken, cX11_taken, 2, 0, RX11) := ⟨zpl_11.1, zpl_11.2.1, zpl_11.2.2, (tm6 213 rfl rfl), zin_11, Nat.le_of_ble_eq_true rfl, rfl⟩
theorem znp_155 : znp yX11_taken = some 1 := by decide +kernel
theorem zia_155 : Cond.instanceMethod yX11_taken ∈ zTs := (tm6 212 rfl rfl)
theorem zse_155 : Cond.selects RX11 yX11_taken yX11_taken ∈ zTs := (tm0 47 rfl rfl)
theorem zmo_156 : zMok (yX11_isIn, cX11_isIn, 3, 3, RX11) := ⟨zpl_11.1, zpl_11.2.1, zpl_11.2.2, (tm7 26 rfl rfl), zin_11, Nat.le_of_ble_eq_true rfl, rfl⟩
theorem znp_156 : znp yX11_isIn = some 3 := by decide +kernel
theorem zst_156 : Cond.static yX11_isIn ∈ zTs := (tm7 25 rfl rfl)
theorem zmo_157 : zMok (yX11_bitOf, cX11_bitOf, 2, 3, RX11) := ⟨zpl_11.1, zpl_11.2.1, zpl_11.2.2, (tm7 105 rfl rfl), zin_11, Nat.le_of_ble_eq_true rfl, rfl⟩
theorem znp_157 : znp yX11_bitOf = some 2 := by decide +kernel
theorem zst_157 : Cond.static yX11_bitOf ∈ zTs := (tm7 104 rfl rfl)
theorem zmo_158 : zMok (yX11_octet, cX11_octet, 2, 1, RX11) := ⟨zpl_11.1, zpl_11.2.1, zpl_11.2.2, (tm8 0 rfl rfl), zin_11, Nat.le_of_ble_eq_true rfl, rfl⟩
theorem znp_158 : znp yX11_octet = some 1 := by decide +kernel
theorem zia_158 : Cond.instanceMethod yX11_octet ∈ zTs := (tm7 239 rfl rfl)
theorem zse_158 : Cond.selects RX11 yX11_octet yX11_octet ∈ zTs := (tm0 90 rfl rfl)
theorem zmo_159 : zMok (yX11_peek, cX11_peek, 1, 1, RX11) := ⟨zpl_11.1, zpl_11.2.1, zpl_11.2.2, (tm6 221 rfl rfl), zin_11, Nat.le_of_ble_eq_true rfl, rfl⟩
theorem znp_159 : znp yX11_peek = some 0 := by decide +kernel
theorem zia_159 : Cond.instanceMethod yX11_peek ∈ zTs := (tm6 220 rfl rfl)
theorem zse_159 : Cond.selects RX11 yX11_peek yX11_peek ∈ zTs := (tm0 49 rfl rfl)
theorem zmo_160 : zMok (yX11_isSmall, cX11_isSmall, 1, 3, RX11) := ⟨zpl_11.1, zpl_11.2.1, zpl_11.2.2, (tm6 224 rfl rfl), zin_11, Nat.le_of_ble_eq_true rfl, rfl⟩
theorem znp_160 : znp yX11_isSmall = some 1 := by decide +kernel
theorem zst_160 : Cond.static yX11_isSmall ∈ zTs := (tm6 223 rfl rfl)
theorem zmo_161 : zMok (yX11_isDigit, cX11_isDigit, 1, 3, RX11) := ⟨zpl_11.1, zpl_11.2.1, zpl_11.2.2, (tm6 227 rfl rfl), zin_11, Nat.le_of_ble_eq_true rfl, rfl⟩
theorem znp_161 : znp yX11_isDigit = some 1 := by decide +kernel
theorem zst_161 : Cond.static yX11_isDigit ∈ zTs := (tm6 226 rfl rfl)
theorem zmo_162 : zMok (yX11_next, cX11_next, 4, 0, RX11) := ⟨zpl_11.1, zpl_11.2.1, zpl_11.2.2, (tm6 217 rfl rfl), zin_11, Nat.le_of_ble_eq_true rfl, rfl⟩
theorem znp_162 : znp yX11_next = some 0 := by decide +kernel
theorem zia_162 : Cond.instanceMethod yX11_next ∈ zTs := (tm6 216 rfl rfl)
theorem zse_162 : Cond.selects RX11 yX11_next yX11_next ∈ zTs := (tm0 48 rfl rfl)
theorem zmo_163 : zMok (yX11_bad, cX11_bad, 2, 3, RX11) := ⟨zpl_11.1, zpl_11.2.1, zpl_11.2.2, (tm7 3 rfl rfl), zin_11, Nat.le_of_ble_eq_true rfl, rfl⟩
theorem znp_163 : znp yX11_bad = some 1 := by decide +kernel
theorem zia_163 : Cond.instanceMethod yX11_bad ∈ zTs := (tm7 2 rfl rfl)
theorem zse_163 : Cond.selects RX11 yX11_bad yX11_bad ∈ zTs := (tm0 53 rfl rfl)
theorem zmo_164 : zMok (yX11_isWord, cX11_isWord, 3, 3, RX11) := ⟨zpl_11.1, zpl_11.2.1, zpl_11.2.2, (tm6 239 rfl rfl), zin_11, Nat.le_of_ble_eq_true rfl, rfl⟩
theorem znp_164 : znp yX11_isWord = some 1 := by decide +kernel
theorem zia_164 : Cond.instanceMethod yX11_isWord ∈ zTs := (tm6 238 rfl rfl)
theorem zse_164 : Cond.selects RX11 yX11_isWord yX11_isWord ∈ zTs := (tm0 52 rfl rfl)
theorem zmo_165 : zMok (yX11_isSign, cX11_isSign, 2, 3, RX11) := ⟨zpl_11.1, zpl_11.2.1, zpl_11.2.2, (tm7 42 rfl rfl), zin_11, Nat.le_of_ble_eq_true rfl, rfl⟩
theorem znp_165 : znp yX11_isSign = some 1 := by decide +kernel
theorem zia_165 : Cond.instanceMethod yX11_isSign ∈ zTs := (tm7 41 rfl rfl)
theorem zse_165 : Cond.selects RX11 yX11_isSign yX11_isSign ∈ zTs := (tm0 62 rfl rfl)
theorem zmo_166 : zMok (yX11_sign, cX11_sign, 2, 3, RX11) := ⟨zpl_11.1, zpl_11.2.1, zpl_11.2.2, (tm7 58 rfl rfl), zin_11, Nat.le_of_ble_eq_true rfl, rfl⟩
theorem znp_166 : znp yX11_sign = some 1 := by decide +kernel
theorem zia_166 : Cond.instanceMethod yX11_sign ∈ zTs := (tm7 57 rfl rfl)
theorem zse_166 : Cond.selects RX11 yX11_sign yX11_sign ∈ zTs := (tm0 66 rfl rfl)
theorem zmo_167 : zMok (yX11_isName, cX11_isName, 3, 3, RX11) := ⟨zpl_11.1, zpl_11.2.1, zpl_11.2.2, (tm7 11 rfl rfl), zin_11, Nat.le_of_ble_eq_true rfl, rfl⟩
theorem znp_167 : znp yX11_isName = some 0 := by decide +kernel
theorem zia_167 : Cond.instanceMethod yX11_isName ∈ zTs := (tm7 10 rfl rfl)
theorem zse_167 : Cond.selects RX11 yX11_isName yX11_isName ∈ zTs := (tm0 55 rfl rfl)
theorem zmo_168 : zMok (yX11_takes, cX11_takes, 3, 3, RX11) := ⟨zpl_11.1, zpl_11.2.1, zpl_11.2.2, (tm7 23 rfl rfl), zin_11, Nat.le_of_ble_eq_true rfl, rfl⟩
theorem znp_168 : znp yX11_takes = some 2 := by decide +kernel
theorem zia_168 : Cond.instanceMethod yX11_takes ∈ zTs := (tm7 22 rfl rfl)
theorem zse_168 : Cond.selects RX11 yX11_takes yX11_takes ∈ zTs := (tm0 58 rfl rfl)
theorem zmo_169 : zMok (yX11_find, cX11_find, 4, 1, RX11) := ⟨zpl_11.1, zpl_11.2.1, zpl_11.2.2, (tm7 15 rfl rfl), zin_11, Nat.le_of_ble_eq_true rfl, rfl⟩
theorem znp_169 : znp yX11_find = some 2 := by decide +kernel
theorem zia_169 : Cond.instanceMethod yX11_find ∈ zTs := (tm7 14 rfl rfl)
theorem zse_169 : Cond.selects RX11 yX11_find yX11_find ∈ zTs := (tm0 56 rfl rfl)
theorem zmo_170 : zMok (yX11_fresh, cX11_fresh, 2, 3, RX11) := ⟨zpl_11.1, zpl_11.2.1, zpl_11.2.2, (tm7 7 rfl rfl), zin_11, Nat.le_of_ble_eq_true rfl, rfl⟩
theorem znp_170 : znp yX11_fresh = some 1 := by decide +kernel
theorem zia_170 : Cond.instanceMethod yX11_fresh ∈ zTs := (tm7 6 rfl rfl)
theorem zse_170 : Cond.selects RX11 yX11_fresh yX11_fresh ∈ zTs := (tm0 54 rfl rfl)
theorem zmo_171 : zMok (yX11_looksAt, cX11_looksAt, 3, 3, RX11) := ⟨zpl_11.1, zpl_11.2.1, zpl_11.2.2, (tm7 34 rfl rfl), zin_11, Nat.le_of_ble_eq_true rfl, rfl⟩
theorem znp_171 : znp yX11_looksAt = some 2 := by decide +kernel
theorem zia_171 : Cond.instanceMethod yX11_looksAt ∈ zTs := (tm7 33 rfl rfl)
theorem zse_171 : Cond.selects RX11 yX11_looksAt yX11_looksAt ∈ zTs := (tm0 60 rfl rfl)
theorem zmo_172 : zMok (yX11_looksAtTerm, cX11_looksAtTerm, 1, 3, RX11) := ⟨zpl_11.1, zpl_11.2.1, zpl_11.2.2, (tm7 46 rfl rfl), zin_11, Nat.le_of_ble_eq_true rfl, rfl⟩
theorem znp_172 : znp yX11_looksAtTerm = some 0 := by decide +kernel
theorem zia_172 : Cond.instanceMethod yX11_looksAtTerm ∈ zTs := (tm7 45 rfl rfl)
theorem zse_172 : Cond.selects RX11 yX11_looksAtTerm yX11_looksAtTerm ∈ zTs := (tm0 63 rfl rfl)
theorem zmo_173 : zMok (yX11_looksAtReach, cX11_looksAtReach, 1, 3, RX11) := ⟨zpl_11.1, zpl_11.2.1, zpl_11.2.2, (tm7 30 rfl rfl), zin_11, Nat.le_of_ble_eq_true rfl, rfl⟩
theorem znp_173 : znp yX11_looksAtReach = some 0 := by decide +kernel
theorem zia_173 : Cond.instanceMethod yX11_looksAtReach ∈ zTs := (tm7 29 rfl rfl)
theorem zse_173 : Cond.selects RX11 yX11_looksAtReach yX11_looksAtReach ∈ zTs := (tm0 59 rfl rfl)
theorem zmo_174 : zMok (yX11_sortOf, cX11_sortOf, 1, 1, RX11) := ⟨zpl_11.1, zpl_11.2.1, zpl_11.2.2, (tm6 235 rfl rfl), zin_11, Nat.le_of_ble_eq_true rfl, rfl⟩
theorem znp_174 : znp yX11_sortOf = some 0 := by decide +kernel
theorem zia_174 : Cond.instanceMethod yX11_sortOf ∈ zTs := (tm6 234 rfl rfl)
theorem zse_174 : Cond.selects RX11 yX11_sortOf yX11_sortOf ∈ zTs := (tm0 51 rfl rfl)
theorem zmo_175 : zMok (yX11_line, cX11_line, 3, 3, RX11) := ⟨zpl_11.1, zpl_11.2.1, zpl_11.2.2, (tm6 231 rfl rfl), zin_11, Nat.le_of_ble_eq_true rfl, rfl⟩
theorem znp_175 : znp yX11_line = some 0 := by decide +kernel
theorem zia_175 : Cond.instanceMethod yX11_line ∈ zTs := (tm6 230 rfl rfl)
theorem zse_175 : Cond.selects RX11 yX11_line yX11_line ∈ zTs := (tm0 50 rfl rfl)
theorem zmo_176 : zMok (yX11_readReach, cX11_readReach, 2, 3, RX11) := ⟨zpl_11.1, zpl_11.2.1, zpl_11.2.2, (tm7 19 rfl rfl), zin_11, Nat.le_of_ble_eq_true rfl, rfl⟩
theorem znp_176 : znp yX11_readReach = some 0 := by decide +kernel
theorem zia_176 : Cond.instanceMethod yX11_readReach ∈ zTs := (tm7 18 rfl rfl)
theorem zse_176 : Cond.selects RX11 yX11_readReach yX11_readReach ∈ zTs := (tm0 57 rfl rfl)
theorem zmo_177 : zMok (yX11_readSays, cX11_readSays, 3, 3, RX11) := ⟨zpl_11.1, zpl_11.2.1, zpl_11.2.2, (tm7 38 rfl rfl), zin_11, Nat.le_of_ble_eq_true rfl, rfl⟩
theorem znp_177 : znp yX11_readSays = some 0 := by decide +kernel
theorem zia_177 : Cond.instanceMethod yX11_readSays ∈ zTs := (tm7 37 rfl rfl)
theorem zse_177 : Cond.selects RX11 yX11_readSays yX11_readSays ∈ zTs := (tm0 61 rfl rfl)
theorem zmo_178 : zMok (yX11_readAt, cX11_readAt, 9, 3, RX11) := ⟨zpl_11.1, zpl_11.2.1, zpl_11.2.2, (tm7 50 rfl rfl), zin_11, Nat.le_of_ble_eq_true rfl, rfl⟩
theorem znp_178 : znp yX11_readAt = some 4 := by decide +kernel
theorem zia_178 : Cond.instanceMethod yX11_readAt ∈ zTs := (tm7 49 rfl rfl)
theorem zse_178 : Cond.selects RX11 yX11_readAt yX11_readAt ∈ zTs := (tm0 64 rfl rfl)
theorem zmo_179 : zMok (yX11_readRule, cX11_readRule, 5, 3, RX11) := ⟨zpl_11.1, zpl_11.2.1, zpl_11.2.2, (tm7 54 rfl rfl), zin_11, Nat.le_of_ble_eq_true rfl, rfl⟩
theorem znp_179 : znp yX11_readRule = some 0 := by decide +kernel
theorem zia_179 : Cond.instanceMethod yX11_readRule ∈ zTs := (tm7 53 rfl rfl)
theorem zse_179 : Cond.selects RX11 yX11_readRule yX11_readRule ∈ zTs := (tm0 65 rfl rfl)
theorem zmo_180 : zMok (yX11_country, cX11_country, 2, 1, RX11) := ⟨zpl_11.1, zpl_11.2.1, zpl_11.2.2, (tm6 209 rfl rfl), zin_11, Nat.le_of_ble_eq_true rfl, rfl⟩
theorem znp_180 : znp yX11_country = some 0 := by decide +kernel
theorem zia_180 : Cond.instanceMethod yX11_country ∈ zTs := (tm6 207 rfl rfl)
theorem zse_180 : Cond.selects RX11 yX11_country yX11_country ∈ zTs := (tm6 208 rfl rfl)
theorem zmo_181 : zMok (yX11_fault, cX11_fault, 1, 1, RX11) := ⟨zpl_11.1, zpl_11.2.1, zpl_11.2.2, (tm7 62 rfl rfl), zin_11, Nat.le_of_ble_eq_true rfl, rfl⟩
theorem znp_181 : znp yX11_fault = some 0 := by decide +kernel
theorem zia_181 : Cond.instanceMethod yX11_fault ∈ zTs := (tm7 60 rfl rfl)
theorem zse_181 : Cond.selects RX11 yX11_fault yX11_fault ∈ zTs := (tm7 61 rfl rfl)
theorem zmo_182 : zMok (yX11_isTerm, cX11_isTerm, 2, 3, RX11) := ⟨zpl_11.1, zpl_11.2.1, zpl_11.2.2, (tm7 70 rfl rfl), zin_11, Nat.le_of_ble_eq_true rfl, rfl⟩
theorem znp_182 : znp yX11_isTerm = some 1 := by decide +kernel
theorem zia_182 : Cond.instanceMethod yX11_isTerm ∈ zTs := (tm7 69 rfl rfl)
theorem zse_182 : Cond.selects RX11 yX11_isTerm yX11_isTerm ∈ zTs := (tm0 67 rfl rfl)
theorem zmo_183 : zMok (yX11_isReach, cX11_isReach, 2, 3, RX11) := ⟨zpl_11.1, zpl_11.2.1, zpl_11.2.2, (tm7 78 rfl rfl), zin_11, Nat.le_of_ble_eq_true rfl, rfl⟩
theorem znp_183 : znp yX11_isReach = some 1 := by decide +kernel
theorem zia_183 : Cond.instanceMethod yX11_isReach ∈ zTs := (tm7 77 rfl rfl)
theorem zse_183 : Cond.selects RX11 yX11_isReach yX11_isReach ∈ zTs := (tm0 68 rfl rfl)
theorem zmo_184 : zMok (yX11_isEditor, cX11_isEditor, 2, 3, RX11) := ⟨zpl_11.1, zpl_11.2.1, zpl_11.2.2, (tm7 102 rfl rfl), zin_11, Nat.le_of_ble_eq_true rfl, rfl⟩
theorem znp_184 : znp yX11_isEditor = some 1 := by decide +kernel
theorem zia_184 : Cond.instanceMethod yX11_isEditor ∈ zTs := (tm7 101 rfl rfl)
theorem zse_184 : Cond.selects RX11 yX11_isEditor yX11_isEditor ∈ zTs := (tm0 72 rfl rfl)
theorem zmo_185 : zMok (yX11_isTown, cX11_isTown, 2, 3, RX11) := ⟨zpl_11.1, zpl_11.2.1, zpl_11.2.2, (tm7 121 rfl rfl), zin_11, Nat.le_of_ble_eq_true rfl, rfl⟩
theorem znp_185 : znp yX11_isTown = some 1 := by decide +kernel
theorem zia_185 : Cond.instanceMethod yX11_isTown ∈ zTs := (tm7 120 rfl rfl)
theorem zse_185 : Cond.selects RX11 yX11_isTown yX11_isTown ∈ zTs := (tm0 74 rfl rfl)
theorem zmo_186 : zMok (yX11_isPlace, cX11_isPlace, 3, 3, RX11) := ⟨zpl_11.1, zpl_11.2.1, zpl_11.2.2, (tm7 90 rfl rfl), zin_11, Nat.le_of_ble_eq_true rfl, rfl⟩
theorem znp_186 : znp yX11_isPlace = some 2 := by decide +kernel
theorem zia_186 : Cond.instanceMethod yX11_isPlace ∈ zTs := (tm7 89 rfl rfl)
theorem zse_186 : Cond.selects RX11 yX11_isPlace yX11_isPlace ∈ zTs := (tm0 70 rfl rfl)
theorem zmo_187 : zMok (yX11_term, cX11_term, 2, 1, RX11) := ⟨zpl_11.1, zpl_11.2.1, zpl_11.2.2, (tm7 66 rfl rfl), zin_11, Nat.le_of_ble_eq_true rfl, rfl⟩
theorem znp_187 : znp yX11_term = some 1 := by decide +kernel
theorem zia_187 : Cond.instanceMethod yX11_term ∈ zTs := (tm7 64 rfl rfl)
theorem zse_187 : Cond.selects RX11 yX11_term yX11_term ∈ zTs := (tm7 65 rfl rfl)
theorem zmo_188 : zMok (yX11_saysOn, cX11_saysOn, 3, 1, RX11) := ⟨zpl_11.1, zpl_11.2.1, zpl_11.2.2, (tm7 82 rfl rfl), zin_11, Nat.le_of_ble_eq_true rfl, rfl⟩
theorem znp_188 : znp yX11_saysOn = some 2 := by decide +kernel
theorem zia_188 : Cond.instanceMethod yX11_saysOn ∈ zTs := (tm7 81 rfl rfl)
theorem zse_188 : Cond.selects RX11 yX11_saysOn yX11_saysOn ∈ zTs := (tm0 69 rfl rfl)
theorem zmo_189 : zMok (yX11_reach, cX11_reach, 3, 1, RX11) := ⟨zpl_11.1, zpl_11.2.1, zpl_11.2.2, (tm7 74 rfl rfl), zin_11, Nat.le_of_ble_eq_true rfl, rfl⟩
theorem znp_189 : znp yX11_reach = some 2 := by decide +kernel
theorem zia_189 : Cond.instanceMethod yX11_reach ∈ zTs := (tm7 72 rfl rfl)
theorem zse_189 : Cond.selects RX11 yX11_reach yX11_reach ∈ zTs := (tm7 73 rfl rfl)
theorem zmo_190 : zMok (yX11_at, cX11_at, 3, 1, RX11) := ⟨zpl_11.1, zpl_11.2.1, zpl_11.2.2, (tm7 86 rfl rfl), zin_11, Nat.le_of_ble_eq_true rfl, rfl⟩
theorem znp_190 : znp yX11_at = some 2 := by decide +kernel
theorem zia_190 : Cond.instanceMethod yX11_at ∈ zTs := (tm7 84 rfl rfl)
theorem zse_190 : Cond.selects RX11 yX11_at yX11_at ∈ zTs := (tm7 85 rfl rfl)
theorem zmo_191 : zMok (yX11_editor, cX11_editor, 3, 1, RX11) := ⟨zpl_11.1, zpl_11.2.1, zpl_11.2.2, (tm7 98 rfl rfl), zin_11, Nat.le_of_ble_eq_true rfl, rfl⟩
theorem znp_191 : znp yX11_editor = some 2 := by decide +kernel
theorem zia_191 : Cond.instanceMethod yX11_editor ∈ zTs := (tm7 96 rfl rfl)
theorem zse_191 : Cond.selects RX11 yX11_editor yX11_editor ∈ zTs := (tm7 97 rfl rfl)
theorem zmo_192 : zMok (yX11_madeOf, cX11_madeOf, 4, 1, RX11) := ⟨zpl_11.1, zpl_11.2.1, zpl_11.2.2, (tm7 113 rfl rfl), zin_11, Nat.le_of_ble_eq_true rfl, rfl⟩
theorem znp_192 : znp yX11_madeOf = some 2 := by decide +kernel
theorem zia_192 : Cond.instanceMethod yX11_madeOf ∈ zTs := (tm7 112 rfl rfl)
theorem zse_192 : Cond.selects RX11 yX11_madeOf yX11_madeOf ∈ zTs := (tm0 73 rfl rfl)
theorem zmo_193 : zMok (yX11_makes, cX11_makes, 3, 1, RX11) := ⟨zpl_11.1, zpl_11.2.1, zpl_11.2.2, (tm7 109 rfl rfl), zin_11, Nat.le_of_ble_eq_true rfl, rfl⟩
theorem znp_193 : znp yX11_makes = some 2 := by decide +kernel
theorem zia_193 : Cond.instanceMethod yX11_makes ∈ zTs := (tm7 107 rfl rfl)
theorem zse_193 : Cond.selects RX11 yX11_makes yX11_makes ∈ zTs := (tm7 108 rfl rfl)
theorem zmo_194 : zMok (yX11_wellOf, cX11_wellOf, 3, 1, RX11) := ⟨zpl_11.1, zpl_11.2.1, zpl_11.2.2, (tm7 129 rfl rfl), zin_11, Nat.le_of_ble_eq_true rfl, rfl⟩
theorem znp_194 : znp yX11_wellOf = some 2 := by decide +kernel
theorem zia_194 : Cond.instanceMethod yX11_wellOf ∈ zTs := (tm7 128 rfl rfl)
theorem zse_194 : Cond.selects RX11 yX11_wellOf yX11_wellOf ∈ zTs := (tm0 76 rfl rfl)
theorem zmo_195 : zMok (yX11_wordsOf, cX11_wordsOf, 7, 1, RX11) := ⟨zpl_11.1, zpl_11.2.1, zpl_11.2.2, (tm7 133 rfl rfl), zin_11, Nat.le_of_ble_eq_true rfl, rfl⟩
theorem znp_195 : znp yX11_wordsOf = some 3 := by decide +kernel
theorem zia_195 : Cond.instanceMethod yX11_wordsOf ∈ zTs := (tm7 132 rfl rfl)
theorem zse_195 : Cond.selects RX11 yX11_wordsOf yX11_wordsOf ∈ zTs := (tm0 77 rfl rfl)
theorem zmo_196 : zMok (yX11_lastOf, cX11_lastOf, 2, 1, RX11) := ⟨zpl_11.1, zpl_11.2.1, zpl_11.2.2, (tm7 125 rfl rfl), zin_11, Nat.le_of_ble_eq_true rfl, rfl⟩
theorem znp_196 : znp yX11_lastOf = some 1 := by decide +kernel
theorem zia_196 : Cond.instanceMethod yX11_lastOf ∈ zTs := (tm7 124 rfl rfl)
theorem zse_196 : Cond.selects RX11 yX11_lastOf yX11_lastOf ∈ zTs := (tm0 75 rfl rfl)
theorem zmo_197 : zMok (yX11_town, cX11_town, 4, 1, RX11) := ⟨zpl_11.1, zpl_11.2.1, zpl_11.2.2, (tm7 117 rfl rfl), zin_11, Nat.le_of_ble_eq_true rfl, rfl⟩
theorem znp_197 : znp yX11_town = some 2 := by decide +kernel
theorem zia_197 : Cond.instanceMethod yX11_town ∈ zTs := (tm7 115 rfl rfl)
theorem zse_197 : Cond.selects RX11 yX11_town yX11_town ∈ zTs := (tm7 116 rfl rfl)
theorem zmo_198 : zMok (yX11_now, cX11_now, 4, 1, RX11) := ⟨zpl_11.1, zpl_11.2.1, zpl_11.2.2, (tm7 137 rfl rfl), zin_11, Nat.le_of_ble_eq_true rfl, rfl⟩
theorem znp_198 : znp yX11_now = some 1 := by decide +kernel
theorem zia_198 : Cond.instanceMethod yX11_now ∈ zTs := (tm7 135 rfl rfl)
theorem zse_198 : Cond.selects RX11 yX11_now yX11_now ∈ zTs := (tm7 136 rfl rfl)
theorem zmo_199 : zMok (yX11_comesTo, cX11_comesTo, 5, 1, RX11) := ⟨zpl_11.1, zpl_11.2.1, zpl_11.2.2, (tm7 157 rfl rfl), zin_11, Nat.le_of_ble_eq_true rfl, rfl⟩
theorem znp_199 : znp yX11_comesTo = some 1 := by decide +kernel
theorem zia_199 : Cond.instanceMethod yX11_comesTo ∈ zTs := (tm7 156 rfl rfl)
theorem zse_199 : Cond.selects RX11 yX11_comesTo yX11_comesTo ∈ zTs := (tm0 81 rfl rfl)
theorem zmo_200 : zMok (yX11_edits, cX11_edits, 4, 0, RX11) := ⟨zpl_11.1, zpl_11.2.1, zpl_11.2.2, (tm7 161 rfl rfl), zin_11, Nat.le_of_ble_eq_true rfl, rfl⟩
theorem znp_200 : znp yX11_edits = some 1 := by decide +kernel
theorem zia_200 : Cond.instanceMethod yX11_edits ∈ zTs := (tm7 160 rfl rfl)
theorem zse_200 : Cond.selects RX11 yX11_edits yX11_edits ∈ zTs := (tm0 82 rfl rfl)
theorem zmo_201 : zMok (yX11_day, cX11_day, 4, 0, RX11) := ⟨zpl_11.1, zpl_11.2.1, zpl_11.2.2, (tm7 153 rfl rfl), zin_11, Nat.le_of_ble_eq_true rfl, rfl⟩
theorem znp_201 : znp yX11_day = some 0 := by decide +kernel
theorem zia_201 : Cond.instanceMethod yX11_day ∈ zTs := (tm7 152 rfl rfl)
theorem zse_201 : Cond.selects RX11 yX11_day yX11_day ∈ zTs := (tm0 80 rfl rfl)
theorem zmo_202 : zMok (yX11_goes, cX11_goes, 3, 1, RX11) := ⟨zpl_11.1, zpl_11.2.1, zpl_11.2.2, (tm7 149 rfl rfl), zin_11, Nat.le_of_ble_eq_true rfl, rfl⟩
theorem znp_202 : znp yX11_goes = some 1 := by decide +kernel
theorem zia_202 : Cond.instanceMethod yX11_goes ∈ zTs := (tm7 148 rfl rfl)
theorem zse_202 : Cond.selects RX11 yX11_goes yX11_goes ∈ zTs := (tm0 79 rfl rfl)
theorem zmo_203 : zMok (yX11_days, cX11_days, 2, 1, RX11) := ⟨zpl_11.1, zpl_11.2.1, zpl_11.2.2, (tm7 141 rfl rfl), zin_11, Nat.le_of_ble_eq_true rfl, rfl⟩
theorem znp_203 : znp yX11_days = some 1 := by decide +kernel
theorem zia_203 : Cond.instanceMethod yX11_days ∈ zTs := (tm7 139 rfl rfl)
theorem zse_203 : Cond.selects RX11 yX11_days yX11_days ∈ zTs := (tm7 140 rfl rfl)
theorem zmo_204 : zMok (yX11_wake, cX11_wake, 3, 3, RX11) := ⟨zpl_11.1, zpl_11.2.1, zpl_11.2.2, (tm7 165 rfl rfl), zin_11, Nat.le_of_ble_eq_true rfl, rfl⟩
theorem znp_204 : znp yX11_wake = some 2 := by decide +kernel
theorem zia_204 : Cond.instanceMethod yX11_wake ∈ zTs := (tm7 163 rfl rfl)
theorem zse_204 : Cond.selects RX11 yX11_wake yX11_wake ∈ zTs := (tm7 164 rfl rfl)
theorem zmo_205 : zMok (yX11_stone, cX11_stone, 4, 3, RX11) := ⟨zpl_11.1, zpl_11.2.1, zpl_11.2.2, (tm7 169 rfl rfl), zin_11, Nat.le_of_ble_eq_true rfl, rfl⟩
theorem znp_205 : znp yX11_stone = some 3 := by decide +kernel
theorem zia_205 : Cond.instanceMethod yX11_stone ∈ zTs := (tm7 167 rfl rfl)
theorem zse_205 : Cond.selects RX11 yX11_stone yX11_stone ∈ zTs := (tm7 168 rfl rfl)
theorem zmo_206 : zMok (yX11_keep, cX11_keep, 2, 0, RX11) := ⟨zpl_11.1, zpl_11.2.1, zpl_11.2.2, (tm7 145 rfl rfl), zin_11, Nat.le_of_ble_eq_true rfl, rfl⟩
theorem znp_206 : znp yX11_keep = some 0 := by decide +kernel
theorem zia_206 : Cond.instanceMethod yX11_keep ∈ zTs := (tm7 144 rfl rfl)
theorem zse_206 : Cond.selects RX11 yX11_keep yX11_keep ∈ zTs := (tm0 78 rfl rfl)
theorem zmo_207 : zMok (yX11_undo, cX11_undo, 2, 1, RX11) := ⟨zpl_11.1, zpl_11.2.1, zpl_11.2.2, (tm7 173 rfl rfl), zin_11, Nat.le_of_ble_eq_true rfl, rfl⟩
theorem znp_207 : znp yX11_undo = some 0 := by decide +kernel
theorem zia_207 : Cond.instanceMethod yX11_undo ∈ zTs := (tm7 171 rfl rfl)
theorem zse_207 : Cond.selects RX11 yX11_undo yX11_undo ∈ zTs := (tm7 172 rfl rfl)
theorem zmo_208 : zMok (yX11_tries, cX11_tries, 2, 0, RX11) := ⟨zpl_11.1, zpl_11.2.1, zpl_11.2.2, (tm8 33 rfl rfl), zin_11, Nat.le_of_ble_eq_true rfl, rfl⟩
theorem znp_208 : znp yX11_tries = some 0 := by decide +kernel
theorem zia_208 : Cond.instanceMethod yX11_tries ∈ zTs := (tm8 32 rfl rfl)
theorem zse_208 : Cond.selects RX11 yX11_tries yX11_tries ∈ zTs := (tm0 94 rfl rfl)
theorem zmo_209 : zMok (yX11_back, cX11_back, 2, 0, RX11) := ⟨zpl_11.1, zpl_11.2.1, zpl_11.2.2, (tm8 37 rfl rfl), zin_11, Nat.le_of_ble_eq_true rfl, rfl⟩
theorem znp_209 : znp yX11_back = some 0 := by decide +kernel
theorem zia_209 : Cond.instanceMethod yX11_back ∈ zTs := (tm8 36 rfl rfl)
theorem zse_209 : Cond.selects RX11 yX11_back yX11_back ∈ zTs := (tm0 95 rfl rfl)
theorem zmo_210 : zMok (yX11_well, cX11_well, 3, 1, RX11) := ⟨zpl_11.1, zpl_11.2.1, zpl_11.2.2, (tm7 177 rfl rfl), zin_11, Nat.le_of_ble_eq_true rfl, rfl⟩
theorem znp_210 : znp yX11_well = some 2 := by decide +kernel
theorem zia_210 : Cond.instanceMethod yX11_well ∈ zTs := (tm7 175 rfl rfl)
theorem zse_210 : Cond.selects RX11 yX11_well yX11_well ∈ zTs := (tm7 176 rfl rfl)
theorem zmo_211 : zMok (yX11_behind, cX11_behind, 3, 1, RX11) := ⟨zpl_11.1, zpl_11.2.1, zpl_11.2.2, (tm7 188 rfl rfl), zin_11, Nat.le_of_ble_eq_true rfl, rfl⟩
theorem znp_211 : znp yX11_behind = some 2 := by decide +kernel
theorem zst_211 : Cond.static yX11_behind ∈ zTs := (tm7 187 rfl rfl)
theorem zmo_212 : zMok (yX11_senseOf, cX11_senseOf, 5, 1, RX11) := ⟨zpl_11.1, zpl_11.2.1, zpl_11.2.2, (tm7 185 rfl rfl), zin_11, Nat.le_of_ble_eq_true rfl, rfl⟩
theorem znp_212 : znp yX11_senseOf = some 1 := by decide +kernel
theorem zia_212 : Cond.instanceMethod yX11_senseOf ∈ zTs := (tm7 184 rfl rfl)
theorem zse_212 : Cond.selects RX11 yX11_senseOf yX11_senseOf ∈ zTs := (tm0 83 rfl rfl)
theorem zmo_213 : zMok (yX11_sense, cX11_sense, 2, 1, RX11) := ⟨zpl_11.1, zpl_11.2.1, zpl_11.2.2, (tm7 181 rfl rfl), zin_11, Nat.le_of_ble_eq_true rfl, rfl⟩
theorem znp_213 : znp yX11_sense = some 1 := by decide +kernel
theorem zia_213 : Cond.instanceMethod yX11_sense ∈ zTs := (tm7 179 rfl rfl)
theorem zse_213 : Cond.selects RX11 yX11_sense yX11_sense ∈ zTs := (tm7 180 rfl rfl)
theorem zmo_214 : zMok (yX11_sayings, cX11_sayings, 2, 1, RX11) := ⟨zpl_11.1, zpl_11.2.1, zpl_11.2.2, (tm7 192 rfl rfl), zin_11, Nat.le_of_ble_eq_true rfl, rfl⟩
theorem znp_214 : znp yX11_sayings = some 1 := by decide +kernel
theorem zia_214 : Cond.instanceMethod yX11_sayings ∈ zTs := (tm7 190 rfl rfl)
theorem zse_214 : Cond.selects RX11 yX11_sayings yX11_sayings ∈ zTs := (tm7 191 rfl rfl)
theorem zmo_215 : zMok (yX11_flows, cX11_flows, 6, 1, RX11) := ⟨zpl_11.1, zpl_11.2.1, zpl_11.2.2, (tm7 196 rfl rfl), zin_11, Nat.le_of_ble_eq_true rfl, rfl⟩
theorem znp_215 : znp yX11_flows = some 3 := by decide +kernel
theorem zia_215 : Cond.instanceMethod yX11_flows ∈ zTs := (tm7 194 rfl rfl)
theorem zse_215 : Cond.selects RX11 yX11_flows yX11_flows ∈ zTs := (tm7 195 rfl rfl)
theorem zmo_216 : zMok (yX11_aboveOf, cX11_aboveOf, 5, 1, RX11) := ⟨zpl_11.1, zpl_11.2.1, zpl_11.2.2, (tm7 204 rfl rfl), zin_11, Nat.le_of_ble_eq_true rfl, rfl⟩
theorem znp_216 : znp yX11_aboveOf = some 1 := by decide +kernel
theorem zia_216 : Cond.instanceMethod yX11_aboveOf ∈ zTs := (tm7 203 rfl rfl)
theorem zse_216 : Cond.selects RX11 yX11_aboveOf yX11_aboveOf ∈ zTs := (tm0 84 rfl rfl)
theorem zmo_217 : zMok (yX11_above, cX11_above, 2, 1, RX11) := ⟨zpl_11.1, zpl_11.2.1, zpl_11.2.2, (tm7 200 rfl rfl), zin_11, Nat.le_of_ble_eq_true rfl, rfl⟩
theorem znp_217 : znp yX11_above = some 1 := by decide +kernel
theorem zia_217 : Cond.instanceMethod yX11_above ∈ zTs := (tm7 198 rfl rfl)
theorem zse_217 : Cond.selects RX11 yX11_above yX11_above ∈ zTs := (tm7 199 rfl rfl)
theorem zmo_218 : zMok (yX11_sourceOf, cX11_sourceOf, 6, 1, RX11) := ⟨zpl_11.1, zpl_11.2.1, zpl_11.2.2, (tm7 212 rfl rfl), zin_11, Nat.le_of_ble_eq_true rfl, rfl⟩
theorem znp_218 : znp yX11_sourceOf = some 1 := by decide +kernel
theorem zia_218 : Cond.instanceMethod yX11_sourceOf ∈ zTs := (tm7 211 rfl rfl)
theorem zse_218 : Cond.selects RX11 yX11_sourceOf yX11_sourceOf ∈ zTs := (tm0 85 rfl rfl)
theorem zmo_219 : zMok (yX11_source, cX11_source, 2, 1, RX11) := ⟨zpl_11.1, zpl_11.2.1, zpl_11.2.2, (tm7 208 rfl rfl), zin_11, Nat.le_of_ble_eq_true rfl, rfl⟩
theorem znp_219 : znp yX11_source = some 1 := by decide +kernel
theorem zia_219 : Cond.instanceMethod yX11_source ∈ zTs := (tm7 206 rfl rfl)
theorem zse_219 : Cond.selects RX11 yX11_source yX11_source ∈ zTs := (tm7 207 rfl rfl)
theorem zmo_220 : zMok (yX11_madeAt, cX11_madeAt, 5, 1, RX11) := ⟨zpl_11.1, zpl_11.2.1, zpl_11.2.2, (tm7 228 rfl rfl), zin_11, Nat.le_of_ble_eq_true rfl, rfl⟩
theorem znp_220 : znp yX11_madeAt = some 3 := by decide +kernel
theorem zia_220 : Cond.instanceMethod yX11_madeAt ∈ zTs := (tm7 227 rfl rfl)
theorem zse_220 : Cond.selects RX11 yX11_madeAt yX11_madeAt ∈ zTs := (tm0 88 rfl rfl)
theorem zmo_221 : zMok (yX11_comesOf, cX11_comesOf, 7, 1, RX11) := ⟨zpl_11.1, zpl_11.2.1, zpl_11.2.2, (tm7 224 rfl rfl), zin_11, Nat.le_of_ble_eq_true rfl, rfl⟩
theorem znp_221 : znp yX11_comesOf = some 2 := by decide +kernel
theorem zia_221 : Cond.instanceMethod yX11_comesOf ∈ zTs := (tm7 223 rfl rfl)
theorem zse_221 : Cond.selects RX11 yX11_comesOf yX11_comesOf ∈ zTs := (tm0 87 rfl rfl)
theorem zmo_222 : zMok (yX11_hasSource, cX11_hasSource, 2, 3, RX11) := ⟨zpl_11.1, zpl_11.2.1, zpl_11.2.2, (tm7 220 rfl rfl), zin_11, Nat.le_of_ble_eq_true rfl, rfl⟩
theorem znp_222 : znp yX11_hasSource = some 1 := by decide +kernel
theorem zia_222 : Cond.instanceMethod yX11_hasSource ∈ zTs := (tm7 219 rfl rfl)
theorem zse_222 : Cond.selects RX11 yX11_hasSource yX11_hasSource ∈ zTs := (tm0 86 rfl rfl)
theorem zmo_223 : zMok (yX11_comes, cX11_comes, 3, 1, RX11) := ⟨zpl_11.1, zpl_11.2.1, zpl_11.2.2, (tm7 216 rfl rfl), zin_11, Nat.le_of_ble_eq_true rfl, rfl⟩
theorem znp_223 : znp yX11_comes = some 2 := by decide +kernel
theorem zia_223 : Cond.instanceMethod yX11_comes ∈ zTs := (tm7 214 rfl rfl)
theorem zse_223 : Cond.selects RX11 yX11_comes yX11_comes ∈ zTs := (tm7 215 rfl rfl)
theorem zmo_224 : zMok (yX11_termAt, cX11_termAt, 2, 1, RX11) := ⟨zpl_11.1, zpl_11.2.1, zpl_11.2.2, (tm8 5 rfl rfl), zin_11, Nat.le_of_ble_eq_true rfl, rfl⟩
theorem znp_224 : znp yX11_termAt = some 1 := by decide +kernel
theorem zia_224 : Cond.instanceMethod yX11_termAt ∈ zTs := (tm8 4 rfl rfl)
theorem zse_224 : Cond.selects RX11 yX11_termAt yX11_termAt ∈ zTs := (tm0 91 rfl rfl)
theorem zmo_225 : zMok (yX11_areTerms, cX11_areTerms, 3, 3, RX11) := ⟨zpl_11.1, zpl_11.2.1, zpl_11.2.2, (tm7 236 rfl rfl), zin_11, Nat.le_of_ble_eq_true rfl, rfl⟩
theorem znp_225 : znp yX11_areTerms = some 1 := by decide +kernel
theorem zia_225 : Cond.instanceMethod yX11_areTerms ∈ zTs := (tm7 235 rfl rfl)
theorem zse_225 : Cond.selects RX11 yX11_areTerms yX11_areTerms ∈ zTs := (tm0 89 rfl rfl)
theorem zmo_226 : zMok (yX11_saying, cX11_saying, 7, 2, RX11) := ⟨zpl_11.1, zpl_11.2.1, zpl_11.2.2, (tm7 232 rfl rfl), zin_11, Nat.le_of_ble_eq_true rfl, rfl⟩
theorem znp_226 : znp yX11_saying = some 1 := by decide +kernel
theorem zia_226 : Cond.instanceMethod yX11_saying ∈ zTs := (tm7 230 rfl rfl)
theorem zse_226 : Cond.selects RX11 yX11_saying yX11_saying ∈ zTs := (tm7 231 rfl rfl)
theorem zmo_227 : zMok (yX11_saidAt, cX11_saidAt, 2, 1, RX11) := ⟨zpl_11.1, zpl_11.2.1, zpl_11.2.2, (tm8 9 rfl rfl), zin_11, Nat.le_of_ble_eq_true rfl, rfl⟩
theorem znp_227 : znp yX11_saidAt = some 1 := by decide +kernel
theorem zia_227 : Cond.instanceMethod yX11_saidAt ∈ zTs := (tm8 7 rfl rfl)
theorem zse_227 : Cond.selects RX11 yX11_saidAt yX11_saidAt ∈ zTs := (tm8 8 rfl rfl)
theorem zmo_228 : zMok (yX11_wish, cX11_wish, 7, 1, RX11) := ⟨zpl_11.1, zpl_11.2.1, zpl_11.2.2, (tm8 13 rfl rfl), zin_11, Nat.le_of_ble_eq_true rfl, rfl⟩
theorem znp_228 : znp yX11_wish = some 1 := by decide +kernel
theorem zia_228 : Cond.instanceMethod yX11_wish ∈ zTs := (tm8 11 rfl rfl)
theorem zse_228 : Cond.selects RX11 yX11_wish yX11_wish ∈ zTs := (tm8 12 rfl rfl)
theorem zmo_229 : zMok (yX11_ownOf, cX11_ownOf, 4, 1, RX11) := ⟨zpl_11.1, zpl_11.2.1, zpl_11.2.2, (tm8 21 rfl rfl), zin_11, Nat.le_of_ble_eq_true rfl, rfl⟩
theorem znp_229 : znp yX11_ownOf = some 1 := by decide +kernel
theorem zia_229 : Cond.instanceMethod yX11_ownOf ∈ zTs := (tm8 20 rfl rfl)
theorem zse_229 : Cond.selects RX11 yX11_ownOf yX11_ownOf ∈ zTs := (tm0 92 rfl rfl)
theorem zmo_230 : zMok (yX11_own, cX11_own, 2, 1, RX11) := ⟨zpl_11.1, zpl_11.2.1, zpl_11.2.2, (tm8 17 rfl rfl), zin_11, Nat.le_of_ble_eq_true rfl, rfl⟩
theorem znp_230 : znp yX11_own = some 1 := by decide +kernel
theorem zia_230 : Cond.instanceMethod yX11_own ∈ zTs := (tm8 15 rfl rfl)
theorem zse_230 : Cond.selects RX11 yX11_own yX11_own ∈ zTs := (tm8 16 rfl rfl)
theorem zmo_231 : zMok (yX11_likesBy, cX11_likesBy, 5, 0, RX11) := ⟨zpl_11.1, zpl_11.2.1, zpl_11.2.2, (tm8 29 rfl rfl), zin_11, Nat.le_of_ble_eq_true rfl, rfl⟩
theorem znp_231 : znp yX11_likesBy = some 2 := by decide +kernel
theorem zia_231 : Cond.instanceMethod yX11_likesBy ∈ zTs := (tm8 28 rfl rfl)
theorem zse_231 : Cond.selects RX11 yX11_likesBy yX11_likesBy ∈ zTs := (tm0 93 rfl rfl)
theorem zmo_232 : zMok (yX11_rests, cX11_rests, 7, 1, RX11) := ⟨zpl_11.1, zpl_11.2.1, zpl_11.2.2, (tm8 25 rfl rfl), zin_11, Nat.le_of_ble_eq_true rfl, rfl⟩
theorem znp_232 : znp yX11_rests = some 2 := by decide +kernel
theorem zia_232 : Cond.instanceMethod yX11_rests ∈ zTs := (tm8 23 rfl rfl)
theorem zse_232 : Cond.selects RX11 yX11_rests yX11_rests ∈ zTs := (tm8 24 rfl rfl)
theorem zmo_233 : zMok (yX11_liked, cX11_liked, 4, 1, RX11) := ⟨zpl_11.1, zpl_11.2.1, zpl_11.2.2, (tm8 41 rfl rfl), zin_11, Nat.le_of_ble_eq_true rfl, rfl⟩
theorem znp_233 : znp yX11_liked = some 3 := by decide +kernel
theorem zia_233 : Cond.instanceMethod yX11_liked ∈ zTs := (tm8 39 rfl rfl)
theorem zse_233 : Cond.selects RX11 yX11_liked yX11_liked ∈ zTs := (tm8 40 rfl rfl)
theorem zmo_234 : zMok (yX11_sure, cX11_sure, 2, 1, RX11) := ⟨zpl_11.1, zpl_11.2.1, zpl_11.2.2, (tm8 45 rfl rfl), zin_11, Nat.le_of_ble_eq_true rfl, rfl⟩
theorem znp_234 : znp yX11_sure = some 1 := by decide +kernel
theorem zia_234 : Cond.instanceMethod yX11_sure ∈ zTs := (tm8 43 rfl rfl)
theorem zse_234 : Cond.selects RX11 yX11_sure yX11_sure ∈ zTs := (tm8 44 rfl rfl)
theorem zmo_235 : zMok (yX11_most, cX11_most, 4, 1, RX11) := ⟨zpl_11.1, zpl_11.2.1, zpl_11.2.2, (tm8 49 rfl rfl), zin_11, Nat.le_of_ble_eq_true rfl, rfl⟩
theorem znp_235 : znp yX11_most = some 0 := by decide +kernel
theorem zia_235 : Cond.instanceMethod yX11_most ∈ zTs := (tm8 47 rfl rfl)
theorem zse_235 : Cond.selects RX11 yX11_most yX11_most ∈ zTs := (tm8 48 rfl rfl)
theorem zmo_236 : zMok (yX11_when, cX11_when, 6, 1, RX11) := ⟨zpl_11.1, zpl_11.2.1, zpl_11.2.2, (tm8 53 rfl rfl), zin_11, Nat.le_of_ble_eq_true rfl, rfl⟩
theorem znp_236 : znp yX11_when = some 3 := by decide +kernel
theorem zia_236 : Cond.instanceMethod yX11_when ∈ zTs := (tm8 51 rfl rfl)
theorem zse_236 : Cond.selects RX11 yX11_when yX11_when ∈ zTs := (tm8 52 rfl rfl)
theorem zmo_237 : zMok (yX11_clashes, cX11_clashes, 3, 1, RX11) := ⟨zpl_11.1, zpl_11.2.1, zpl_11.2.2, (tm8 57 rfl rfl), zin_11, Nat.le_of_ble_eq_true rfl, rfl⟩
theorem znp_237 : znp yX11_clashes = some 1 := by decide +kernel
theorem zia_237 : Cond.instanceMethod yX11_clashes ∈ zTs := (tm8 55 rfl rfl)
theorem zse_237 : Cond.selects RX11 yX11_clashes yX11_clashes ∈ zTs := (tm8 56 rfl rfl)
theorem zmo_238 : zMok (yX11_unlike, cX11_unlike, 6, 1, RX11) := ⟨zpl_11.1, zpl_11.2.1, zpl_11.2.2, (tm8 61 rfl rfl), zin_11, Nat.le_of_ble_eq_true rfl, rfl⟩
theorem znp_238 : znp yX11_unlike = some 3 := by decide +kernel
theorem zia_238 : Cond.instanceMethod yX11_unlike ∈ zTs := (tm8 59 rfl rfl)
theorem zse_238 : Cond.selects RX11 yX11_unlike yX11_unlike ∈ zTs := (tm8 60 rfl rfl)
theorem zmo_239 : zMok (yX11_draw, cX11_draw, 2, 1, RX11) := ⟨zpl_11.1, zpl_11.2.1, zpl_11.2.2, (tm8 73 rfl rfl), zin_11, Nat.le_of_ble_eq_true rfl, rfl⟩
theorem znp_239 : znp yX11_draw = some 1 := by decide +kernel
theorem zia_239 : Cond.instanceMethod yX11_draw ∈ zTs := (tm8 72 rfl rfl)
theorem zse_239 : Cond.selects RX11 yX11_draw yX11_draw ∈ zTs := (tm0 97 rfl rfl)
theorem zmo_240 : zMok (yX11_draws, cX11_draws, 7, 1, RX11) := ⟨zpl_11.1, zpl_11.2.1, zpl_11.2.2, (tm8 69 rfl rfl), zin_11, Nat.le_of_ble_eq_true rfl, rfl⟩
theorem znp_240 : znp yX11_draws = some 2 := by decide +kernel
theorem zia_240 : Cond.instanceMethod yX11_draws ∈ zTs := (tm8 68 rfl rfl)
theorem zse_240 : Cond.selects RX11 yX11_draws yX11_draws ∈ zTs := (tm0 96 rfl rfl)
theorem zmo_241 : zMok (yX11_drawn, cX11_drawn, 4, 1, RX11) := ⟨zpl_11.1, zpl_11.2.1, zpl_11.2.2, (tm8 65 rfl rfl), zin_11, Nat.le_of_ble_eq_true rfl, rfl⟩
theorem znp_241 : znp yX11_drawn = some 2 := by decide +kernel
theorem zia_241 : Cond.instanceMethod yX11_drawn ∈ zTs := (tm8 63 rfl rfl)
theorem zse_241 : Cond.selects RX11 yX11_drawn yX11_drawn ∈ zTs := (tm8 64 rfl rfl)
theorem zmo_242 : zMok (yX11_stones, cX11_stones, 1, 1, RX11) := ⟨zpl_11.1, zpl_11.2.1, zpl_11.2.2, (tm8 78 rfl rfl), zin_11, Nat.le_of_ble_eq_true rfl, rfl⟩
theorem znp_242 : znp yX11_stones = some 0 := by decide +kernel
theorem zia_242 : Cond.instanceMethod yX11_stones ∈ zTs := (tm8 76 rfl rfl)
theorem zse_242 : Cond.selects RX11 yX11_stones yX11_stones ∈ zTs := (tm8 77 rfl rfl)
theorem zmo_243 : zMok (yX11_odds, cX11_odds, 6, 1, RX11) := ⟨zpl_11.1, zpl_11.2.1, zpl_11.2.2, (tm8 82 rfl rfl), zin_11, Nat.le_of_ble_eq_true rfl, rfl⟩
theorem znp_243 : znp yX11_odds = some 3 := by decide +kernel
theorem zia_243 : Cond.instanceMethod yX11_odds ∈ zTs := (tm8 80 rfl rfl)
theorem zse_243 : Cond.selects RX11 yX11_odds yX11_odds ∈ zTs := (tm8 81 rfl rfl)
theorem zmo_244 : zMok (yX11_bookLine, cX11_bookLine, 4, 3, RX11) := ⟨zpl_11.1, zpl_11.2.1, zpl_11.2.2, (tm8 90 rfl rfl), zin_11, Nat.le_of_ble_eq_true rfl, rfl⟩
theorem znp_244 : znp yX11_bookLine = some 0 := by decide +kernel
theorem zia_244 : Cond.instanceMethod yX11_bookLine ∈ zTs := (tm8 89 rfl rfl)
theorem zse_244 : Cond.selects RX11 yX11_bookLine yX11_bookLine ∈ zTs := (tm0 98 rfl rfl)
theorem zmo_245 : zMok (yX11_does, cX11_does, 4, 1, RX11) := ⟨zpl_11.1, zpl_11.2.1, zpl_11.2.2, (tm8 94 rfl rfl), zin_11, Nat.le_of_ble_eq_true rfl, rfl⟩
theorem znp_245 : znp yX11_does = some 1 := by decide +kernel
theorem zia_245 : Cond.instanceMethod yX11_does ∈ zTs := (tm8 93 rfl rfl)
theorem zse_245 : Cond.selects RX11 yX11_does yX11_does ∈ zTs := (tm0 99 rfl rfl)
theorem zmo_246 : zMok (yX11_daybook, cX11_daybook, 5, 1, RX11) := ⟨zpl_11.1, zpl_11.2.1, zpl_11.2.2, (tm8 86 rfl rfl), zin_11, Nat.le_of_ble_eq_true rfl, rfl⟩
theorem znp_246 : znp yX11_daybook = some 1 := by decide +kernel
theorem zia_246 : Cond.instanceMethod yX11_daybook ∈ zTs := (tm8 84 rfl rfl)
theorem zse_246 : Cond.selects RX11 yX11_daybook yX11_daybook ∈ zTs := (tm8 85 rfl rfl)
theorem zmo_247 : zMok (yX11_booked, cX11_booked, 2, 1, RX11) := ⟨zpl_11.1, zpl_11.2.1, zpl_11.2.2, (tm8 98 rfl rfl), zin_11, Nat.le_of_ble_eq_true rfl, rfl⟩
theorem znp_247 : znp yX11_booked = some 1 := by decide +kernel
theorem zia_247 : Cond.instanceMethod yX11_booked ∈ zTs := (tm8 96 rfl rfl)
theorem zse_247 : Cond.selects RX11 yX11_booked yX11_booked ∈ zTs := (tm8 97 rfl rfl)
theorem zmo_248 : zMok (yX11_code, cX11_code, 4, 0, RX11) := ⟨zpl_11.1, zpl_11.2.1, zpl_11.2.2, (tm8 110 rfl rfl), zin_11, Nat.le_of_ble_eq_true rfl, rfl⟩
theorem znp_248 : znp yX11_code = some 3 := by decide +kernel
theorem zia_248 : Cond.instanceMethod yX11_code ∈ zTs := (tm8 109 rfl rfl)
theorem zse_248 : Cond.selects RX11 yX11_code yX11_code ∈ zTs := (tm0 101 rfl rfl)
theorem zmo_249 : zMok (yX11_joins, cX11_joins, 2, 0, RX11) := ⟨zpl_11.1, zpl_11.2.1, zpl_11.2.2, (tm8 114 rfl rfl), zin_11, Nat.le_of_ble_eq_true rfl, rfl⟩
theorem znp_249 : znp yX11_joins = some 1 := by decide +kernel
theorem zia_249 : Cond.instanceMethod yX11_joins ∈ zTs := (tm8 113 rfl rfl)
theorem zse_249 : Cond.selects RX11 yX11_joins yX11_joins ∈ zTs := (tm0 102 rfl rfl)
theorem zmo_250 : zMok (yX11_nots, cX11_nots, 1, 0, RX11) := ⟨zpl_11.1, zpl_11.2.1, zpl_11.2.2, (tm8 106 rfl rfl), zin_11, Nat.le_of_ble_eq_true rfl, rfl⟩
theorem znp_250 : znp yX11_nots = some 0 := by decide +kernel
theorem zia_250 : Cond.instanceMethod yX11_nots ∈ zTs := (tm8 105 rfl rfl)
theorem zse_250 : Cond.selects RX11 yX11_nots yX11_nots ∈ zTs := (tm0 100 rfl rfl)
theorem zmo_251 : zMok (yX11_leafOf, cX11_leafOf, 1, 1, RX11) := ⟨zpl_11.1, zpl_11.2.1, zpl_11.2.2, (tm8 126 rfl rfl), zin_11, Nat.le_of_ble_eq_true rfl, rfl⟩
theorem znp_251 : znp yX11_leafOf = some 0 := by decide +kernel
theorem zia_251 : Cond.instanceMethod yX11_leafOf ∈ zTs := (tm8 125 rfl rfl)
theorem zse_251 : Cond.selects RX11 yX11_leafOf yX11_leafOf ∈ zTs := (tm0 105 rfl rfl)
theorem zmo_252 : zMok (yX11_operand, cX11_operand, 5, 3, RX11) := ⟨zpl_11.1, zpl_11.2.1, zpl_11.2.2, (tm8 122 rfl rfl), zin_11, Nat.le_of_ble_eq_true rfl, rfl⟩
theorem znp_252 : znp yX11_operand = some 0 := by decide +kernel
theorem zia_252 : Cond.instanceMethod yX11_operand ∈ zTs := (tm8 121 rfl rfl)
theorem zse_252 : Cond.selects RX11 yX11_operand yX11_operand ∈ zTs := (tm0 104 rfl rfl)
theorem zmo_253 : zMok (yX11_behind_, cX11_behind_, 1, 3, RX11) := ⟨zpl_11.1, zpl_11.2.1, zpl_11.2.2, (tm8 118 rfl rfl), zin_11, Nat.le_of_ble_eq_true rfl, rfl⟩
theorem znp_253 : znp yX11_behind_ = some 0 := by decide +kernel
theorem zia_253 : Cond.instanceMethod yX11_behind_ ∈ zTs := (tm8 117 rfl rfl)
theorem zse_253 : Cond.selects RX11 yX11_behind_ yX11_behind_ ∈ zTs := (tm0 103 rfl rfl)
theorem zmo_254 : zMok (yX11_sentence, cX11_sentence, 3, 1, RX11) := ⟨zpl_11.1, zpl_11.2.1, zpl_11.2.2, (tm8 102 rfl rfl), zin_11, Nat.le_of_ble_eq_true rfl, rfl⟩
theorem znp_254 : znp yX11_sentence = some 0 := by decide +kernel
theorem zia_254 : Cond.instanceMethod yX11_sentence ∈ zTs := (tm8 100 rfl rfl)
theorem zse_254 : Cond.selects RX11 yX11_sentence yX11_sentence ∈ zTs := (tm8 101 rfl rfl)
theorem zmo_255 : zMok (yX11_isLeaf, cX11_isLeaf, 6, 3, RX11) := ⟨zpl_11.1, zpl_11.2.1, zpl_11.2.2, (tm8 138 rfl rfl), zin_11, Nat.le_of_ble_eq_true rfl, rfl⟩
theorem znp_255 : znp yX11_isLeaf = some 4 := by decide +kernel
theorem zia_255 : Cond.instanceMethod yX11_isLeaf ∈ zTs := (tm8 137 rfl rfl)
theorem zse_255 : Cond.selects RX11 yX11_isLeaf yX11_isLeaf ∈ zTs := (tm0 107 rfl rfl)
theorem zmo_256 : zMok (yX11_isSaid, cX11_isSaid, 5, 3, RX11) := ⟨zpl_11.1, zpl_11.2.1, zpl_11.2.2, (tm8 134 rfl rfl), zin_11, Nat.le_of_ble_eq_true rfl, rfl⟩
theorem znp_256 : znp yX11_isSaid = some 1 := by decide +kernel
theorem zia_256 : Cond.instanceMethod yX11_isSaid ∈ zTs := (tm8 133 rfl rfl)
theorem zse_256 : Cond.selects RX11 yX11_isSaid yX11_isSaid ∈ zTs := (tm0 106 rfl rfl)
theorem zmo_257 : zMok (yX11_said, cX11_said, 4, 1, RX11) := ⟨zpl_11.1, zpl_11.2.1, zpl_11.2.2, (tm8 130 rfl rfl), zin_11, Nat.le_of_ble_eq_true rfl, rfl⟩
theorem znp_257 : znp yX11_said = some 1 := by decide +kernel
theorem zia_257 : Cond.instanceMethod yX11_said ∈ zTs := (tm8 128 rfl rfl)
theorem zse_257 : Cond.selects RX11 yX11_said yX11_said ∈ zTs := (tm8 129 rfl rfl)
theorem zmo_258 : zMok (yX11_image, cX11_image, 3, 3, RX11) := ⟨zpl_11.1, zpl_11.2.1, zpl_11.2.2, (tm8 142 rfl rfl), zin_11, Nat.le_of_ble_eq_true rfl, rfl⟩
theorem znp_258 : znp yX11_image = some 1 := by decide +kernel
theorem zia_258 : Cond.instanceMethod yX11_image ∈ zTs := (tm8 140 rfl rfl)
theorem zse_258 : Cond.selects RX11 yX11_image yX11_image ∈ zTs := (tm8 141 rfl rfl)
theorem zmo_259 : zMok (yX11_restore, cX11_restore, 3, 3, RX11) := ⟨zpl_11.1, zpl_11.2.1, zpl_11.2.2, (tm8 146 rfl rfl), zin_11, Nat.le_of_ble_eq_true rfl, rfl⟩
theorem znp_259 : znp yX11_restore = some 1 := by decide +kernel
theorem zia_259 : Cond.instanceMethod yX11_restore ∈ zTs := (tm8 144 rfl rfl)
theorem zse_259 : Cond.selects RX11 yX11_restore yX11_restore ∈ zTs := (tm8 145 rfl rfl)
theorem zmo_260 : zMok (yX11_count, cX11_count, 2, 1, RX11) := ⟨zpl_11.1, zpl_11.2.1, zpl_11.2.2, (tm8 150 rfl rfl), zin_11, Nat.le_of_ble_eq_true rfl, rfl⟩
theorem znp_260 : znp yX11_count = some 1 := by decide +kernel
theorem zia_260 : Cond.instanceMethod yX11_count ∈ zTs := (tm8 148 rfl rfl)
theorem zse_260 : Cond.selects RX11 yX11_count yX11_count ∈ zTs := (tm8 149 rfl rfl)
theorem zmo_261 : zMok (yJ7_fill_53178, cJ7_fill_53178, 4, 0, RJ7) := ⟨zpl_12.1, zpl_12.2.1, zpl_12.2.2, (tm2 12 rfl rfl), zin_12, Nat.le_of_ble_eq_true rfl, rfl⟩
theorem znp_261 : znp yJ7_fill_53178 = some 2 := by decide +kernel
theorem zst_261 : Cond.static yJ7_fill_53178 ∈ zTs := (tm2 11 rfl rfl)
theorem zcw0 : ∀ w ∈ wsX00, w ∈ zTs := u_ws_succ (u_ws_succ (u_ws_nil) (tm2 93 rfl rfl)) (tm2 95 rfl rfl)
theorem zcw1 : ∀ w ∈ wsX10, w ∈ zTs := u_ws_succ (u_ws_succ (u_ws_succ (u_ws_succ (u_ws_succ (u_ws_succ (u_ws_succ (u_ws_succ (u_ws_succ (u_ws_succ (u_ws_succ (u_ws_succ (u_ws_succ (u_ws_succ (u_ws_succ (u_ws_succ (u_ws_succ (u_ws_succ (u_ws_succ (u_ws_nil) (tm1 172 rfl rfl)) (tm1 174 rfl rfl)) (tm1 176 rfl rfl)) (tm1 178 rfl rfl)) (tm1 180 rfl rfl)) (tm1 182 rfl rfl)) (tm1 184 rfl rfl)) (tm1 186 rfl rfl)) (tm1 188 rfl rfl)) (tm1 190 rfl rfl)) (tm1 192 rfl rfl)) (tm1 194 rfl rfl)) (tm1 196 rfl rfl)) (tm1 198 rfl rfl)) (tm1 200 rfl rfl)) (tm1 202 rfl rfl)) (tm1 204 rfl rfl)) (tm1 206 rfl rfl)) (tm1 208 rfl rfl)
theorem zcw2 : ∀ w ∈ wsX20, w ∈ zTs := u_ws_succ (u_ws_succ (u_ws_succ (u_ws_succ (u_ws_succ (u_ws_succ (u_ws_succ (u_ws_nil) (tm1 225 rfl rfl)) (tm1 227 rfl rfl)) (tm1 229 rfl rfl)) (tm1 231 rfl rfl)) (tm1 233 rfl rfl)) (tm1 235 rfl rfl)) (tm1 237 rfl rfl)
theorem zcw3 : ∀ w ∈ wsX30, w ∈ zTs := u_ws_succ (u_ws_succ (u_ws_succ (u_ws_succ (u_ws_succ (u_ws_succ (u_ws_succ (u_ws_succ (u_ws_succ (u_ws_nil) (tm2 137 rfl rfl)) (tm2 139 rfl rfl)) (tm2 141 rfl rfl)) (tm2 143 rfl rfl)) (tm2 145 rfl rfl)) (tm2 147 rfl rfl)) (tm2 149 rfl rfl)) (tm2 151 rfl rfl)) (tm2 153 rfl rfl)
theorem zcw4 : ∀ w ∈ wsX40, w ∈ zTs := u_ws_succ (u_ws_succ (u_ws_nil) (tm2 195 rfl rfl)) (tm2 197 rfl rfl)
theorem zcw5 : ∀ w ∈ wsX50, w ∈ zTs := u_ws_succ (u_ws_succ (u_ws_succ (u_ws_succ (u_ws_nil) (tm2 176 rfl rfl)) (tm2 178 rfl rfl)) (tm2 180 rfl rfl)) (tm2 182 rfl rfl)
theorem zcw6 : ∀ w ∈ wsX60, w ∈ zTs := u_ws_succ (u_ws_succ (u_ws_succ (u_ws_succ (u_ws_nil) (tm1 104 rfl rfl)) (tm1 106 rfl rfl)) (tm1 108 rfl rfl)) (tm1 110 rfl rfl)
theorem zcw7 : ∀ w ∈ wsX70, w ∈ zTs := u_ws_succ (u_ws_succ (u_ws_succ (u_ws_succ (u_ws_succ (u_ws_nil) (tm2 110 rfl rfl)) (tm2 112 rfl rfl)) (tm2 114 rfl rfl)) (tm2 116 rfl rfl)) (tm2 118 rfl rfl)
theorem zcw8 : ∀ w ∈ wsX80, w ∈ zTs := u_ws_succ (u_ws_succ (u_ws_succ (u_ws_succ (u_ws_succ (u_ws_succ (u_ws_succ (u_ws_succ (u_ws_succ (u_ws_succ (u_ws_succ (u_ws_succ (u_ws_succ (u_ws_succ (u_ws_succ (u_ws_succ (u_ws_nil) (tm2 48 rfl rfl)) (tm2 50 rfl rfl)) (tm2 52 rfl rfl)) (tm2 54 rfl rfl)) (tm2 56 rfl rfl)) (tm2 58 rfl rfl)) (tm2 60 rfl rfl)) (tm2 62 rfl rfl)) (tm2 64 rfl rfl)) (tm2 66 rfl rfl)) (tm2 68 rfl rfl)) (tm2 70 rfl rfl)) (tm2 72 rfl rfl)) (tm2 74 rfl rfl)) (tm2 76 rfl rfl)) (tm2 78 rfl rfl)
theorem zcw9 : ∀ w ∈ wsX90, w ∈ zTs := u_ws_succ (u_ws_succ (u_ws_succ (u_ws_succ (u_ws_succ (u_ws_succ (u_ws_succ (u_ws_succ (u_ws_succ (u_ws_succ (u_ws_succ (u_ws_nil) (tm1 59 rfl rfl)) (tm1 61 rfl rfl)) (tm1 63 rfl rfl)) (tm1 65 rfl rfl)) (tm1 67 rfl rfl)) (tm1 69 rfl rfl)) (tm1 71 rfl rfl)) (tm1 73 rfl rfl)) (tm1 75 rfl rfl)) (tm1 77 rfl rfl)) (tm1 79 rfl rfl)
theorem zcw10 : ∀ w ∈ wsX100, w ∈ zTs := u_ws_succ (u_ws_succ (u_ws_succ (u_ws_succ (u_ws_succ (u_ws_succ (u_ws_succ (u_ws_succ (u_ws_succ (u_ws_succ (u_ws_succ (u_ws_succ (u_ws_succ (u_ws_succ (u_ws_succ (u_ws_succ (u_ws_succ (u_ws_succ (u_ws_nil) (tm2 218 rfl rfl)) (tm2 220 rfl rfl)) (tm2 222 rfl rfl)) (tm2 224 rfl rfl)) (tm2 226 rfl rfl)) (tm2 228 rfl rfl)) (tm2 230 rfl rfl)) (tm2 232 rfl rfl)) (tm2 234 rfl rfl)) (tm2 236 rfl rfl)) (tm2 238 rfl rfl)) (tm3 0 rfl rfl)) (tm3 2 rfl rfl)) (tm3 4 rfl rfl)) (tm3 6 rfl rfl)) (tm3 8 rfl rfl)) (tm3 10 rfl rfl)) (tm3 12 rfl rfl)
theorem zcw11 : ∀ w ∈ wsX110, w ∈ zTs := u_ws_succ (u_ws_succ (u_ws_succ (u_ws_succ (u_ws_succ (u_ws_succ (u_ws_succ (u_ws_succ (u_ws_succ (u_ws_succ (u_ws_succ (u_ws_succ (u_ws_succ (u_ws_succ (u_ws_succ (u_ws_succ (u_ws_succ (u_ws_succ (u_ws_succ (u_ws_succ (u_ws_succ (u_ws_succ (u_ws_succ (u_ws_succ (u_ws_succ (u_ws_succ (u_ws_succ (u_ws_succ (u_ws_succ (u_ws_succ (u_ws_succ (u_ws_succ (u_ws_succ (u_ws_succ (u_ws_succ (u_ws_succ (u_ws_succ (u_ws_succ (u_ws_succ (u_ws_succ (u_ws_succ (u_ws_succ (u_ws_succ (u_ws_succ (u_ws_succ (u_ws_succ (u_ws_nil) (tm6 111 rfl rfl)) (tm6 113 rfl rfl)) (tm6 115 rfl rfl)) (tm6 117 rfl rfl)) (tm6 119 rfl rfl)) (tm6 121 rfl rfl)) (tm6 123 rfl rfl)) (tm6 125 rfl rfl)) (tm6 127 rfl rfl)) (tm6 129 rfl rfl)) (tm6 131 rfl rfl)) (tm6 133 rfl rfl)) (tm6 135 rfl rfl)) (tm6 137 rfl rfl)) (tm6 139 rfl rfl)) (tm6 141 rfl rfl)) (tm6 143 rfl rfl)) (tm6 145 rfl rfl)) (tm6 147 rfl rfl)) (tm6 149 rfl rfl)) (tm6 151 rfl rfl)) (tm6 153 rfl rfl)) (tm6 155 rfl rfl)) (tm6 157 rfl rfl)) (tm6 159 rfl rfl)) (tm6 161 rfl rfl)) (tm6 163 rfl rfl)) (tm6 165 rfl rfl)) (tm6 167 rfl rfl)) (tm6 169 rfl rfl)) (tm6 171 rfl rfl)) (tm6 173 rfl rfl)) (tm6 175 rfl rfl)) (tm6 177 rfl rfl)) (tm6 179 rfl rfl)) (tm6 181 rfl rfl)) (tm6 183 rfl rfl)) (tm6 185 rfl rfl)) (tm6 187 rfl rfl)) (tm6 189 rfl rfl)) (tm6 191 rfl rfl)) (tm6 193 rfl rfl)) (tm6 195 rfl rfl)) (tm6 197 rfl rfl)) (tm6 199 rfl rfl)) (tm6 201 rfl rfl)
theorem zl_0_11 : zLK zTs RX0 11 (0, 0, 0, 0, 0, 0, 0) := ⟨RX0, TX0, 2, tyX0, rfl, (by decide +kernel), rfl, (by decide +kernel), zcw0, (tm2 90 rfl rfl), tyX0_ok, nmX0, zfk_4 1 rfl⟩
theorem zl_0_20 : zLK zTs RX0 20 (0, 0, 1, 0, 0, 0, 0) := ⟨RX0, TX0, 2, tyX0, rfl, (by decide +kernel), rfl, (by decide +kernel), zcw0, (tm2 91 rfl rfl), tyX0_ok, nmX0, zfk_0 rfl rfl rfl⟩
theorem zl_0_24 : zLK zTs RX0 24 (1, 2, 1, 0, 1, 0, 0) := zLK1 zmt_2 (zLMv rfl (tm4 20 rfl rfl) zia_2 zse_2 rfl znp_2 rfl) zmo_2
theorem zl_0_27 : zLK zTs RX0 27 (1, 69, 2, 0, 9, 1, 0) := zLK1 zmt_69 (zLMv rfl (tm4 24 rfl rfl) zia_69 zse_69 rfl znp_69 rfl) zmo_69
theorem zlks_0 : zLKs RX0 zlk0 := zLKs_cons zl_0_11 (zLKs_cons zl_0_20 (zLKs_cons zl_0_24 (zLKs_cons zl_0_27 (zLKs_nil))))
theorem zl_1_12 : zLK zTs RX1 12 (0, 1, 0, 0, 0, 0, 0) := ⟨RX1, TX1, 19, tyX1, rfl, (by decide +kernel), rfl, (by decide +kernel), zcw1, (tm1 114 rfl rfl), tyX1_ok, nmX1, zfk_4 0 rfl⟩
theorem zl_1_18 : zLK zTs RX1 18 (0, 1, 1, 0, 0, 0, 0) := ⟨RX1, TX1, 19, tyX1, rfl, (by decide +kernel), rfl, (by decide +kernel), zcw1, (tm1 117 rfl rfl), tyX1_ok, nmX1, zfk_4 1 rfl⟩
theorem zl_1_22 : zLK zTs RX1 22 (0, 1, 2, 0, 0, 0, 0) := ⟨RX1, TX1, 19, tyX1, rfl, (by decide +kernel), rfl, (by decide +kernel), zcw1, (tm1 120 rfl rfl), tyX1_ok, nmX1, zfk_4 1 rfl⟩
theorem zl_1_25 : zLK zTs RX1 25 (0, 1, 3, 0, 0, 0, 0) := ⟨RX1, TX1, 19, tyX1, rfl, (by decide +kernel), rfl, (by decide +kernel), zcw1, (tm1 124 rfl rfl), tyX1_ok, nmX1, zfk_4 1 rfl⟩
theorem zl_1_28 : zLK zTs RX1 28 (0, 1, 4, 0, 0, 0, 0) := ⟨RX1, TX1, 19, tyX1, rfl, (by decide +kernel), rfl, (by decide +kernel), zcw1, (tm1 127 rfl rfl), tyX1_ok, nmX1, zfk_4 1 rfl⟩
theorem zl_1_31 : zLK zTs RX1 31 (0, 1, 5, 0, 0, 0, 0) := ⟨RX1, TX1, 19, tyX1, rfl, (by decide +kernel), rfl, (by decide +kernel), zcw1, (tm1 130 rfl rfl), tyX1_ok, nmX1, zfk_4 1 rfl⟩
theorem zl_1_34 : zLK zTs RX1 34 (0, 1, 6, 0, 0, 0, 0) := ⟨RX1, TX1, 19, tyX1, rfl, (by decide +kernel), rfl, (by decide +kernel), zcw1, (tm1 133 rfl rfl), tyX1_ok, nmX1, zfk_4 1 rfl⟩
theorem zl_1_37 : zLK zTs RX1 37 (0, 1, 7, 0, 0, 0, 0) := ⟨RX1, TX1, 19, tyX1, rfl, (by decide +kernel), rfl, (by decide +kernel), zcw1, (tm1 134 rfl rfl), tyX1_ok, nmX1, zfk_4 1 rfl⟩
theorem zl_1_40 : zLK zTs RX1 40 (0, 1, 8, 0, 0, 0, 0) := ⟨RX1, TX1, 19, tyX1, rfl, (by decide +kernel), rfl, (by decide +kernel), zcw1, (tm1 137 rfl rfl), tyX1_ok, nmX1, zfk_4 1 rfl⟩
theorem zl_1_43 : zLK zTs RX1 43 (0, 1, 9, 0, 0, 0, 0) := ⟨RX1, TX1, 19, tyX1, rfl, (by decide +kernel), rfl, (by decide +kernel), zcw1, (tm1 140 rfl rfl), tyX1_ok, nmX1, zfk_4 1 rfl⟩
theorem zl_1_46 : zLK zTs RX1 46 (0, 1, 10, 0, 0, 0, 0) := ⟨RX1, TX1, 19, tyX1, rfl, (by decide +kernel), rfl, (by decide +kernel), zcw1, (tm1 141 rfl rfl), tyX1_ok, nmX1, zfk_4 1 rfl⟩
theorem zl_1_49 : zLK zTs RX1 49 (0, 1, 11, 0, 0, 0, 0) := ⟨RX1, TX1, 19, tyX1, rfl, (by decide +kernel), rfl, (by decide +kernel), zcw1, (tm1 145 rfl rfl), tyX1_ok, nmX1, zfk_4 1 rfl⟩
theorem zl_1_52 : zLK zTs RX1 52 (0, 1, 12, 0, 0, 0, 0) := ⟨RX1, TX1, 19, tyX1, rfl, (by decide +kernel), rfl, (by decide +kernel), zcw1, (tm1 149 rfl rfl), tyX1_ok, nmX1, zfk_4 1 rfl⟩
theorem zl_1_55 : zLK zTs RX1 55 (0, 6, 3, 0, 0, 0, 0) := ⟨RX6, TX6, 4, tyX6, rfl, (by decide +kernel), rfl, (by decide +kernel), zcw6, (tm1 103 rfl rfl), tyX6_ok, nmX6, zfk_0 rfl rfl rfl⟩
theorem zl_1_59 : zLK zTs RX1 59 (0, 1, 13, 0, 0, 0, 0) := ⟨RX1, TX1, 19, tyX1, rfl, (by decide +kernel), rfl, (by decide +kernel), zcw1, (tm1 150 rfl rfl), tyX1_ok, nmX1, zfk_0 rfl rfl rfl⟩
theorem zl_1_62 : zLK zTs RX1 62 (0, 1, 14, 0, 0, 0, 0) := ⟨RX1, TX1, 19, tyX1, rfl, (by decide +kernel), rfl, (by decide +kernel), zcw1, (tm1 154 rfl rfl), tyX1_ok, nmX1, zfk_0 rfl rfl rfl⟩
theorem zl_1_65 : zLK zTs RX1 65 (0, 1, 15, 0, 0, 0, 0) := ⟨RX1, TX1, 19, tyX1, rfl, (by decide +kernel), rfl, (by decide +kernel), zcw1, (tm1 158 rfl rfl), tyX1_ok, nmX1, zfk_0 rfl rfl rfl⟩
theorem zl_1_68 : zLK zTs RX1 68 (0, 1, 16, 0, 0, 0, 0) := ⟨RX1, TX1, 19, tyX1, rfl, (by decide +kernel), rfl, (by decide +kernel), zcw1, (tm1 162 rfl rfl), tyX1_ok, nmX1, zfk_0 rfl rfl rfl⟩
theorem zl_1_71 : zLK zTs RX1 71 (0, 1, 17, 0, 0, 0, 0) := ⟨RX1, TX1, 19, tyX1, rfl, (by decide +kernel), rfl, (by decide +kernel), zcw1, (tm1 165 rfl rfl), tyX1_ok, nmX1, zfk_0 rfl rfl rfl⟩
theorem zl_1_74 : zLK zTs RX1 74 (0, 1, 18, 0, 0, 0, 0) := ⟨RX1, TX1, 19, tyX1, rfl, (by decide +kernel), rfl, (by decide +kernel), zcw1, (tm1 169 rfl rfl), tyX1_ok, nmX1, zfk_0 rfl rfl rfl⟩
theorem zl_1_77 : zLK zTs RX1 77 (1, 54, 2, 0, 7, 1, 0) := zLK1 zmt_54 (zLMv rfl (tm5 162 rfl rfl) zia_54 zse_54 rfl znp_54 rfl) zmo_54
theorem zl_1_81 : zLK zTs RX1 81 (5, 0, 0, 0, 0, 0, 0) := ⟨(tm5 167 rfl rfl), (tm4 30 rfl rfl), (tm4 29 rfl rfl), (tm1 19 rfl rfl)⟩
theorem zl_1_87 : zLK zTs RX1 87 (1, 7, 2, 3, 2, 0, 0) := zLK1 zmt_7 (zLMv rfl (tm3 118 rfl rfl) zia_7 zse_7 rfl znp_7 rfl) zmo_7
theorem zl_1_91 : zLK zTs RX1 91 (1, 53, 4, 0, 7, 0, 0) := zLK1 zmt_53 (zLMv rfl (tm3 98 rfl rfl) zia_53 zse_53 rfl znp_53 rfl) zmo_53
theorem zl_1_95 : zLK zTs RX1 95 (1, 24, 2, 1, 2, 0, 0) := zLK1 zmt_24 (zLMv rfl (tm4 149 rfl rfl) zia_24 zse_24 rfl znp_24 rfl) zmo_24
theorem zl_1_99 : zLK zTs RX1 99 (1, 25, 2, 1, 2, 1, 0) := zLK1 zmt_25 (zLMv rfl (tm4 159 rfl rfl) zia_25 zse_25 rfl znp_25 rfl) zmo_25
theorem zl_1_102 : zLK zTs RX1 102 (1, 27, 5, 1, 2, 1, 0) := zLK1 zmt_27 (zLMv rfl (tm4 160 rfl rfl) zia_27 zse_27 rfl znp_27 rfl) zmo_27
theorem zl_1_106 : zLK zTs RX1 106 (1, 21, 3, 1, 2, 0, 0) := zLK1 zmt_21 (zLMv rfl (tm4 164 rfl rfl) zia_21 zse_21 rfl znp_21 rfl) zmo_21
theorem zl_1_110 : zLK zTs RX1 110 (1, 18, 3, 1, 2, 0, 0) := zLK1 zmt_18 (zLMv rfl (tm4 165 rfl rfl) zia_18 zse_18 rfl znp_18 rfl) zmo_18
theorem zlks_1 : zLKs RX1 zlk1 := zLKs_cons zl_1_12 (zLKs_cons zl_1_18 (zLKs_cons zl_1_22 (zLKs_cons zl_1_25 (zLKs_cons zl_1_28 (zLKs_cons zl_1_31 (zLKs_cons zl_1_34 (zLKs_cons zl_1_37 (zLKs_cons zl_1_40 (zLKs_cons zl_1_43 (zLKs_cons zl_1_46 (zLKs_cons zl_1_49 (zLKs_cons zl_1_52 (zLKs_cons zl_1_55 (zLKs_cons zl_1_59 (zLKs_cons zl_1_62 (zLKs_cons zl_1_65 (zLKs_cons zl_1_68 (zLKs_cons zl_1_71 (zLKs_cons zl_1_74 (zLKs_cons zl_1_77 (zLKs_cons zl_1_81 (zLKs_cons zl_1_87 (zLKs_cons zl_1_91 (zLKs_cons zl_1_95 (zLKs_cons zl_1_99 (zLKs_cons zl_1_102 (zLKs_cons zl_1_106 (zLKs_cons zl_1_110 (zLKs_nil)))))))))))))))))))))))))))))
theorem zl_2_9 : zLK zTs RX2 9 (0, 2, 0, 0, 0, 0, 0) := ⟨RX2, TX2, 7, tyX2, rfl, (by decide +kernel), rfl, (by decide +kernel), zcw2, (tm1 217 rfl rfl), tyX2_ok, nmX2, zfk_4 0 rfl⟩
theorem zl_2_15 : zLK zTs RX2 15 (0, 2, 1, 0, 0, 0, 0) := ⟨RX2, TX2, 7, tyX2, rfl, (by decide +kernel), rfl, (by decide +kernel), zcw2, (tm1 218 rfl rfl), tyX2_ok, nmX2, zfk_3 rfl rfl _ rfl⟩
theorem zl_2_19 : zLK zTs RX2 19 (1, 4, 1, 0, 2, 0, 0) := zLK1 zmt_4 (zLMv rfl (tm3 56 rfl rfl) zia_4 zse_4 rfl znp_4 rfl) zmo_4
theorem zl_2_24 : zLK zTs RX2 24 (0, 2, 2, 0, 0, 0, 0) := ⟨RX2, TX2, 7, tyX2, rfl, (by decide +kernel), rfl, (by decide +kernel), zcw2, (tm1 219 rfl rfl), tyX2_ok, nmX2, zfk_0 rfl rfl rfl⟩
theorem zl_2_28 : zLK zTs RX2 28 (0, 9, 4, 0, 0, 0, 0) := ⟨RX9, TX9, 11, tyX9, rfl, (by decide +kernel), rfl, (by decide +kernel), zcw9, (tm1 40 rfl rfl), tyX9_ok, nmX9, zfk_0 rfl rfl rfl⟩
theorem zl_2_33 : zLK zTs RX2 33 (1, 29, 1, 3, 3, 5, 0) := zLK1 zmt_29 (zLMv rfl (tm3 60 rfl rfl) zia_29 zse_29 rfl znp_29 rfl) zmo_29
theorem zl_2_37 : zLK zTs RX2 37 (1, 93, 2, 3, 10, 2, 0) := zLK1 zmt_93 (zLMv rfl (tm3 182 rfl rfl) zia_93 zse_93 rfl znp_93 rfl) zmo_93
theorem zl_2_41 : zLK zTs RX2 41 (1, 92, 2, 3, 10, 0, 0) := zLK1 zmt_92 (zLMv rfl (tm3 72 rfl rfl) zia_92 zse_92 rfl znp_92 rfl) zmo_92
theorem zl_2_44 : zLK zTs RX2 44 (0, 9, 6, 0, 0, 0, 0) := ⟨RX9, TX9, 11, tyX9, rfl, (by decide +kernel), rfl, (by decide +kernel), zcw9, (tm1 44 rfl rfl), tyX9_ok, nmX9, zfk_0 rfl rfl rfl⟩
theorem zl_2_47 : zLK zTs RX2 47 (1, 33, 2, 3, 3, 3, 0) := zLK1 zmt_33 (zLMv rfl (tm3 64 rfl rfl) zia_33 zse_33 rfl znp_33 rfl) zmo_33
theorem zl_2_50 : zLK zTs RX2 50 (1, 34, 1, 3, 3, 3, 0) := zLK1 zmt_34 (zLMv rfl (tm3 102 rfl rfl) zia_34 zse_34 rfl znp_34 rfl) zmo_34
theorem zl_2_53 : zLK zTs RX2 53 (1, 35, 1, 3, 3, 2, 0) := zLK1 zmt_35 (zLMv rfl (tm3 122 rfl rfl) zia_35 zse_35 rfl znp_35 rfl) zmo_35
theorem zl_2_56 : zLK zTs RX2 56 (1, 36, 1, 3, 3, 4, 0) := zLK1 zmt_36 (zLMv rfl (tm3 130 rfl rfl) zia_36 zse_36 rfl znp_36 rfl) zmo_36
theorem zl_2_59 : zLK zTs RX2 59 (1, 38, 2, 3, 3, 3, 0) := zLK1 zmt_38 (zLMv rfl (tm3 146 rfl rfl) zia_38 zse_38 rfl znp_38 rfl) zmo_38
theorem zl_2_63 : zLK zTs RX2 63 (1, 39, 1, 3, 3, 4, 0) := zLK1 zmt_39 (zLMv rfl (tm3 162 rfl rfl) zia_39 zse_39 rfl znp_39 rfl) zmo_39
theorem zl_2_66 : zLK zTs RX2 66 (1, 40, 1, 3, 3, 3, 0) := zLK1 zmt_40 (zLMv rfl (tm3 170 rfl rfl) zia_40 zse_40 rfl znp_40 rfl) zmo_40
theorem zl_2_69 : zLK zTs RX2 69 (1, 89, 1, 0, 10, 1, 0) := zLK1 zmt_89 (zLMv rfl (tm3 76 rfl rfl) zia_89 zse_89 rfl znp_89 rfl) zmo_89
theorem zl_2_72 : zLK zTs RX2 72 (0, 1, 0, 0, 0, 0, 0) := ⟨RX1, TX1, 19, tyX1, rfl, (by decide +kernel), rfl, (by decide +kernel), zcw1, (tm1 115 rfl rfl), tyX1_ok, nmX1, zfk_4 0 rfl⟩
theorem zl_2_76 : zLK zTs RX2 76 (1, 95, 2, 3, 10, 1, 0) := zLK1 zmt_95 (zLMv rfl (tm3 81 rfl rfl) zia_95 zse_95 rfl znp_95 rfl) zmo_95
theorem zl_2_80 : zLK zTs RX2 80 (0, 9, 8, 0, 0, 0, 0) := ⟨RX9, TX9, 11, tyX9, rfl, (by decide +kernel), rfl, (by decide +kernel), zcw9, (tm1 53 rfl rfl), tyX9_ok, nmX9, zfk_1 rfl rfl rfl⟩
theorem zl_2_84 : zLK zTs RX2 84 (0, 2, 3, 0, 0, 0, 0) := ⟨RX2, TX2, 7, tyX2, rfl, (by decide +kernel), rfl, (by decide +kernel), zcw2, (tm1 221 rfl rfl), tyX2_ok, nmX2, zfk_1 rfl rfl rfl⟩
theorem zl_2_87 : zLK zTs RX2 87 (1, 31, 1, 3, 3, 2, 0) := zLK1 zmt_31 (zLMv rfl (tm3 77 rfl rfl) zia_31 zse_31 rfl znp_31 rfl) zmo_31
theorem zl_2_90 : zLK zTs RX2 90 (1, 96, 3, 1, 10, 1, 0) := zLK1 zmt_96 (zLMv rfl (tm3 110 rfl rfl) zia_96 zse_96 rfl znp_96 rfl) zmo_96
theorem zl_2_94 : zLK zTs RX2 94 (0, 2, 4, 0, 0, 0, 0) := ⟨RX2, TX2, 7, tyX2, rfl, (by decide +kernel), rfl, (by decide +kernel), zcw2, (tm1 222 rfl rfl), tyX2_ok, nmX2, zfk_0 rfl rfl rfl⟩
theorem zl_2_97 : zLK zTs RX2 97 (0, 1, 2, 0, 0, 0, 0) := ⟨RX1, TX1, 19, tyX1, rfl, (by decide +kernel), rfl, (by decide +kernel), zcw1, (tm1 121 rfl rfl), tyX1_ok, nmX1, zfk_4 1 rfl⟩
theorem zl_2_101 : zLK zTs RX2 101 (1, 97, 3, 3, 10, 1, 0) := zLK1 zmt_97 (zLMv rfl (tm3 106 rfl rfl) zia_97 zse_97 rfl znp_97 rfl) zmo_97
theorem zl_2_105 : zLK zTs RX2 105 (0, 1, 13, 0, 0, 0, 0) := ⟨RX1, TX1, 19, tyX1, rfl, (by decide +kernel), rfl, (by decide +kernel), zcw1, (tm1 151 rfl rfl), tyX1_ok, nmX1, zfk_0 rfl rfl rfl⟩
theorem zl_2_108 : zLK zTs RX2 108 (1, 30, 3, 3, 3, 2, 0) := zLK1 zmt_30 (zLMv rfl (tm3 68 rfl rfl) zia_30 zse_30 rfl znp_30 rfl) zmo_30
theorem zl_2_111 : zLK zTs RX2 111 (1, 11, 3, 0, 2, 1, 0) := zLK1 zmt_11 (zLMv rfl (tm3 94 rfl rfl) zia_11 zse_11 rfl znp_11 rfl) zmo_11
theorem zl_2_115 : zLK zTs RX2 115 (0, 1, 14, 0, 0, 0, 0) := ⟨RX1, TX1, 19, tyX1, rfl, (by decide +kernel), rfl, (by decide +kernel), zcw1, (tm1 155 rfl rfl), tyX1_ok, nmX1, zfk_0 rfl rfl rfl⟩
theorem zl_2_118 : zLK zTs RX2 118 (0, 9, 7, 0, 0, 0, 0) := ⟨RX9, TX9, 11, tyX9, rfl, (by decide +kernel), rfl, (by decide +kernel), zcw9, (tm1 50 rfl rfl), tyX9_ok, nmX9, zfk_0 rfl rfl rfl⟩
theorem zl_2_121 : zLK zTs RX2 121 (0, 1, 5, 0, 0, 0, 0) := ⟨RX1, TX1, 19, tyX1, rfl, (by decide +kernel), rfl, (by decide +kernel), zcw1, (tm1 132 rfl rfl), tyX1_ok, nmX1, zfk_4 1 rfl⟩
theorem zl_2_124 : zLK zTs RX2 124 (1, 12, 4, 0, 2, 1, 0) := zLK1 zmt_12 (zLMv rfl (tm3 114 rfl rfl) zia_12 zse_12 rfl znp_12 rfl) zmo_12
theorem zl_2_128 : zLK zTs RX2 128 (0, 1, 4, 0, 0, 0, 0) := ⟨RX1, TX1, 19, tyX1, rfl, (by decide +kernel), rfl, (by decide +kernel), zcw1, (tm1 129 rfl rfl), tyX1_ok, nmX1, zfk_4 1 rfl⟩
theorem zl_2_131 : zLK zTs RX2 131 (1, 13, 3, 0, 2, 0, 0) := zLK1 zmt_13 (zLMv rfl (tm3 126 rfl rfl) zia_13 zse_13 rfl znp_13 rfl) zmo_13
theorem zl_2_135 : zLK zTs RX2 135 (0, 1, 15, 0, 0, 0, 0) := ⟨RX1, TX1, 19, tyX1, rfl, (by decide +kernel), rfl, (by decide +kernel), zcw1, (tm1 160 rfl rfl), tyX1_ok, nmX1, zfk_0 rfl rfl rfl⟩
theorem zl_2_138 : zLK zTs RX2 138 (1, 32, 1, 3, 3, 3, 0) := zLK1 zmt_32 (zLMv rfl (tm3 134 rfl rfl) zia_32 zse_32 rfl znp_32 rfl) zmo_32
theorem zl_2_141 : zLK zTs RX2 141 (1, 21, 3, 1, 2, 0, 0) := zLK1 zmt_21 (zLMv rfl (tm3 138 rfl rfl) zia_21 zse_21 rfl znp_21 rfl) zmo_21
theorem zl_2_145 : zLK zTs RX2 145 (1, 14, 4, 0, 2, 1, 0) := zLK1 zmt_14 (zLMv rfl (tm3 142 rfl rfl) zia_14 zse_14 rfl znp_14 rfl) zmo_14
theorem zl_2_148 : zLK zTs RX2 148 (0, 2, 5, 0, 0, 0, 0) := ⟨RX2, TX2, 7, tyX2, rfl, (by decide +kernel), rfl, (by decide +kernel), zcw2, (tm1 223 rfl rfl), tyX2_ok, nmX2, zfk_0 rfl rfl rfl⟩
theorem zl_2_151 : zLK zTs RX2 151 (0, 2, 6, 0, 0, 0, 0) := ⟨RX2, TX2, 7, tyX2, rfl, (by decide +kernel), rfl, (by decide +kernel), zcw2, (tm1 224 rfl rfl), tyX2_ok, nmX2, zfk_0 rfl rfl rfl⟩
theorem zl_2_154 : zLK zTs RX2 154 (0, 1, 16, 0, 0, 0, 0) := ⟨RX1, TX1, 19, tyX1, rfl, (by decide +kernel), rfl, (by decide +kernel), zcw1, (tm1 163 rfl rfl), tyX1_ok, nmX1, zfk_0 rfl rfl rfl⟩
theorem zl_2_157 : zLK zTs RX2 157 (1, 37, 2, 3, 3, 2, 0) := zLK1 zmt_37 (zLMv rfl (tm3 150 rfl rfl) zia_37 zse_37 rfl znp_37 rfl) zmo_37
theorem zl_2_160 : zLK zTs RX2 160 (1, 18, 3, 1, 2, 0, 0) := zLK1 zmt_18 (zLMv rfl (tm3 154 rfl rfl) zia_18 zse_18 rfl znp_18 rfl) zmo_18
theorem zl_2_163 : zLK zTs RX2 163 (1, 15, 4, 0, 2, 0, 0) := zLK1 zmt_15 (zLMv rfl (tm3 158 rfl rfl) zia_15 zse_15 rfl znp_15 rfl) zmo_15
theorem zl_2_167 : zLK zTs RX2 167 (0, 1, 17, 0, 0, 0, 0) := ⟨RX1, TX1, 19, tyX1, rfl, (by decide +kernel), rfl, (by decide +kernel), zcw1, (tm1 166 rfl rfl), tyX1_ok, nmX1, zfk_0 rfl rfl rfl⟩
theorem zl_2_170 : zLK zTs RX2 170 (1, 16, 4, 0, 2, 1, 0) := zLK1 zmt_16 (zLMv rfl (tm3 166 rfl rfl) zia_16 zse_16 rfl znp_16 rfl) zmo_16
theorem zl_2_173 : zLK zTs RX2 173 (0, 1, 18, 0, 0, 0, 0) := ⟨RX1, TX1, 19, tyX1, rfl, (by decide +kernel), rfl, (by decide +kernel), zcw1, (tm1 170 rfl rfl), tyX1_ok, nmX1, zfk_0 rfl rfl rfl⟩
theorem zl_2_176 : zLK zTs RX2 176 (1, 19, 3, 3, 2, 0, 0) := zLK1 zmt_19 (zLMv rfl (tm3 174 rfl rfl) zia_19 zse_19 rfl znp_19 rfl) zmo_19
theorem zl_2_179 : zLK zTs RX2 179 (1, 17, 3, 0, 2, 0, 0) := zLK1 zmt_17 (zLMv rfl (tm3 178 rfl rfl) zia_17 zse_17 rfl znp_17 rfl) zmo_17
theorem zlks_2 : zLKs RX2 zlk2 := zLKs_cons zl_2_9 (zLKs_cons zl_2_15 (zLKs_cons zl_2_19 (zLKs_cons zl_2_24 (zLKs_cons zl_2_28 (zLKs_cons zl_2_33 (zLKs_cons zl_2_37 (zLKs_cons zl_2_41 (zLKs_cons zl_2_44 (zLKs_cons zl_2_47 (zLKs_cons zl_2_50 (zLKs_cons zl_2_53 (zLKs_cons zl_2_56 (zLKs_cons zl_2_59 (zLKs_cons zl_2_63 (zLKs_cons zl_2_66 (zLKs_cons zl_2_69 (zLKs_cons zl_2_72 (zLKs_cons zl_2_76 (zLKs_cons zl_2_80 (zLKs_cons zl_2_84 (zLKs_cons zl_2_87 (zLKs_cons zl_2_90 (zLKs_cons zl_2_94 (zLKs_cons zl_2_97 (zLKs_cons zl_2_101 (zLKs_cons zl_2_105 (zLKs_cons zl_2_108 (zLKs_cons zl_2_111 (zLKs_cons zl_2_115 (zLKs_cons zl_2_118 (zLKs_cons zl_2_121 (zLKs_cons zl_2_124 (zLKs_cons zl_2_128 (zLKs_cons zl_2_131 (zLKs_cons zl_2_135 (zLKs_cons zl_2_138 (zLKs_cons zl_2_141 (zLKs_cons zl_2_145 (zLKs_cons zl_2_148 (zLKs_cons zl_2_151 (zLKs_cons zl_2_154 (zLKs_cons zl_2_157 (zLKs_cons zl_2_160 (zLKs_cons zl_2_163 (zLKs_cons zl_2_167 (zLKs_cons zl_2_170 (zLKs_cons zl_2_173 (zLKs_cons zl_2_176 (zLKs_cons zl_2_179 (zLKs_nil))))))))))))))))))))))))))))))))))))))))))))))))))
theorem zl_3_9 : zLK zTs RX3 9 (0, 3, 0, 0, 0, 0, 0) := ⟨RX3, TX3, 9, tyX3, rfl, (by decide +kernel), rfl, (by decide +kernel), zcw3, (tm2 127 rfl rfl), tyX3_ok, nmX3, zfk_4 1 rfl⟩
theorem zl_3_15 : zLK zTs RX3 15 (0, 3, 1, 0, 0, 0, 0) := ⟨RX3, TX3, 9, tyX3, rfl, (by decide +kernel), rfl, (by decide +kernel), zcw3, (tm2 128 rfl rfl), tyX3_ok, nmX3, zfk_4 1 rfl⟩
theorem zl_3_18 : zLK zTs RX3 18 (0, 3, 2, 0, 0, 0, 0) := ⟨RX3, TX3, 9, tyX3, rfl, (by decide +kernel), rfl, (by decide +kernel), zcw3, (tm2 129 rfl rfl), tyX3_ok, nmX3, zfk_4 1 rfl⟩
theorem zl_3_21 : zLK zTs RX3 21 (0, 3, 3, 0, 0, 0, 0) := ⟨RX3, TX3, 9, tyX3, rfl, (by decide +kernel), rfl, (by decide +kernel), zcw3, (tm2 130 rfl rfl), tyX3_ok, nmX3, zfk_0 rfl rfl rfl⟩
theorem zl_3_25 : zLK zTs RX3 25 (0, 9, 4, 0, 0, 0, 0) := ⟨RX9, TX9, 11, tyX9, rfl, (by decide +kernel), rfl, (by decide +kernel), zcw9, (tm1 39 rfl rfl), tyX9_ok, nmX9, zfk_0 rfl rfl rfl⟩
theorem zl_3_30 : zLK zTs RX3 30 (1, 42, 3, 3, 4, 4, 0) := zLK1 zmt_42 (zLMv rfl (tm5 51 rfl rfl) zia_42 zse_42 rfl znp_42 rfl) zmo_42
theorem zl_3_34 : zLK zTs RX3 34 (1, 93, 2, 3, 10, 2, 0) := zLK1 zmt_93 (zLMv rfl (tm5 77 rfl rfl) zia_93 zse_93 rfl znp_93 rfl) zmo_93
theorem zl_3_38 : zLK zTs RX3 38 (1, 92, 2, 3, 10, 0, 0) := zLK1 zmt_92 (zLMv rfl (tm5 56 rfl rfl) zia_92 zse_92 rfl znp_92 rfl) zmo_92
theorem zl_3_41 : zLK zTs RX3 41 (0, 9, 6, 0, 0, 0, 0) := ⟨RX9, TX9, 11, tyX9, rfl, (by decide +kernel), rfl, (by decide +kernel), zcw9, (tm1 45 rfl rfl), tyX9_ok, nmX9, zfk_0 rfl rfl rfl⟩
theorem zl_3_44 : zLK zTs RX3 44 (1, 94, 1, 3, 10, 0, 0) := zLK1 zmt_94 (zLMv rfl (tm5 55 rfl rfl) zia_94 zse_94 rfl znp_94 rfl) zmo_94
theorem zl_3_48 : zLK zTs RX3 48 (0, 9, 8, 0, 0, 0, 0) := ⟨RX9, TX9, 11, tyX9, rfl, (by decide +kernel), rfl, (by decide +kernel), zcw9, (tm1 52 rfl rfl), tyX9_ok, nmX9, zfk_1 rfl rfl rfl⟩
theorem zl_3_52 : zLK zTs RX3 52 (1, 52, 2, 1, 7, 0, 0) := zLK1 zmt_52 (zLMv rfl (tm5 57 rfl rfl) zia_52 zse_52 rfl znp_52 rfl) zmo_52
theorem zl_3_58 : zLK zTs RX3 58 (0, 6, 1, 0, 0, 0, 0) := ⟨RX6, TX6, 4, tyX6, rfl, (by decide +kernel), rfl, (by decide +kernel), zcw6, (tm1 97 rfl rfl), tyX6_ok, nmX6, zfk_4 1 rfl⟩
theorem zl_3_61 : zLK zTs RX3 61 (0, 6, 2, 0, 0, 0, 0) := ⟨RX6, TX6, 4, tyX6, rfl, (by decide +kernel), rfl, (by decide +kernel), zcw6, (tm1 100 rfl rfl), tyX6_ok, nmX6, zfk_4 1 rfl⟩
theorem zl_3_64 : zLK zTs RX3 64 (1, 89, 1, 0, 10, 1, 0) := zLK1 zmt_89 (zLMv rfl (tm5 58 rfl rfl) zia_89 zse_89 rfl znp_89 rfl) zmo_89
theorem zl_3_67 : zLK zTs RX3 67 (1, 43, 2, 3, 4, 3, 0) := zLK1 zmt_43 (zLMv rfl (tm5 59 rfl rfl) zia_43 zse_43 rfl znp_43 rfl) zmo_43
theorem zl_3_71 : zLK zTs RX3 71 (1, 44, 4, 3, 4, 3, 0) := zLK1 zmt_44 (zLMv rfl (tm5 68 rfl rfl) zia_44 zse_44 rfl znp_44 rfl) zmo_44
theorem zl_3_75 : zLK zTs RX3 75 (1, 45, 3, 3, 4, 3, 0) := zLK1 zmt_45 (zLMv rfl (tm5 73 rfl rfl) zia_45 zse_45 rfl znp_45 rfl) zmo_45
theorem zl_3_79 : zLK zTs RX3 79 (1, 97, 3, 3, 10, 1, 0) := zLK1 zmt_97 (zLMv rfl (tm5 63 rfl rfl) zia_97 zse_97 rfl znp_97 rfl) zmo_97
theorem zl_3_83 : zLK zTs RX3 83 (0, 9, 7, 0, 0, 0, 0) := ⟨RX9, TX9, 11, tyX9, rfl, (by decide +kernel), rfl, (by decide +kernel), zcw9, (tm1 48 rfl rfl), tyX9_ok, nmX9, zfk_0 rfl rfl rfl⟩
theorem zl_3_86 : zLK zTs RX3 86 (1, 46, 5, 3, 4, 2, 0) := zLK1 zmt_46 (zLMv rfl (tm5 64 rfl rfl) zia_46 zse_46 rfl znp_46 rfl) zmo_46
theorem zl_3_90 : zLK zTs RX3 90 (1, 96, 3, 1, 10, 1, 0) := zLK1 zmt_96 (zLMv rfl (tm5 72 rfl rfl) zia_96 zse_96 rfl znp_96 rfl) zmo_96
theorem zl_3_94 : zLK zTs RX3 94 (0, 8, 14, 0, 0, 0, 0) := ⟨RX8, TX8, 16, tyX8, rfl, (by decide +kernel), rfl, (by decide +kernel), zcw8, (tm2 44 rfl rfl), tyX8_ok, nmX8, zfk_0 rfl rfl rfl⟩
theorem zl_3_99 : zLK zTs RX3 99 (0, 3, 5, 0, 0, 0, 0) := ⟨RX3, TX3, 9, tyX3, rfl, (by decide +kernel), rfl, (by decide +kernel), zcw3, (tm2 132 rfl rfl), tyX3_ok, nmX3, zfk_0 rfl rfl rfl⟩
theorem zl_3_102 : zLK zTs RX3 102 (0, 3, 6, 0, 0, 0, 0) := ⟨RX3, TX3, 9, tyX3, rfl, (by decide +kernel), rfl, (by decide +kernel), zcw3, (tm2 133 rfl rfl), tyX3_ok, nmX3, zfk_0 rfl rfl rfl⟩
theorem zl_3_105 : zLK zTs RX3 105 (1, 48, 4, 1, 4, 5, 0) := zLK1 zmt_48 (zLMv rfl (tm5 82 rfl rfl) zia_48 zse_48 rfl znp_48 rfl) zmo_48
theorem zl_3_109 : zLK zTs RX3 109 (0, 8, 12, 0, 0, 0, 0) := ⟨RX8, TX8, 16, tyX8, rfl, (by decide +kernel), rfl, (by decide +kernel), zcw8, (tm2 40 rfl rfl), tyX8_ok, nmX8, zfk_0 rfl rfl rfl⟩
theorem zl_3_112 : zLK zTs RX3 112 (0, 3, 7, 0, 0, 0, 0) := ⟨RX3, TX3, 9, tyX3, rfl, (by decide +kernel), rfl, (by decide +kernel), zcw3, (tm2 135 rfl rfl), tyX3_ok, nmX3, zfk_0 rfl rfl rfl⟩
theorem zl_3_115 : zLK zTs RX3 115 (0, 3, 8, 0, 0, 0, 0) := ⟨RX3, TX3, 9, tyX3, rfl, (by decide +kernel), rfl, (by decide +kernel), zcw3, (tm2 136 rfl rfl), tyX3_ok, nmX3, zfk_0 rfl rfl rfl⟩
theorem zl_3_118 : zLK zTs RX3 118 (0, 3, 4, 0, 0, 0, 0) := ⟨RX3, TX3, 9, tyX3, rfl, (by decide +kernel), rfl, (by decide +kernel), zcw3, (tm2 131 rfl rfl), tyX3_ok, nmX3, zfk_2 rfl rfl rfl⟩
theorem zl_3_122 : zLK zTs RX3 122 (1, 70, 1, 1, 9, 0, 0) := zLK1 zmt_70 (zLMv rfl (tm5 86 rfl rfl) zia_70 zse_70 rfl znp_70 rfl) zmo_70
theorem zl_3_126 : zLK zTs RX3 126 (1, 78, 3, 0, 9, 4, 0) := zLK1 zmt_78 (zLMv rfl (tm5 87 rfl rfl) zia_78 zse_78 rfl znp_78 rfl) zmo_78
theorem zl_3_130 : zLK zTs RX3 130 (0, 8, 4, 0, 0, 0, 0) := ⟨RX8, TX8, 16, tyX8, rfl, (by decide +kernel), rfl, (by decide +kernel), zcw8, (tm2 20 rfl rfl), tyX8_ok, nmX8, zfk_4 1 rfl⟩
theorem zl_3_133 : zLK zTs RX3 133 (1, 71, 2, 3, 9, 0, 0) := zLK1 zmt_71 (zLMv rfl (tm5 88 rfl rfl) zia_71 zse_71 rfl znp_71 rfl) zmo_71
theorem zl_3_136 : zLK zTs RX3 136 (1, 72, 2, 0, 9, 0, 0) := zLK1 zmt_72 (zLMv rfl (tm5 89 rfl rfl) zia_72 zse_72 rfl znp_72 rfl) zmo_72
theorem zlks_3 : zLKs RX3 zlk3 := zLKs_cons zl_3_9 (zLKs_cons zl_3_15 (zLKs_cons zl_3_18 (zLKs_cons zl_3_21 (zLKs_cons zl_3_25 (zLKs_cons zl_3_30 (zLKs_cons zl_3_34 (zLKs_cons zl_3_38 (zLKs_cons zl_3_41 (zLKs_cons zl_3_44 (zLKs_cons zl_3_48 (zLKs_cons zl_3_52 (zLKs_cons zl_3_58 (zLKs_cons zl_3_61 (zLKs_cons zl_3_64 (zLKs_cons zl_3_67 (zLKs_cons zl_3_71 (zLKs_cons zl_3_75 (zLKs_cons zl_3_79 (zLKs_cons zl_3_83 (zLKs_cons zl_3_86 (zLKs_cons zl_3_90 (zLKs_cons zl_3_94 (zLKs_cons zl_3_99 (zLKs_cons zl_3_102 (zLKs_cons zl_3_105 (zLKs_cons zl_3_109 (zLKs_cons zl_3_112 (zLKs_cons zl_3_115 (zLKs_cons zl_3_118 (zLKs_cons zl_3_122 (zLKs_cons zl_3_126 (zLKs_cons zl_3_130 (zLKs_cons zl_3_133 (zLKs_cons zl_3_136 (zLKs_nil)))))))))))))))))))))))))))))))))))
theorem zl_4_7 : zLK zTs RX4 7 (0, 4, 0, 0, 0, 0, 0) := ⟨RX4, TX4, 2, tyX4, rfl, (by decide +kernel), rfl, (by decide +kernel), zcw4, (tm2 191 rfl rfl), tyX4_ok, nmX4, zfk_0 rfl rfl rfl⟩
theorem zl_4_13 : zLK zTs RX4 13 (0, 4, 1, 0, 0, 0, 0) := ⟨RX4, TX4, 2, tyX4, rfl, (by decide +kernel), rfl, (by decide +kernel), zcw4, (tm2 192 rfl rfl), tyX4_ok, nmX4, zfk_0 rfl rfl rfl⟩
theorem zl_4_16 : zLK zTs RX4 16 (3, 0, 0, 0, 0, 0, 1103515245) := ⟨⟨by decide, by decide⟩, (tm5 29 rfl rfl)⟩
theorem zlks_4 : zLKs RX4 zlk4 := zLKs_cons zl_4_7 (zLKs_cons zl_4_13 (zLKs_cons zl_4_16 (zLKs_nil)))
theorem zlks_5 : zLKs RX5 zlk5 := zLKs_nil
theorem zl_6_9 : zLK zTs RX6 9 (0, 6, 0, 0, 0, 0, 0) := ⟨RX6, TX6, 4, tyX6, rfl, (by decide +kernel), rfl, (by decide +kernel), zcw6, (tm1 95 rfl rfl), tyX6_ok, nmX6, zfk_4 1 rfl⟩
theorem zl_6_15 : zLK zTs RX6 15 (0, 6, 1, 0, 0, 0, 0) := ⟨RX6, TX6, 4, tyX6, rfl, (by decide +kernel), rfl, (by decide +kernel), zcw6, (tm1 96 rfl rfl), tyX6_ok, nmX6, zfk_4 1 rfl⟩
theorem zl_6_19 : zLK zTs RX6 19 (0, 6, 2, 0, 0, 0, 0) := ⟨RX6, TX6, 4, tyX6, rfl, (by decide +kernel), rfl, (by decide +kernel), zcw6, (tm1 99 rfl rfl), tyX6_ok, nmX6, zfk_4 1 rfl⟩
theorem zl_6_22 : zLK zTs RX6 22 (0, 6, 3, 0, 0, 0, 0) := ⟨RX6, TX6, 4, tyX6, rfl, (by decide +kernel), rfl, (by decide +kernel), zcw6, (tm1 102 rfl rfl), tyX6_ok, nmX6, zfk_0 rfl rfl rfl⟩
theorem zl_6_26 : zLK zTs RX6 26 (5, 0, 0, 0, 0, 0, 0) := ⟨(tm5 166 rfl rfl), (tm4 30 rfl rfl), (tm4 29 rfl rfl), (tm1 19 rfl rfl)⟩
theorem zlks_6 : zLKs RX6 zlk6 := zLKs_cons zl_6_9 (zLKs_cons zl_6_15 (zLKs_cons zl_6_19 (zLKs_cons zl_6_22 (zLKs_cons zl_6_26 (zLKs_nil)))))
theorem zl_7_9 : zLK zTs RX7 9 (0, 7, 0, 0, 0, 0, 0) := ⟨RX7, TX7, 5, tyX7, rfl, (by decide +kernel), rfl, (by decide +kernel), zcw7, (tm2 104 rfl rfl), tyX7_ok, nmX7, zfk_4 1 rfl⟩
theorem zl_7_15 : zLK zTs RX7 15 (0, 7, 1, 0, 0, 0, 0) := ⟨RX7, TX7, 5, tyX7, rfl, (by decide +kernel), rfl, (by decide +kernel), zcw7, (tm2 105 rfl rfl), tyX7_ok, nmX7, zfk_4 1 rfl⟩
theorem zl_7_18 : zLK zTs RX7 18 (0, 7, 2, 0, 0, 0, 0) := ⟨RX7, TX7, 5, tyX7, rfl, (by decide +kernel), rfl, (by decide +kernel), zcw7, (tm2 106 rfl rfl), tyX7_ok, nmX7, zfk_4 1 rfl⟩
theorem zl_7_21 : zLK zTs RX7 21 (0, 7, 3, 0, 0, 0, 0) := ⟨RX7, TX7, 5, tyX7, rfl, (by decide +kernel), rfl, (by decide +kernel), zcw7, (tm2 107 rfl rfl), tyX7_ok, nmX7, zfk_0 rfl rfl rfl⟩
theorem zl_7_25 : zLK zTs RX7 25 (0, 7, 4, 0, 0, 0, 0) := ⟨RX7, TX7, 5, tyX7, rfl, (by decide +kernel), rfl, (by decide +kernel), zcw7, (tm2 108 rfl rfl), tyX7_ok, nmX7, zfk_0 rfl rfl rfl⟩
theorem zl_7_28 : zLK zTs RX7 28 (5, 0, 0, 0, 0, 0, 0) := ⟨(tm5 172 rfl rfl), (tm4 30 rfl rfl), (tm4 29 rfl rfl), (tm1 19 rfl rfl)⟩
theorem zl_7_34 : zLK zTs RX7 34 (1, 55, 1, 0, 8, 0, 0) := zLK1 zmt_55 (zLMv rfl (tm5 106 rfl rfl) zia_55 zse_55 rfl znp_55 rfl) zmo_55
theorem zl_7_37 : zLK zTs RX7 37 (7, 58, 4, 3, 8, 6, 0) := zLK7 zmt_58 (zLMv rfl (tm5 107 rfl rfl) zia_58 zse_58 rfl znp_58 rfl) zmo_58
theorem zl_7_41 : zLK zTs RX7 41 (0, 9, 4, 0, 0, 0, 0) := ⟨RX9, TX9, 11, tyX9, rfl, (by decide +kernel), rfl, (by decide +kernel), zcw9, (tm1 41 rfl rfl), tyX9_ok, nmX9, zfk_0 rfl rfl rfl⟩
theorem zl_7_46 : zLK zTs RX7 46 (1, 92, 2, 3, 10, 0, 0) := zLK1 zmt_92 (zLMv rfl (tm5 122 rfl rfl) zia_92 zse_92 rfl znp_92 rfl) zmo_92
theorem zl_7_50 : zLK zTs RX7 50 (7, 59, 4, 3, 8, 5, 0) := zLK7 zmt_59 (zLMv rfl (tm5 111 rfl rfl) zia_59 zse_59 rfl znp_59 rfl) zmo_59
theorem zl_7_53 : zLK zTs RX7 53 (0, 9, 6, 0, 0, 0, 0) := ⟨RX9, TX9, 11, tyX9, rfl, (by decide +kernel), rfl, (by decide +kernel), zcw9, (tm1 46 rfl rfl), tyX9_ok, nmX9, zfk_0 rfl rfl rfl⟩
theorem zl_7_56 : zLK zTs RX7 56 (1, 89, 1, 0, 10, 1, 0) := zLK1 zmt_89 (zLMv rfl (tm5 123 rfl rfl) zia_89 zse_89 rfl znp_89 rfl) zmo_89
theorem zl_7_59 : zLK zTs RX7 59 (1, 64, 4, 3, 8, 0, 0) := zLK1 zmt_64 (zLMv rfl (tm5 125 rfl rfl) zia_64 zse_64 rfl znp_64 rfl) zmo_64
theorem zl_7_63 : zLK zTs RX7 63 (7, 60, 4, 3, 8, 4, 0) := zLK7 zmt_60 (zLMv rfl (tm5 115 rfl rfl) zia_60 zse_60 rfl znp_60 rfl) zmo_60
theorem zl_7_66 : zLK zTs RX7 66 (1, 61, 1, 3, 0, 0, 0) := zLK1 zmt_61 (zLMs rfl (tm5 119 rfl rfl) zst_61 znp_61) zmo_61
theorem zl_7_69 : zLK zTs RX7 69 (1, 93, 2, 3, 10, 2, 0) := zLK1 zmt_93 (zLMv rfl (tm5 124 rfl rfl) zia_93 zse_93 rfl znp_93 rfl) zmo_93
theorem zl_7_72 : zLK zTs RX7 72 (1, 96, 3, 1, 10, 1, 0) := zLK1 zmt_96 (zLMv rfl (tm5 129 rfl rfl) zia_96 zse_96 rfl znp_96 rfl) zmo_96
theorem zl_7_76 : zLK zTs RX7 76 (1, 62, 4, 3, 8, 2, 0) := zLK1 zmt_62 (zLMv rfl (tm5 130 rfl rfl) zia_62 zse_62 rfl znp_62 rfl) zmo_62
theorem zl_7_80 : zLK zTs RX7 80 (1, 63, 3, 3, 8, 2, 0) := zLK1 zmt_63 (zLMv rfl (tm5 134 rfl rfl) zia_63 zse_63 rfl znp_63 rfl) zmo_63
theorem zl_7_84 : zLK zTs RX7 84 (0, 9, 7, 0, 0, 0, 0) := ⟨RX9, TX9, 11, tyX9, rfl, (by decide +kernel), rfl, (by decide +kernel), zcw9, (tm1 51 rfl rfl), tyX9_ok, nmX9, zfk_0 rfl rfl rfl⟩
theorem zl_7_87 : zLK zTs RX7 87 (1, 66, 5, 3, 8, 1, 0) := zLK1 zmt_66 (zLMv rfl (tm5 146 rfl rfl) zia_66 zse_66 rfl znp_66 rfl) zmo_66
theorem zl_7_91 : zLK zTs RX7 91 (0, 8, 4, 0, 0, 0, 0) := ⟨RX8, TX8, 16, tyX8, rfl, (by decide +kernel), rfl, (by decide +kernel), zcw8, (tm2 22 rfl rfl), tyX8_ok, nmX8, zfk_4 1 rfl⟩
theorem zl_7_96 : zLK zTs RX7 96 (0, 1, 10, 0, 0, 0, 0) := ⟨RX1, TX1, 19, tyX1, rfl, (by decide +kernel), rfl, (by decide +kernel), zcw1, (tm1 143 rfl rfl), tyX1_ok, nmX1, zfk_4 1 rfl⟩
theorem zl_7_101 : zLK zTs RX7 101 (0, 8, 9, 0, 0, 0, 0) := ⟨RX8, TX8, 16, tyX8, rfl, (by decide +kernel), rfl, (by decide +kernel), zcw8, (tm2 33 rfl rfl), tyX8_ok, nmX8, zfk_4 1 rfl⟩
theorem zl_7_104 : zLK zTs RX7 104 (0, 1, 11, 0, 0, 0, 0) := ⟨RX1, TX1, 19, tyX1, rfl, (by decide +kernel), rfl, (by decide +kernel), zcw1, (tm1 147 rfl rfl), tyX1_ok, nmX1, zfk_4 1 rfl⟩
theorem zl_7_107 : zLK zTs RX7 107 (1, 67, 3, 3, 8, 0, 0) := zLK1 zmt_67 (zLMv rfl (tm5 150 rfl rfl) zia_67 zse_67 rfl znp_67 rfl) zmo_67
theorem zl_7_111 : zLK zTs RX7 111 (0, 8, 5, 0, 0, 0, 0) := ⟨RX8, TX8, 16, tyX8, rfl, (by decide +kernel), rfl, (by decide +kernel), zcw8, (tm2 25 rfl rfl), tyX8_ok, nmX8, zfk_4 1 rfl⟩
theorem zl_7_114 : zLK zTs RX7 114 (0, 8, 6, 0, 0, 0, 0) := ⟨RX8, TX8, 16, tyX8, rfl, (by decide +kernel), rfl, (by decide +kernel), zcw8, (tm2 28 rfl rfl), tyX8_ok, nmX8, zfk_4 1 rfl⟩
theorem zlks_7 : zLKs RX7 zlk7 := zLKs_cons zl_7_9 (zLKs_cons zl_7_15 (zLKs_cons zl_7_18 (zLKs_cons zl_7_21 (zLKs_cons zl_7_25 (zLKs_cons zl_7_28 (zLKs_cons zl_7_34 (zLKs_cons zl_7_37 (zLKs_cons zl_7_41 (zLKs_cons zl_7_46 (zLKs_cons zl_7_50 (zLKs_cons zl_7_53 (zLKs_cons zl_7_56 (zLKs_cons zl_7_59 (zLKs_cons zl_7_63 (zLKs_cons zl_7_66 (zLKs_cons zl_7_69 (zLKs_cons zl_7_72 (zLKs_cons zl_7_76 (zLKs_cons zl_7_80 (zLKs_cons zl_7_84 (zLKs_cons zl_7_87 (zLKs_cons zl_7_91 (zLKs_cons zl_7_96 (zLKs_cons zl_7_101 (zLKs_cons zl_7_104 (zLKs_cons zl_7_107 (zLKs_cons zl_7_111 (zLKs_cons zl_7_114 (zLKs_nil)))))))))))))))))))))))))))))
theorem zl_8_9 : zLK zTs RX8 9 (0, 8, 0, 0, 0, 0, 0) := ⟨RX8, TX8, 16, tyX8, rfl, (by decide +kernel), rfl, (by decide +kernel), zcw8, (tm2 13 rfl rfl), tyX8_ok, nmX8, zfk_4 1 rfl⟩
theorem zl_8_15 : zLK zTs RX8 15 (0, 8, 1, 0, 0, 0, 0) := ⟨RX8, TX8, 16, tyX8, rfl, (by decide +kernel), rfl, (by decide +kernel), zcw8, (tm2 14 rfl rfl), tyX8_ok, nmX8, zfk_4 1 rfl⟩
theorem zl_8_18 : zLK zTs RX8 18 (0, 8, 2, 0, 0, 0, 0) := ⟨RX8, TX8, 16, tyX8, rfl, (by decide +kernel), rfl, (by decide +kernel), zcw8, (tm2 15 rfl rfl), tyX8_ok, nmX8, zfk_4 1 rfl⟩
theorem zl_8_21 : zLK zTs RX8 21 (0, 8, 3, 0, 0, 0, 0) := ⟨RX8, TX8, 16, tyX8, rfl, (by decide +kernel), rfl, (by decide +kernel), zcw8, (tm2 17 rfl rfl), tyX8_ok, nmX8, zfk_4 1 rfl⟩
theorem zl_8_24 : zLK zTs RX8 24 (0, 8, 4, 0, 0, 0, 0) := ⟨RX8, TX8, 16, tyX8, rfl, (by decide +kernel), rfl, (by decide +kernel), zcw8, (tm2 19 rfl rfl), tyX8_ok, nmX8, zfk_4 1 rfl⟩
theorem zl_8_27 : zLK zTs RX8 27 (0, 8, 5, 0, 0, 0, 0) := ⟨RX8, TX8, 16, tyX8, rfl, (by decide +kernel), rfl, (by decide +kernel), zcw8, (tm2 23 rfl rfl), tyX8_ok, nmX8, zfk_4 1 rfl⟩
theorem zl_8_30 : zLK zTs RX8 30 (0, 8, 6, 0, 0, 0, 0) := ⟨RX8, TX8, 16, tyX8, rfl, (by decide +kernel), rfl, (by decide +kernel), zcw8, (tm2 26 rfl rfl), tyX8_ok, nmX8, zfk_4 1 rfl⟩
theorem zl_8_33 : zLK zTs RX8 33 (0, 8, 7, 0, 0, 0, 0) := ⟨RX8, TX8, 16, tyX8, rfl, (by decide +kernel), rfl, (by decide +kernel), zcw8, (tm2 29 rfl rfl), tyX8_ok, nmX8, zfk_4 1 rfl⟩
theorem zl_8_36 : zLK zTs RX8 36 (0, 8, 8, 0, 0, 0, 0) := ⟨RX8, TX8, 16, tyX8, rfl, (by decide +kernel), rfl, (by decide +kernel), zcw8, (tm2 31 rfl rfl), tyX8_ok, nmX8, zfk_4 1 rfl⟩
theorem zl_8_39 : zLK zTs RX8 39 (0, 8, 9, 0, 0, 0, 0) := ⟨RX8, TX8, 16, tyX8, rfl, (by decide +kernel), rfl, (by decide +kernel), zcw8, (tm2 32 rfl rfl), tyX8_ok, nmX8, zfk_4 1 rfl⟩
theorem zl_8_42 : zLK zTs RX8 42 (0, 8, 10, 0, 0, 0, 0) := ⟨RX8, TX8, 16, tyX8, rfl, (by decide +kernel), rfl, (by decide +kernel), zcw8, (tm2 35 rfl rfl), tyX8_ok, nmX8, zfk_4 1 rfl⟩
theorem zl_8_45 : zLK zTs RX8 45 (0, 8, 11, 0, 0, 0, 0) := ⟨RX8, TX8, 16, tyX8, rfl, (by decide +kernel), rfl, (by decide +kernel), zcw8, (tm2 37 rfl rfl), tyX8_ok, nmX8, zfk_4 2 rfl⟩
theorem zl_8_52 : zLK zTs RX8 52 (1, 261, 2, 0, 0, 0, 0) := zLK1 zmt_261 (zLMs rfl (tm2 10 rfl rfl) zst_261 znp_261) zmo_261
theorem zl_8_58 : zLK zTs RX8 58 (0, 8, 12, 0, 0, 0, 0) := ⟨RX8, TX8, 16, tyX8, rfl, (by decide +kernel), rfl, (by decide +kernel), zcw8, (tm2 38 rfl rfl), tyX8_ok, nmX8, zfk_0 rfl rfl rfl⟩
theorem zl_8_62 : zLK zTs RX8 62 (0, 8, 13, 0, 0, 0, 0) := ⟨RX8, TX8, 16, tyX8, rfl, (by decide +kernel), rfl, (by decide +kernel), zcw8, (tm2 41 rfl rfl), tyX8_ok, nmX8, zfk_0 rfl rfl rfl⟩
theorem zl_8_65 : zLK zTs RX8 65 (0, 8, 14, 0, 0, 0, 0) := ⟨RX8, TX8, 16, tyX8, rfl, (by decide +kernel), rfl, (by decide +kernel), zcw8, (tm2 43 rfl rfl), tyX8_ok, nmX8, zfk_0 rfl rfl rfl⟩
theorem zl_8_68 : zLK zTs RX8 68 (0, 8, 15, 0, 0, 0, 0) := ⟨RX8, TX8, 16, tyX8, rfl, (by decide +kernel), rfl, (by decide +kernel), zcw8, (tm2 46 rfl rfl), tyX8_ok, nmX8, zfk_0 rfl rfl rfl⟩
theorem zl_8_71 : zLK zTs RX8 71 (5, 0, 0, 0, 0, 0, 0) := ⟨(tm4 28 rfl rfl), (tm4 30 rfl rfl), (tm4 29 rfl rfl), (tm1 19 rfl rfl)⟩
theorem zl_8_77 : zLK zTs RX8 77 (6, 0, 0, 0, 0, 0, 0) := ⟨(tm4 31 rfl rfl), (tm3 40 rfl rfl), (tm1 14 rfl rfl), (tm3 41 rfl rfl)⟩
theorem zl_8_83 : zLK zTs RX8 83 (0, 1, 2, 0, 0, 0, 0) := ⟨RX1, TX1, 19, tyX1, rfl, (by decide +kernel), rfl, (by decide +kernel), zcw1, (tm1 123 rfl rfl), tyX1_ok, nmX1, zfk_4 1 rfl⟩
theorem zl_8_88 : zLK zTs RX8 88 (1, 74, 4, 1, 9, 0, 0) := zLK1 zmt_74 (zLMv rfl (tm4 41 rfl rfl) zia_74 zse_74 rfl znp_74 rfl) zmo_74
theorem zl_8_92 : zLK zTs RX8 92 (1, 70, 1, 1, 9, 0, 0) := zLK1 zmt_70 (zLMv rfl (tm4 36 rfl rfl) zia_70 zse_70 rfl znp_70 rfl) zmo_70
theorem zl_8_96 : zLK zTs RX8 96 (1, 80, 2, 0, 9, 3, 0) := zLK1 zmt_80 (zLMv rfl (tm4 37 rfl rfl) zia_80 zse_80 rfl znp_80 rfl) zmo_80
theorem zl_8_100 : zLK zTs RX8 100 (1, 51, 2, 1, 5, 0, 0) := zLK1 zmt_51 (zLMv rfl (tm5 25 rfl rfl) zia_51 zse_51 rfl znp_51 rfl) zmo_51
theorem zl_8_106 : zLK zTs RX8 106 (0, 1, 14, 0, 0, 0, 0) := ⟨RX1, TX1, 19, tyX1, rfl, (by decide +kernel), rfl, (by decide +kernel), zcw1, (tm1 156 rfl rfl), tyX1_ok, nmX1, zfk_0 rfl rfl rfl⟩
theorem zl_8_109 : zLK zTs RX8 109 (0, 1, 13, 0, 0, 0, 0) := ⟨RX1, TX1, 19, tyX1, rfl, (by decide +kernel), rfl, (by decide +kernel), zcw1, (tm1 152 rfl rfl), tyX1_ok, nmX1, zfk_0 rfl rfl rfl⟩
theorem zl_8_112 : zLK zTs RX8 112 (1, 6, 2, 3, 2, 0, 0) := zLK1 zmt_6 (zLMv rfl (tm5 30 rfl rfl) zia_6 zse_6 rfl znp_6 rfl) zmo_6
theorem zl_8_116 : zLK zTs RX8 116 (1, 76, 5, 0, 9, 1, 0) := zLK1 zmt_76 (zLMv rfl (tm4 54 rfl rfl) zia_76 zse_76 rfl znp_76 rfl) zmo_76
theorem zl_8_120 : zLK zTs RX8 120 (0, 4, 1, 0, 0, 0, 0) := ⟨RX4, TX4, 2, tyX4, rfl, (by decide +kernel), rfl, (by decide +kernel), zcw4, (tm2 193 rfl rfl), tyX4_ok, nmX4, zfk_0 rfl rfl rfl⟩
theorem zl_8_123 : zLK zTs RX8 123 (1, 20, 3, 1, 2, 0, 0) := zLK1 zmt_20 (zLMv rfl (tm4 45 rfl rfl) zia_20 zse_20 rfl znp_20 rfl) zmo_20
theorem zl_8_126 : zLK zTs RX8 126 (0, 1, 3, 0, 0, 0, 0) := ⟨RX1, TX1, 19, tyX1, rfl, (by decide +kernel), rfl, (by decide +kernel), zcw1, (tm1 126 rfl rfl), tyX1_ok, nmX1, zfk_4 1 rfl⟩
theorem zl_8_129 : zLK zTs RX8 129 (1, 81, 4, 0, 9, 2, 0) := zLK1 zmt_81 (zLMv rfl (tm4 46 rfl rfl) zia_81 zse_81 rfl znp_81 rfl) zmo_81
theorem zl_8_133 : zLK zTs RX8 133 (0, 1, 15, 0, 0, 0, 0) := ⟨RX1, TX1, 19, tyX1, rfl, (by decide +kernel), rfl, (by decide +kernel), zcw1, (tm1 161 rfl rfl), tyX1_ok, nmX1, zfk_0 rfl rfl rfl⟩
theorem zl_8_136 : zLK zTs RX8 136 (1, 71, 2, 3, 9, 0, 0) := zLK1 zmt_71 (zLMv rfl (tm4 58 rfl rfl) zia_71 zse_71 rfl znp_71 rfl) zmo_71
theorem zl_8_139 : zLK zTs RX8 139 (1, 82, 3, 0, 9, 1, 0) := zLK1 zmt_82 (zLMv rfl (tm4 59 rfl rfl) zia_82 zse_82 rfl znp_82 rfl) zmo_82
theorem zl_8_143 : zLK zTs RX8 143 (1, 83, 3, 0, 9, 2, 0) := zLK1 zmt_83 (zLMv rfl (tm4 64 rfl rfl) zia_83 zse_83 rfl znp_83 rfl) zmo_83
theorem zl_8_146 : zLK zTs RX8 146 (1, 75, 4, 1, 9, 1, 0) := zLK1 zmt_75 (zLMv rfl (tm4 50 rfl rfl) zia_75 zse_75 rfl znp_75 rfl) zmo_75
theorem zl_8_149 : zLK zTs RX8 149 (0, 1, 7, 0, 0, 0, 0) := ⟨RX1, TX1, 19, tyX1, rfl, (by decide +kernel), rfl, (by decide +kernel), zcw1, (tm1 136 rfl rfl), tyX1_ok, nmX1, zfk_4 1 rfl⟩
theorem zl_8_152 : zLK zTs RX8 152 (0, 1, 8, 0, 0, 0, 0) := ⟨RX1, TX1, 19, tyX1, rfl, (by decide +kernel), rfl, (by decide +kernel), zcw1, (tm1 139 rfl rfl), tyX1_ok, nmX1, zfk_4 1 rfl⟩
theorem zl_8_155 : zLK zTs RX8 155 (1, 18, 3, 1, 2, 0, 0) := zLK1 zmt_18 (zLMv rfl (tm4 63 rfl rfl) zia_18 zse_18 rfl znp_18 rfl) zmo_18
theorem zl_8_158 : zLK zTs RX8 158 (0, 1, 17, 0, 0, 0, 0) := ⟨RX1, TX1, 19, tyX1, rfl, (by decide +kernel), rfl, (by decide +kernel), zcw1, (tm1 167 rfl rfl), tyX1_ok, nmX1, zfk_0 rfl rfl rfl⟩
theorem zl_8_161 : zLK zTs RX8 161 (0, 1, 10, 0, 0, 0, 0) := ⟨RX1, TX1, 19, tyX1, rfl, (by decide +kernel), rfl, (by decide +kernel), zcw1, (tm1 144 rfl rfl), tyX1_ok, nmX1, zfk_4 1 rfl⟩
theorem zl_8_164 : zLK zTs RX8 164 (0, 1, 11, 0, 0, 0, 0) := ⟨RX1, TX1, 19, tyX1, rfl, (by decide +kernel), rfl, (by decide +kernel), zcw1, (tm1 148 rfl rfl), tyX1_ok, nmX1, zfk_4 1 rfl⟩
theorem zl_8_167 : zLK zTs RX8 167 (1, 84, 5, 0, 9, 1, 0) := zLK1 zmt_84 (zLMv rfl (tm4 68 rfl rfl) zia_84 zse_84 rfl znp_84 rfl) zmo_84
theorem zl_8_170 : zLK zTs RX8 170 (1, 19, 3, 3, 2, 0, 0) := zLK1 zmt_19 (zLMv rfl (tm4 72 rfl rfl) zia_19 zse_19 rfl znp_19 rfl) zmo_19
theorem zl_8_174 : zLK zTs RX8 174 (0, 1, 1, 0, 0, 0, 0) := ⟨RX1, TX1, 19, tyX1, rfl, (by decide +kernel), rfl, (by decide +kernel), zcw1, (tm1 119 rfl rfl), tyX1_ok, nmX1, zfk_4 1 rfl⟩
theorem zl_8_177 : zLK zTs RX8 177 (1, 85, 4, 0, 9, 0, 0) := zLK1 zmt_85 (zLMv rfl (tm4 73 rfl rfl) zia_85 zse_85 rfl znp_85 rfl) zmo_85
theorem zl_8_181 : zLK zTs RX8 181 (2, 201, 20, 0, 0, 0, 0) := Or.inr ⟨rfl, rfl, rfl, rfl⟩
theorem zlks_8 : zLKs RX8 zlk8 := zLKs_cons zl_8_9 (zLKs_cons zl_8_15 (zLKs_cons zl_8_18 (zLKs_cons zl_8_21 (zLKs_cons zl_8_24 (zLKs_cons zl_8_27 (zLKs_cons zl_8_30 (zLKs_cons zl_8_33 (zLKs_cons zl_8_36 (zLKs_cons zl_8_39 (zLKs_cons zl_8_42 (zLKs_cons zl_8_45 (zLKs_cons zl_8_52 (zLKs_cons zl_8_58 (zLKs_cons zl_8_62 (zLKs_cons zl_8_65 (zLKs_cons zl_8_68 (zLKs_cons zl_8_71 (zLKs_cons zl_8_77 (zLKs_cons zl_8_83 (zLKs_cons zl_8_88 (zLKs_cons zl_8_92 (zLKs_cons zl_8_96 (zLKs_cons zl_8_100 (zLKs_cons zl_8_106 (zLKs_cons zl_8_109 (zLKs_cons zl_8_112 (zLKs_cons zl_8_116 (zLKs_cons zl_8_120 (zLKs_cons zl_8_123 (zLKs_cons zl_8_126 (zLKs_cons zl_8_129 (zLKs_cons zl_8_133 (zLKs_cons zl_8_136 (zLKs_cons zl_8_139 (zLKs_cons zl_8_143 (zLKs_cons zl_8_146 (zLKs_cons zl_8_149 (zLKs_cons zl_8_152 (zLKs_cons zl_8_155 (zLKs_cons zl_8_158 (zLKs_cons zl_8_161 (zLKs_cons zl_8_164 (zLKs_cons zl_8_167 (zLKs_cons zl_8_170 (zLKs_cons zl_8_174 (zLKs_cons zl_8_177 (zLKs_cons zl_8_181 (zLKs_nil))))))))))))))))))))))))))))))))))))))))))))))))
theorem zl_9_9 : zLK zTs RX9 9 (0, 9, 0, 0, 0, 0, 0) := ⟨RX9, TX9, 11, tyX9, rfl, (by decide +kernel), rfl, (by decide +kernel), zcw9, (tm1 34 rfl rfl), tyX9_ok, nmX9, zfk_4 1 rfl⟩
theorem zl_9_15 : zLK zTs RX9 15 (0, 9, 1, 0, 0, 0, 0) := ⟨RX9, TX9, 11, tyX9, rfl, (by decide +kernel), rfl, (by decide +kernel), zcw9, (tm1 36 rfl rfl), tyX9_ok, nmX9, zfk_0 rfl rfl rfl⟩
theorem zl_9_19 : zLK zTs RX9 19 (0, 9, 2, 0, 0, 0, 0) := ⟨RX9, TX9, 11, tyX9, rfl, (by decide +kernel), rfl, (by decide +kernel), zcw9, (tm1 37 rfl rfl), tyX9_ok, nmX9, zfk_0 rfl rfl rfl⟩
theorem zl_9_22 : zLK zTs RX9 22 (0, 9, 3, 0, 0, 0, 0) := ⟨RX9, TX9, 11, tyX9, rfl, (by decide +kernel), rfl, (by decide +kernel), zcw9, (tm1 38 rfl rfl), tyX9_ok, nmX9, zfk_0 rfl rfl rfl⟩
theorem zl_9_25 : zLK zTs RX9 25 (0, 9, 9, 0, 0, 0, 0) := ⟨RX9, TX9, 11, tyX9, rfl, (by decide +kernel), rfl, (by decide +kernel), zcw9, (tm1 55 rfl rfl), tyX9_ok, nmX9, zfk_0 rfl rfl rfl⟩
theorem zl_9_28 : zLK zTs RX9 28 (0, 9, 10, 0, 0, 0, 0) := ⟨RX9, TX9, 11, tyX9, rfl, (by decide +kernel), rfl, (by decide +kernel), zcw9, (tm1 57 rfl rfl), tyX9_ok, nmX9, zfk_0 rfl rfl rfl⟩
theorem zl_9_31 : zLK zTs RX9 31 (1, 89, 1, 0, 10, 1, 0) := zLK1 zmt_89 (zLMv rfl (tm3 35 rfl rfl) zia_89 zse_89 rfl znp_89 rfl) zmo_89
theorem zl_9_34 : zLK zTs RX9 34 (6, 0, 0, 0, 0, 0, 0) := ⟨(tm3 39 rfl rfl), (tm3 40 rfl rfl), (tm1 14 rfl rfl), (tm3 41 rfl rfl)⟩
theorem zl_9_40 : zLK zTs RX9 40 (0, 9, 6, 0, 0, 0, 0) := ⟨RX9, TX9, 11, tyX9, rfl, (by decide +kernel), rfl, (by decide +kernel), zcw9, (tm1 47 rfl rfl), tyX9_ok, nmX9, zfk_0 rfl rfl rfl⟩
theorem zl_9_43 : zLK zTs RX9 43 (0, 9, 5, 0, 0, 0, 0) := ⟨RX9, TX9, 11, tyX9, rfl, (by decide +kernel), rfl, (by decide +kernel), zcw9, (tm1 43 rfl rfl), tyX9_ok, nmX9, zfk_0 rfl rfl rfl⟩
theorem zl_9_46 : zLK zTs RX9 46 (0, 9, 4, 0, 0, 0, 0) := ⟨RX9, TX9, 11, tyX9, rfl, (by decide +kernel), rfl, (by decide +kernel), zcw9, (tm1 42 rfl rfl), tyX9_ok, nmX9, zfk_0 rfl rfl rfl⟩
theorem zl_9_49 : zLK zTs RX9 49 (1, 90, 1, 0, 10, 0, 0) := zLK1 zmt_90 (zLMv rfl (tm3 42 rfl rfl) zia_90 zse_90 rfl znp_90 rfl) zmo_90
theorem zl_9_52 : zLK zTs RX9 52 (1, 91, 1, 0, 10, 0, 0) := zLK1 zmt_91 (zLMv rfl (tm3 46 rfl rfl) zia_91 zse_91 rfl znp_91 rfl) zmo_91
theorem zl_9_55 : zLK zTs RX9 55 (0, 9, 8, 0, 0, 0, 0) := ⟨RX9, TX9, 11, tyX9, rfl, (by decide +kernel), rfl, (by decide +kernel), zcw9, (tm1 54 rfl rfl), tyX9_ok, nmX9, zfk_1 rfl rfl rfl⟩
theorem zl_9_59 : zLK zTs RX9 59 (0, 9, 7, 0, 0, 0, 0) := ⟨RX9, TX9, 11, tyX9, rfl, (by decide +kernel), rfl, (by decide +kernel), zcw9, (tm1 49 rfl rfl), tyX9_ok, nmX9, zfk_0 rfl rfl rfl⟩
theorem zl_9_62 : zLK zTs RX9 62 (2, 200, 26, 0, 0, 0, 0) := Or.inl ⟨rfl, rfl, rfl, rfl⟩
theorem zl_9_66 : zLK zTs RX9 66 (1, 92, 2, 3, 10, 0, 0) := zLK1 zmt_92 (zLMv rfl (tm3 89 rfl rfl) zia_92 zse_92 rfl znp_92 rfl) zmo_92
theorem zl_9_70 : zLK zTs RX9 70 (1, 94, 1, 3, 10, 0, 0) := zLK1 zmt_94 (zLMv rfl (tm3 85 rfl rfl) zia_94 zse_94 rfl znp_94 rfl) zmo_94
theorem zl_9_74 : zLK zTs RX9 74 (1, 52, 2, 1, 7, 0, 0) := zLK1 zmt_52 (zLMv rfl (tm3 90 rfl rfl) zia_52 zse_52 rfl znp_52 rfl) zmo_52
theorem zl_9_80 : zLK zTs RX9 80 (0, 6, 1, 0, 0, 0, 0) := ⟨RX6, TX6, 4, tyX6, rfl, (by decide +kernel), rfl, (by decide +kernel), zcw6, (tm1 98 rfl rfl), tyX6_ok, nmX6, zfk_4 1 rfl⟩
theorem zl_9_83 : zLK zTs RX9 83 (0, 6, 2, 0, 0, 0, 0) := ⟨RX6, TX6, 4, tyX6, rfl, (by decide +kernel), rfl, (by decide +kernel), zcw6, (tm1 101 rfl rfl), tyX6_ok, nmX6, zfk_4 1 rfl⟩
theorem zlks_9 : zLKs RX9 zlk9 := zLKs_cons zl_9_9 (zLKs_cons zl_9_15 (zLKs_cons zl_9_19 (zLKs_cons zl_9_22 (zLKs_cons zl_9_25 (zLKs_cons zl_9_28 (zLKs_cons zl_9_31 (zLKs_cons zl_9_34 (zLKs_cons zl_9_40 (zLKs_cons zl_9_43 (zLKs_cons zl_9_46 (zLKs_cons zl_9_49 (zLKs_cons zl_9_52 (zLKs_cons zl_9_55 (zLKs_cons zl_9_59 (zLKs_cons zl_9_62 (zLKs_cons zl_9_66 (zLKs_cons zl_9_70 (zLKs_cons zl_9_74 (zLKs_cons zl_9_80 (zLKs_cons zl_9_83 (zLKs_nil)))))))))))))))))))))
theorem zl_10_12 : zLK zTs RX10 12 (0, 10, 0, 0, 0, 0, 0) := ⟨RX10, TX10, 18, tyX10, rfl, (by decide +kernel), rfl, (by decide +kernel), zcw10, (tm2 200 rfl rfl), tyX10_ok, nmX10, zfk_4 0 rfl⟩
theorem zl_10_19 : zLK zTs RX10 19 (0, 10, 11, 0, 0, 0, 0) := ⟨RX10, TX10, 18, tyX10, rfl, (by decide +kernel), rfl, (by decide +kernel), zcw10, (tm2 211 rfl rfl), tyX10_ok, nmX10, zfk_3 rfl rfl _ rfl⟩
theorem zl_10_23 : zLK zTs RX10 23 (0, 10, 13, 0, 0, 0, 0) := ⟨RX10, TX10, 18, tyX10, rfl, (by decide +kernel), rfl, (by decide +kernel), zcw10, (tm2 213 rfl rfl), tyX10_ok, nmX10, zfk_3 rfl rfl _ rfl⟩
theorem zl_10_31 : zLK zTs RX10 31 (0, 10, 1, 0, 0, 0, 0) := ⟨RX10, TX10, 18, tyX10, rfl, (by decide +kernel), rfl, (by decide +kernel), zcw10, (tm2 201 rfl rfl), tyX10_ok, nmX10, zfk_4 0 rfl⟩
theorem zl_10_40 : zLK zTs RX10 40 (0, 10, 2, 0, 0, 0, 0) := ⟨RX10, TX10, 18, tyX10, rfl, (by decide +kernel), rfl, (by decide +kernel), zcw10, (tm2 202 rfl rfl), tyX10_ok, nmX10, zfk_4 0 rfl⟩
theorem zl_10_44 : zLK zTs RX10 44 (0, 10, 3, 0, 0, 0, 0) := ⟨RX10, TX10, 18, tyX10, rfl, (by decide +kernel), rfl, (by decide +kernel), zcw10, (tm2 203 rfl rfl), tyX10_ok, nmX10, zfk_4 0 rfl⟩
theorem zl_10_50 : zLK zTs RX10 50 (0, 10, 4, 0, 0, 0, 0) := ⟨RX10, TX10, 18, tyX10, rfl, (by decide +kernel), rfl, (by decide +kernel), zcw10, (tm2 204 rfl rfl), tyX10_ok, nmX10, zfk_4 0 rfl⟩
theorem zl_10_57 : zLK zTs RX10 57 (0, 10, 12, 0, 0, 0, 0) := ⟨RX10, TX10, 18, tyX10, rfl, (by decide +kernel), rfl, (by decide +kernel), zcw10, (tm2 212 rfl rfl), tyX10_ok, nmX10, zfk_3 rfl rfl _ rfl⟩
theorem zl_10_61 : zLK zTs RX10 61 (0, 10, 14, 0, 0, 0, 0) := ⟨RX10, TX10, 18, tyX10, rfl, (by decide +kernel), rfl, (by decide +kernel), zcw10, (tm2 214 rfl rfl), tyX10_ok, nmX10, zfk_3 rfl rfl _ rfl⟩
theorem zl_10_67 : zLK zTs RX10 67 (0, 10, 5, 0, 0, 0, 0) := ⟨RX10, TX10, 18, tyX10, rfl, (by decide +kernel), rfl, (by decide +kernel), zcw10, (tm2 205 rfl rfl), tyX10_ok, nmX10, zfk_4 0 rfl⟩
theorem zl_10_73 : zLK zTs RX10 73 (0, 10, 6, 0, 0, 0, 0) := ⟨RX10, TX10, 18, tyX10, rfl, (by decide +kernel), rfl, (by decide +kernel), zcw10, (tm2 206 rfl rfl), tyX10_ok, nmX10, zfk_4 1 rfl⟩
theorem zl_10_81 : zLK zTs RX10 81 (0, 10, 7, 0, 0, 0, 0) := ⟨RX10, TX10, 18, tyX10, rfl, (by decide +kernel), rfl, (by decide +kernel), zcw10, (tm2 207 rfl rfl), tyX10_ok, nmX10, zfk_4 0 rfl⟩
theorem zl_10_85 : zLK zTs RX10 85 (0, 10, 8, 0, 0, 0, 0) := ⟨RX10, TX10, 18, tyX10, rfl, (by decide +kernel), rfl, (by decide +kernel), zcw10, (tm2 208 rfl rfl), tyX10_ok, nmX10, zfk_4 1 rfl⟩
theorem zl_10_89 : zLK zTs RX10 89 (0, 10, 9, 0, 0, 0, 0) := ⟨RX10, TX10, 18, tyX10, rfl, (by decide +kernel), rfl, (by decide +kernel), zcw10, (tm2 209 rfl rfl), tyX10_ok, nmX10, zfk_4 1 rfl⟩
theorem zl_10_92 : zLK zTs RX10 92 (0, 10, 10, 0, 0, 0, 0) := ⟨RX10, TX10, 18, tyX10, rfl, (by decide +kernel), rfl, (by decide +kernel), zcw10, (tm2 210 rfl rfl), tyX10_ok, nmX10, zfk_4 1 rfl⟩
theorem zl_10_95 : zLK zTs RX10 95 (0, 10, 15, 0, 0, 0, 0) := ⟨RX10, TX10, 18, tyX10, rfl, (by decide +kernel), rfl, (by decide +kernel), zcw10, (tm2 215 rfl rfl), tyX10_ok, nmX10, zfk_0 rfl rfl rfl⟩
theorem zl_10_99 : zLK zTs RX10 99 (0, 10, 16, 0, 0, 0, 0) := ⟨RX10, TX10, 18, tyX10, rfl, (by decide +kernel), rfl, (by decide +kernel), zcw10, (tm2 216 rfl rfl), tyX10_ok, nmX10, zfk_0 rfl rfl rfl⟩
theorem zl_10_102 : zLK zTs RX10 102 (0, 10, 17, 0, 0, 0, 0) := ⟨RX10, TX10, 18, tyX10, rfl, (by decide +kernel), rfl, (by decide +kernel), zcw10, (tm2 217 rfl rfl), tyX10_ok, nmX10, zfk_0 rfl rfl rfl⟩
theorem zl_10_105 : zLK zTs RX10 105 (0, 9, 1, 0, 0, 0, 0) := ⟨RX9, TX9, 11, tyX9, rfl, (by decide +kernel), rfl, (by decide +kernel), zcw9, (tm1 35 rfl rfl), tyX9_ok, nmX9, zfk_0 rfl rfl rfl⟩
theorem zl_10_108 : zLK zTs RX10 108 (1, 86, 2, 0, 10, 0, 0) := zLK1 zmt_86 (zLMv rfl (tm3 19 rfl rfl) zia_86 zse_86 rfl znp_86 rfl) zmo_86
theorem zl_10_111 : zLK zTs RX10 111 (1, 88, 2, 0, 10, 2, 0) := zLK1 zmt_88 (zLMv rfl (tm3 31 rfl rfl) zia_88 zse_88 rfl znp_88 rfl) zmo_88
theorem zl_10_114 : zLK zTs RX10 114 (1, 28, 2, 3, 3, 6, 0) := zLK1 zmt_28 (zLMv rfl (tm3 52 rfl rfl) zia_28 zse_28 rfl znp_28 rfl) zmo_28
theorem zl_10_118 : zLK zTs RX10 118 (0, 9, 9, 0, 0, 0, 0) := ⟨RX9, TX9, 11, tyX9, rfl, (by decide +kernel), rfl, (by decide +kernel), zcw9, (tm1 56 rfl rfl), tyX9_ok, nmX9, zfk_0 rfl rfl rfl⟩
theorem zl_10_119 : zLK zTs RX10 119 (0, 9, 10, 0, 0, 0, 0) := ⟨RX9, TX9, 11, tyX9, rfl, (by decide +kernel), rfl, (by decide +kernel), zcw9, (tm1 58 rfl rfl), tyX9_ok, nmX9, zfk_0 rfl rfl rfl⟩
theorem zl_10_122 : zLK zTs RX10 122 (0, 1, 15, 0, 0, 0, 0) := ⟨RX1, TX1, 19, tyX1, rfl, (by decide +kernel), rfl, (by decide +kernel), zcw1, (tm1 159 rfl rfl), tyX1_ok, nmX1, zfk_0 rfl rfl rfl⟩
theorem zl_10_125 : zLK zTs RX10 125 (1, 68, 2, 0, 9, 1, 0) := zLK1 zmt_68 (zLMv rfl (tm3 186 rfl rfl) zia_68 zse_68 rfl znp_68 rfl) zmo_68
theorem zl_10_128 : zLK zTs RX10 128 (1, 55, 1, 0, 8, 0, 0) := zLK1 zmt_55 (zLMv rfl (tm3 187 rfl rfl) zia_55 zse_55 rfl znp_55 rfl) zmo_55
theorem zl_10_131 : zLK zTs RX10 131 (1, 0, 1, 0, 1, 0, 0) := zLK1 zmt_0 (zLMv rfl (tm3 191 rfl rfl) zia_0 zse_0 rfl znp_0 rfl) zmo_0
theorem zl_10_132 : zLK zTs RX10 132 (0, 2, 2, 0, 0, 0, 0) := ⟨RX2, TX2, 7, tyX2, rfl, (by decide +kernel), rfl, (by decide +kernel), zcw2, (tm1 220 rfl rfl), tyX2_ok, nmX2, zfk_0 rfl rfl rfl⟩
theorem zl_10_135 : zLK zTs RX10 135 (1, 6, 2, 3, 2, 0, 0) := zLK1 zmt_6 (zLMv rfl (tm3 203 rfl rfl) zia_6 zse_6 rfl znp_6 rfl) zmo_6
theorem zl_10_139 : zLK zTs RX10 139 (0, 1, 1, 0, 0, 0, 0) := ⟨RX1, TX1, 19, tyX1, rfl, (by decide +kernel), rfl, (by decide +kernel), zcw1, (tm1 118 rfl rfl), tyX1_ok, nmX1, zfk_4 1 rfl⟩
theorem zl_10_142 : zLK zTs RX10 142 (1, 7, 2, 3, 2, 0, 0) := zLK1 zmt_7 (zLMv rfl (tm3 211 rfl rfl) zia_7 zse_7 rfl znp_7 rfl) zmo_7
theorem zl_10_145 : zLK zTs RX10 145 (0, 1, 2, 0, 0, 0, 0) := ⟨RX1, TX1, 19, tyX1, rfl, (by decide +kernel), rfl, (by decide +kernel), zcw1, (tm1 122 rfl rfl), tyX1_ok, nmX1, zfk_4 1 rfl⟩
theorem zl_10_148 : zLK zTs RX10 148 (0, 1, 3, 0, 0, 0, 0) := ⟨RX1, TX1, 19, tyX1, rfl, (by decide +kernel), rfl, (by decide +kernel), zcw1, (tm1 125 rfl rfl), tyX1_ok, nmX1, zfk_4 1 rfl⟩
theorem zl_10_151 : zLK zTs RX10 151 (0, 1, 4, 0, 0, 0, 0) := ⟨RX1, TX1, 19, tyX1, rfl, (by decide +kernel), rfl, (by decide +kernel), zcw1, (tm1 128 rfl rfl), tyX1_ok, nmX1, zfk_4 1 rfl⟩
theorem zl_10_154 : zLK zTs RX10 154 (0, 1, 5, 0, 0, 0, 0) := ⟨RX1, TX1, 19, tyX1, rfl, (by decide +kernel), rfl, (by decide +kernel), zcw1, (tm1 131 rfl rfl), tyX1_ok, nmX1, zfk_4 1 rfl⟩
theorem zl_10_157 : zLK zTs RX10 157 (0, 8, 12, 0, 0, 0, 0) := ⟨RX8, TX8, 16, tyX8, rfl, (by decide +kernel), rfl, (by decide +kernel), zcw8, (tm2 39 rfl rfl), tyX8_ok, nmX8, zfk_0 rfl rfl rfl⟩
theorem zl_10_160 : zLK zTs RX10 160 (1, 20, 3, 1, 2, 0, 0) := zLK1 zmt_20 (zLMv rfl (tm3 212 rfl rfl) zia_20 zse_20 rfl znp_20 rfl) zmo_20
theorem zl_10_164 : zLK zTs RX10 164 (1, 8, 3, 3, 2, 1, 0) := zLK1 zmt_8 (zLMv rfl (tm4 91 rfl rfl) zia_8 zse_8 rfl znp_8 rfl) zmo_8
theorem zl_10_171 : zLK zTs RX10 171 (1, 75, 4, 1, 9, 1, 0) := zLK1 zmt_75 (zLMv rfl (tm4 95 rfl rfl) zia_75 zse_75 rfl znp_75 rfl) zmo_75
theorem zl_10_175 : zLK zTs RX10 175 (1, 9, 2, 3, 2, 0, 0) := zLK1 zmt_9 (zLMv rfl (tm3 220 rfl rfl) zia_9 zse_9 rfl znp_9 rfl) zmo_9
theorem zl_10_178 : zLK zTs RX10 178 (0, 1, 7, 0, 0, 0, 0) := ⟨RX1, TX1, 19, tyX1, rfl, (by decide +kernel), rfl, (by decide +kernel), zcw1, (tm1 135 rfl rfl), tyX1_ok, nmX1, zfk_4 1 rfl⟩
theorem zl_10_181 : zLK zTs RX10 181 (0, 1, 8, 0, 0, 0, 0) := ⟨RX1, TX1, 19, tyX1, rfl, (by decide +kernel), rfl, (by decide +kernel), zcw1, (tm1 138 rfl rfl), tyX1_ok, nmX1, zfk_4 1 rfl⟩
theorem zl_10_184 : zLK zTs RX10 184 (1, 71, 2, 3, 9, 0, 0) := zLK1 zmt_71 (zLMv rfl (tm3 224 rfl rfl) zia_71 zse_71 rfl znp_71 rfl) zmo_71
theorem zl_10_187 : zLK zTs RX10 187 (0, 8, 2, 0, 0, 0, 0) := ⟨RX8, TX8, 16, tyX8, rfl, (by decide +kernel), rfl, (by decide +kernel), zcw8, (tm2 16 rfl rfl), tyX8_ok, nmX8, zfk_4 1 rfl⟩
theorem zl_10_190 : zLK zTs RX10 190 (0, 8, 3, 0, 0, 0, 0) := ⟨RX8, TX8, 16, tyX8, rfl, (by decide +kernel), rfl, (by decide +kernel), zcw8, (tm2 18 rfl rfl), tyX8_ok, nmX8, zfk_4 1 rfl⟩
theorem zl_10_193 : zLK zTs RX10 193 (1, 18, 3, 1, 2, 0, 0) := zLK1 zmt_18 (zLMv rfl (tm3 232 rfl rfl) zia_18 zse_18 rfl znp_18 rfl) zmo_18
theorem zl_10_196 : zLK zTs RX10 196 (1, 10, 2, 3, 2, 0, 0) := zLK1 zmt_10 (zLMv rfl (tm4 109 rfl rfl) zia_10 zse_10 rfl znp_10 rfl) zmo_10
theorem zl_10_205 : zLK zTs RX10 205 (0, 8, 4, 0, 0, 0, 0) := ⟨RX8, TX8, 16, tyX8, rfl, (by decide +kernel), rfl, (by decide +kernel), zcw8, (tm2 21 rfl rfl), tyX8_ok, nmX8, zfk_4 1 rfl⟩
theorem zl_10_211 : zLK zTs RX10 211 (0, 8, 6, 0, 0, 0, 0) := ⟨RX8, TX8, 16, tyX8, rfl, (by decide +kernel), rfl, (by decide +kernel), zcw8, (tm2 27 rfl rfl), tyX8_ok, nmX8, zfk_4 1 rfl⟩
theorem zl_10_217 : zLK zTs RX10 217 (1, 73, 1, 1, 9, 0, 0) := zLK1 zmt_73 (zLMv rfl (tm3 237 rfl rfl) zia_73 zse_73 rfl znp_73 rfl) zmo_73
theorem zl_10_221 : zLK zTs RX10 221 (0, 8, 14, 0, 0, 0, 0) := ⟨RX8, TX8, 16, tyX8, rfl, (by decide +kernel), rfl, (by decide +kernel), zcw8, (tm2 45 rfl rfl), tyX8_ok, nmX8, zfk_0 rfl rfl rfl⟩
theorem zl_10_224 : zLK zTs RX10 224 (0, 8, 15, 0, 0, 0, 0) := ⟨RX8, TX8, 16, tyX8, rfl, (by decide +kernel), rfl, (by decide +kernel), zcw8, (tm2 47 rfl rfl), tyX8_ok, nmX8, zfk_0 rfl rfl rfl⟩
theorem zl_10_227 : zLK zTs RX10 227 (1, 140, 1, 1, 0, 0, 0) := zLK1 zmt_140 (zLMs rfl (tm4 1 rfl rfl) zst_140 znp_140) zmo_140
theorem zl_10_231 : zLK zTs RX10 231 (1, 139, 2, 3, 0, 0, 0) := zLK1 zmt_139 (zLMs rfl (tm4 8 rfl rfl) zst_139 znp_139) zmo_139
theorem zl_10_234 : zLK zTs RX10 234 (1, 70, 1, 1, 9, 0, 0) := zLK1 zmt_70 (zLMv rfl (tm4 11 rfl rfl) zia_70 zse_70 rfl znp_70 rfl) zmo_70
theorem zl_10_237 : zLK zTs RX10 237 (6, 0, 0, 0, 0, 0, 0) := ⟨(tm4 15 rfl rfl), (tm3 40 rfl rfl), (tm1 14 rfl rfl), (tm3 41 rfl rfl)⟩
theorem zl_10_242 : zLK zTs RX10 242 (1, 1, 2, 0, 1, 2, 0) := zLK1 zmt_1 (zLMv rfl (tm4 16 rfl rfl) zia_1 zse_1 rfl znp_1 rfl) zmo_1
theorem zl_10_246 : zLK zTs RX10 246 (1, 78, 3, 0, 9, 4, 0) := zLK1 zmt_78 (zLMv rfl (tm4 32 rfl rfl) zia_78 zse_78 rfl znp_78 rfl) zmo_78
theorem zl_10_250 : zLK zTs RX10 250 (1, 72, 2, 0, 9, 0, 0) := zLK1 zmt_72 (zLMv rfl (tm4 83 rfl rfl) zia_72 zse_72 rfl znp_72 rfl) zmo_72
theorem zl_10_253 : zLK zTs RX10 253 (1, 76, 5, 0, 9, 1, 0) := zLK1 zmt_76 (zLMv rfl (tm4 96 rfl rfl) zia_76 zse_76 rfl znp_76 rfl) zmo_76
theorem zl_10_257 : zLK zTs RX10 257 (1, 3, 2, 3, 1, 2, 0) := zLK1 zmt_3 (zLMv rfl (tm4 101 rfl rfl) zia_3 zse_3 rfl znp_3 rfl) zmo_3
theorem zl_10_261 : zLK zTs RX10 261 (0, 0, 1, 0, 0, 0, 0) := ⟨RX0, TX0, 2, tyX0, rfl, (by decide +kernel), rfl, (by decide +kernel), zcw0, (tm2 92 rfl rfl), tyX0_ok, nmX0, zfk_0 rfl rfl rfl⟩
theorem zl_10_264 : zLK zTs RX10 264 (1, 77, 3, 1, 9, 0, 0) := zLK1 zmt_77 (zLMv rfl (tm4 113 rfl rfl) zia_77 zse_77 rfl znp_77 rfl) zmo_77
theorem zl_10_267 : zLK zTs RX10 267 (0, 8, 9, 0, 0, 0, 0) := ⟨RX8, TX8, 16, tyX8, rfl, (by decide +kernel), rfl, (by decide +kernel), zcw8, (tm2 34 rfl rfl), tyX8_ok, nmX8, zfk_4 1 rfl⟩
theorem zl_10_270 : zLK zTs RX10 270 (0, 8, 10, 0, 0, 0, 0) := ⟨RX8, TX8, 16, tyX8, rfl, (by decide +kernel), rfl, (by decide +kernel), zcw8, (tm2 36 rfl rfl), tyX8_ok, nmX8, zfk_4 1 rfl⟩
theorem zl_10_273 : zLK zTs RX10 273 (1, 23, 4, 1, 2, 0, 0) := zLK1 zmt_23 (zLMv rfl (tm4 129 rfl rfl) zia_23 zse_23 rfl znp_23 rfl) zmo_23
theorem zl_10_277 : zLK zTs RX10 277 (1, 24, 2, 1, 2, 0, 0) := zLK1 zmt_24 (zLMv rfl (tm4 137 rfl rfl) zia_24 zse_24 rfl znp_24 rfl) zmo_24
theorem zl_10_281 : zLK zTs RX10 281 (1, 25, 2, 1, 2, 1, 0) := zLK1 zmt_25 (zLMv rfl (tm4 145 rfl rfl) zia_25 zse_25 rfl znp_25 rfl) zmo_25
theorem zl_10_284 : zLK zTs RX10 284 (1, 116, 2, 1, 11, 2, 0) := zLK1 zmt_116 (zLMv rfl (tm4 154 rfl rfl) zia_116 zse_116 rfl znp_116 rfl) zmo_116
theorem zl_10_287 : zLK zTs RX10 287 (0, 8, 13, 0, 0, 0, 0) := ⟨RX8, TX8, 16, tyX8, rfl, (by decide +kernel), rfl, (by decide +kernel), zcw8, (tm2 42 rfl rfl), tyX8_ok, nmX8, zfk_0 rfl rfl rfl⟩
theorem zl_10_290 : zLK zTs RX10 290 (1, 26, 4, 1, 2, 2, 0) := zLK1 zmt_26 (zLMv rfl (tm4 155 rfl rfl) zia_26 zse_26 rfl znp_26 rfl) zmo_26
theorem zl_10_293 : zLK zTs RX10 293 (1, 141, 2, 1, 11, 1, 0) := zLK1 zmt_141 (zLMv rfl (tm4 170 rfl rfl) zia_141 zse_141 rfl znp_141 rfl) zmo_141
theorem zl_10_296 : zLK zTs RX10 296 (4, 0, 0, 0, 0, 0, (-1)) := ⟨⟨by decide, by decide⟩, (tm4 178 rfl rfl)⟩
theorem zl_10_298 : zLK zTs RX10 298 (1, 142, 2, 0, 11, 3, 0) := zLK1 zmt_142 (zLMv rfl (tm4 179 rfl rfl) zia_142 zse_142 rfl znp_142 rfl) zmo_142
theorem zl_10_301 : zLK zTs RX10 301 (1, 87, 2, 1, 10, 0, 0) := zLK1 zmt_87 (zLMv rfl (tm4 174 rfl rfl) zia_87 zse_87 rfl znp_87 rfl) zmo_87
theorem zl_10_304 : zLK zTs RX10 304 (1, 143, 2, 1, 11, 0, 0) := zLK1 zmt_143 (zLMv rfl (tm4 183 rfl rfl) zia_143 zse_143 rfl znp_143 rfl) zmo_143
theorem zl_10_307 : zLK zTs RX10 307 (1, 145, 2, 0, 11, 1, 0) := zLK1 zmt_145 (zLMv rfl (tm4 187 rfl rfl) zia_145 zse_145 rfl znp_145 rfl) zmo_145
theorem zl_10_310 : zLK zTs RX10 310 (1, 144, 2, 1, 11, 0, 0) := zLK1 zmt_144 (zLMv rfl (tm4 191 rfl rfl) zia_144 zse_144 rfl znp_144 rfl) zmo_144
theorem zl_10_313 : zLK zTs RX10 313 (1, 147, 3, 0, 11, 6, 0) := zLK1 zmt_147 (zLMv rfl (tm4 207 rfl rfl) zia_147 zse_147 rfl znp_147 rfl) zmo_147
theorem zl_10_317 : zLK zTs RX10 317 (1, 148, 2, 3, 11, 0, 0) := zLK1 zmt_148 (zLMv rfl (tm4 220 rfl rfl) zia_148 zse_148 rfl znp_148 rfl) zmo_148
theorem zl_10_320 : zLK zTs RX10 320 (1, 22, 2, 1, 2, 0, 0) := zLK1 zmt_22 (zLMv rfl (tm4 216 rfl rfl) zia_22 zse_22 rfl znp_22 rfl) zmo_22
theorem zl_10_323 : zLK zTs RX10 323 (1, 146, 3, 0, 11, 5, 0) := zLK1 zmt_146 (zLMv rfl (tm4 211 rfl rfl) zia_146 zse_146 rfl znp_146 rfl) zmo_146
theorem zl_10_326 : zLK zTs RX10 326 (0, 1, 13, 0, 0, 0, 0) := ⟨RX1, TX1, 19, tyX1, rfl, (by decide +kernel), rfl, (by decide +kernel), zcw1, (tm1 153 rfl rfl), tyX1_ok, nmX1, zfk_0 rfl rfl rfl⟩
theorem zl_10_329 : zLK zTs RX10 329 (1, 69, 2, 0, 9, 1, 0) := zLK1 zmt_69 (zLMv rfl (tm4 215 rfl rfl) zia_69 zse_69 rfl znp_69 rfl) zmo_69
theorem zl_10_332 : zLK zTs RX10 332 (1, 80, 2, 0, 9, 3, 0) := zLK1 zmt_80 (zLMv rfl (tm5 4 rfl rfl) zia_80 zse_80 rfl znp_80 rfl) zmo_80
theorem zl_10_336 : zLK zTs RX10 336 (0, 1, 14, 0, 0, 0, 0) := ⟨RX1, TX1, 19, tyX1, rfl, (by decide +kernel), rfl, (by decide +kernel), zcw1, (tm1 157 rfl rfl), tyX1_ok, nmX1, zfk_0 rfl rfl rfl⟩
theorem zl_10_339 : zLK zTs RX10 339 (1, 50, 2, 0, 5, 0, 0) := zLK1 zmt_50 (zLMv rfl (tm5 17 rfl rfl) zia_50 zse_50 rfl znp_50 rfl) zmo_50
theorem zl_10_340 : zLK zTs RX10 340 (1, 79, 3, 0, 9, 4, 0) := zLK1 zmt_79 (zLMv rfl (tm5 21 rfl rfl) zia_79 zse_79 rfl znp_79 rfl) zmo_79
theorem zl_10_344 : zLK zTs RX10 344 (0, 4, 1, 0, 0, 0, 0) := ⟨RX4, TX4, 2, tyX4, rfl, (by decide +kernel), rfl, (by decide +kernel), zcw4, (tm2 194 rfl rfl), tyX4_ok, nmX4, zfk_0 rfl rfl rfl⟩
theorem zl_10_345 : zLK zTs RX10 345 (1, 149, 3, 3, 11, 5, 0) := zLK1 zmt_149 (zLMv rfl (tm5 39 rfl rfl) zia_149 zse_149 rfl znp_149 rfl) zmo_149
theorem zl_10_348 : zLK zTs RX10 348 (0, 1, 0, 0, 0, 0, 0) := ⟨RX1, TX1, 19, tyX1, rfl, (by decide +kernel), rfl, (by decide +kernel), zcw1, (tm1 116 rfl rfl), tyX1_ok, nmX1, zfk_4 0 rfl⟩
theorem zl_10_352 : zLK zTs RX10 352 (1, 41, 3, 3, 4, 5, 0) := zLK1 zmt_41 (zLMv rfl (tm5 47 rfl rfl) zia_41 zse_41 rfl znp_41 rfl) zmo_41
theorem zl_10_356 : zLK zTs RX10 356 (1, 47, 3, 1, 4, 6, 0) := zLK1 zmt_47 (zLMv rfl (tm5 78 rfl rfl) zia_47 zse_47 rfl znp_47 rfl) zmo_47
theorem zl_10_360 : zLK zTs RX10 360 (0, 3, 6, 0, 0, 0, 0) := ⟨RX3, TX3, 9, tyX3, rfl, (by decide +kernel), rfl, (by decide +kernel), zcw3, (tm2 134 rfl rfl), tyX3_ok, nmX3, zfk_0 rfl rfl rfl⟩
theorem zl_10_363 : zLK zTs RX10 363 (1, 49, 2, 1, 4, 0, 0) := zLK1 zmt_49 (zLMv rfl (tm5 94 rfl rfl) zia_49 zse_49 rfl znp_49 rfl) zmo_49
theorem zl_10_366 : zLK zTs RX10 366 (1, 57, 3, 3, 8, 34, 0) := zLK1 zmt_57 (zLMv rfl (tm5 102 rfl rfl) zia_57 zse_57 rfl znp_57 rfl) zmo_57
theorem zl_10_367 : zLK zTs RX10 367 (0, 7, 4, 0, 0, 0, 0) := ⟨RX7, TX7, 5, tyX7, rfl, (by decide +kernel), rfl, (by decide +kernel), zcw7, (tm2 109 rfl rfl), tyX7_ok, nmX7, zfk_0 rfl rfl rfl⟩
theorem zl_10_370 : zLK zTs RX10 370 (0, 1, 17, 0, 0, 0, 0) := ⟨RX1, TX1, 19, tyX1, rfl, (by decide +kernel), rfl, (by decide +kernel), zcw1, (tm1 168 rfl rfl), tyX1_ok, nmX1, zfk_0 rfl rfl rfl⟩
theorem zl_10_373 : zLK zTs RX10 373 (1, 65, 4, 3, 8, 2, 0) := zLK1 zmt_65 (zLMv rfl (tm5 142 rfl rfl) zia_65 zse_65 rfl znp_65 rfl) zmo_65
theorem zl_10_377 : zLK zTs RX10 377 (0, 5, 0, 0, 0, 0, 0) := ⟨RX5, TX5, 4, tyX5, rfl, (by decide +kernel), rfl, (by decide +kernel), zcw5, (tm2 170 rfl rfl), tyX5_ok, nmX5, zfk_4 0 rfl⟩
theorem zl_10_378 : zLK zTs RX10 378 (1, 5, 2, 0, 2, 2, 0) := zLK1 zmt_5 (zLMv rfl (tm5 158 rfl rfl) zia_5 zse_5 rfl znp_5 rfl) zmo_5
theorem zl_10_380 : zLK zTs RX10 380 (0, 5, 1, 0, 0, 0, 0) := ⟨RX5, TX5, 4, tyX5, rfl, (by decide +kernel), rfl, (by decide +kernel), zcw5, (tm2 172 rfl rfl), tyX5_ok, nmX5, zfk_4 0 rfl⟩
theorem zl_10_381 : zLK zTs RX10 381 (0, 5, 2, 0, 0, 0, 0) := ⟨RX5, TX5, 4, tyX5, rfl, (by decide +kernel), rfl, (by decide +kernel), zcw5, (tm2 174 rfl rfl), tyX5_ok, nmX5, zfk_4 0 rfl⟩
theorem zl_10_382 : zLK zTs RX10 382 (1, 56, 2, 0, 8, 1, 0) := zLK1 zmt_56 (zLMv rfl (tm5 168 rfl rfl) zia_56 zse_56 rfl znp_56 rfl) zmo_56
theorem zl_10_385 : zLK zTs RX10 385 (0, 5, 3, 0, 0, 0, 0) := ⟨RX5, TX5, 4, tyX5, rfl, (by decide +kernel), rfl, (by decide +kernel), zcw5, (tm2 175 rfl rfl), tyX5_ok, nmX5, zfk_2 rfl rfl rfl⟩
theorem zl_10_389 : zLK zTs RX10 389 (0, 1, 16, 0, 0, 0, 0) := ⟨RX1, TX1, 19, tyX1, rfl, (by decide +kernel), rfl, (by decide +kernel), zcw1, (tm1 164 rfl rfl), tyX1_ok, nmX1, zfk_0 rfl rfl rfl⟩
theorem zl_10_392 : zLK zTs RX10 392 (0, 1, 18, 0, 0, 0, 0) := ⟨RX1, TX1, 19, tyX1, rfl, (by decide +kernel), rfl, (by decide +kernel), zcw1, (tm1 171 rfl rfl), tyX1_ok, nmX1, zfk_0 rfl rfl rfl⟩
theorem zlks_10 : zLKs RX10 zlk10 := zLKs_cons zl_10_12 (zLKs_cons zl_10_19 (zLKs_cons zl_10_23 (zLKs_cons zl_10_31 (zLKs_cons zl_10_40 (zLKs_cons zl_10_44 (zLKs_cons zl_10_50 (zLKs_cons zl_10_57 (zLKs_cons zl_10_61 (zLKs_cons zl_10_67 (zLKs_cons zl_10_73 (zLKs_cons zl_10_81 (zLKs_cons zl_10_85 (zLKs_cons zl_10_89 (zLKs_cons zl_10_92 (zLKs_cons zl_10_95 (zLKs_cons zl_10_99 (zLKs_cons zl_10_102 (zLKs_cons zl_10_105 (zLKs_cons zl_10_108 (zLKs_cons zl_10_111 (zLKs_cons zl_10_114 (zLKs_cons zl_10_118 (zLKs_cons zl_10_119 (zLKs_cons zl_10_122 (zLKs_cons zl_10_125 (zLKs_cons zl_10_128 (zLKs_cons zl_10_131 (zLKs_cons zl_10_132 (zLKs_cons zl_10_135 (zLKs_cons zl_10_139 (zLKs_cons zl_10_142 (zLKs_cons zl_10_145 (zLKs_cons zl_10_148 (zLKs_cons zl_10_151 (zLKs_cons zl_10_154 (zLKs_cons zl_10_157 (zLKs_cons zl_10_160 (zLKs_cons zl_10_164 (zLKs_cons zl_10_171 (zLKs_cons zl_10_175 (zLKs_cons zl_10_178 (zLKs_cons zl_10_181 (zLKs_cons zl_10_184 (zLKs_cons zl_10_187 (zLKs_cons zl_10_190 (zLKs_cons zl_10_193 (zLKs_cons zl_10_196 (zLKs_cons zl_10_205 (zLKs_cons zl_10_211 (zLKs_cons zl_10_217 (zLKs_cons zl_10_221 (zLKs_cons zl_10_224 (zLKs_cons zl_10_227 (zLKs_cons zl_10_231 (zLKs_cons zl_10_234 (zLKs_cons zl_10_237 (zLKs_cons zl_10_242 (zLKs_cons zl_10_246 (zLKs_cons zl_10_250 (zLKs_cons zl_10_253 (zLKs_cons zl_10_257 (zLKs_cons zl_10_261 (zLKs_cons zl_10_264 (zLKs_cons zl_10_267 (zLKs_cons zl_10_270 (zLKs_cons zl_10_273 (zLKs_cons zl_10_277 (zLKs_cons zl_10_281 (zLKs_cons zl_10_284 (zLKs_cons zl_10_287 (zLKs_cons zl_10_290 (zLKs_cons zl_10_293 (zLKs_cons zl_10_296 (zLKs_cons zl_10_298 (zLKs_cons zl_10_301 (zLKs_cons zl_10_304 (zLKs_cons zl_10_307 (zLKs_cons zl_10_310 (zLKs_cons zl_10_313 (zLKs_cons zl_10_317 (zLKs_cons zl_10_320 (zLKs_cons zl_10_323 (zLKs_cons zl_10_326 (zLKs_cons zl_10_329 (zLKs_cons zl_10_332 (zLKs_cons zl_10_336 (zLKs_cons zl_10_339 (zLKs_cons zl_10_340 (zLKs_cons zl_10_344 (zLKs_cons zl_10_345 (zLKs_cons zl_10_348 (zLKs_cons zl_10_352 (zLKs_cons zl_10_356 (zLKs_cons zl_10_360 (zLKs_cons zl_10_363 (zLKs_cons zl_10_366 (zLKs_cons zl_10_367 (zLKs_cons zl_10_370 (zLKs_cons zl_10_373 (zLKs_cons zl_10_377 (zLKs_cons zl_10_378 (zLKs_cons zl_10_380 (zLKs_cons zl_10_381 (zLKs_cons zl_10_382 (zLKs_cons zl_10_385 (zLKs_cons zl_10_389 (zLKs_cons zl_10_392 (zLKs_nil))))))))))))))))))))))))))))))))))))))))))))))))))))))))))))))))))))))))))))))))))))))))))))))))))))))))))))
theorem zl_11_1 : zLK zTs RX11 1 (0, 11, 0, 0, 0, 0, 0) := ⟨RX11, TX11, 46, tyX11, rfl, (by decide +kernel), rfl, (by decide +kernel), zcw11, (tm6 65 rfl rfl), tyX11_ok, nmX11, zfk_0 rfl rfl rfl⟩
theorem zl_11_7 : zLK zTs RX11 7 (0, 11, 2, 0, 0, 0, 0) := ⟨RX11, TX11, 46, tyX11, rfl, (by decide +kernel), rfl, (by decide +kernel), zcw11, (tm6 67 rfl rfl), tyX11_ok, nmX11, zfk_0 rfl rfl rfl⟩
theorem zl_11_10 : zLK zTs RX11 10 (1, 153, 2, 0, 12, 0, 0) := zLK1 zmt_153 (zLMv rfl (tm6 25 rfl rfl) zia_153 zse_153 rfl znp_153 rfl) zmo_153
theorem zl_11_14 : zLK zTs RX11 14 (0, 11, 1, 0, 0, 0, 0) := ⟨RX11, TX11, 46, tyX11, rfl, (by decide +kernel), rfl, (by decide +kernel), zcw11, (tm6 66 rfl rfl), tyX11_ok, nmX11, zfk_4 1 rfl⟩
theorem zl_11_18 : zLK zTs RX11 18 (0, 11, 3, 0, 0, 0, 0) := ⟨RX11, TX11, 46, tyX11, rfl, (by decide +kernel), rfl, (by decide +kernel), zcw11, (tm6 68 rfl rfl), tyX11_ok, nmX11, zfk_0 rfl rfl rfl⟩
theorem zl_11_21 : zLK zTs RX11 21 (0, 11, 4, 0, 0, 0, 0) := ⟨RX11, TX11, 46, tyX11, rfl, (by decide +kernel), rfl, (by decide +kernel), zcw11, (tm6 69 rfl rfl), tyX11_ok, nmX11, zfk_0 rfl rfl rfl⟩
theorem zl_11_24 : zLK zTs RX11 24 (0, 11, 5, 0, 0, 0, 0) := ⟨RX11, TX11, 46, tyX11, rfl, (by decide +kernel), rfl, (by decide +kernel), zcw11, (tm6 70 rfl rfl), tyX11_ok, nmX11, zfk_0 rfl rfl rfl⟩
theorem zl_11_33 : zLK zTs RX11 33 (0, 11, 6, 0, 0, 0, 0) := ⟨RX11, TX11, 46, tyX11, rfl, (by decide +kernel), rfl, (by decide +kernel), zcw11, (tm6 71 rfl rfl), tyX11_ok, nmX11, zfk_4 1 rfl⟩
theorem zl_11_37 : zLK zTs RX11 37 (0, 11, 7, 0, 0, 0, 0) := ⟨RX11, TX11, 46, tyX11, rfl, (by decide +kernel), rfl, (by decide +kernel), zcw11, (tm6 72 rfl rfl), tyX11_ok, nmX11, zfk_4 1 rfl⟩
theorem zl_11_40 : zLK zTs RX11 40 (0, 11, 8, 0, 0, 0, 0) := ⟨RX11, TX11, 46, tyX11, rfl, (by decide +kernel), rfl, (by decide +kernel), zcw11, (tm6 73 rfl rfl), tyX11_ok, nmX11, zfk_4 1 rfl⟩
theorem zl_11_43 : zLK zTs RX11 43 (0, 11, 9, 0, 0, 0, 0) := ⟨RX11, TX11, 46, tyX11, rfl, (by decide +kernel), rfl, (by decide +kernel), zcw11, (tm6 74 rfl rfl), tyX11_ok, nmX11, zfk_4 1 rfl⟩
theorem zl_11_47 : zLK zTs RX11 47 (0, 11, 10, 0, 0, 0, 0) := ⟨RX11, TX11, 46, tyX11, rfl, (by decide +kernel), rfl, (by decide +kernel), zcw11, (tm6 75 rfl rfl), tyX11_ok, nmX11, zfk_4 1 rfl⟩
theorem zl_11_50 : zLK zTs RX11 50 (0, 11, 20, 0, 0, 0, 0) := ⟨RX11, TX11, 46, tyX11, rfl, (by decide +kernel), rfl, (by decide +kernel), zcw11, (tm6 85 rfl rfl), tyX11_ok, nmX11, zfk_4 1 rfl⟩
theorem zl_11_53 : zLK zTs RX11 53 (0, 11, 21, 0, 0, 0, 0) := ⟨RX11, TX11, 46, tyX11, rfl, (by decide +kernel), rfl, (by decide +kernel), zcw11, (tm6 86 rfl rfl), tyX11_ok, nmX11, zfk_4 1 rfl⟩
theorem zl_11_56 : zLK zTs RX11 56 (0, 11, 22, 0, 0, 0, 0) := ⟨RX11, TX11, 46, tyX11, rfl, (by decide +kernel), rfl, (by decide +kernel), zcw11, (tm6 87 rfl rfl), tyX11_ok, nmX11, zfk_4 1 rfl⟩
theorem zl_11_59 : zLK zTs RX11 59 (0, 11, 25, 0, 0, 0, 0) := ⟨RX11, TX11, 46, tyX11, rfl, (by decide +kernel), rfl, (by decide +kernel), zcw11, (tm6 90 rfl rfl), tyX11_ok, nmX11, zfk_4 1 rfl⟩
theorem zl_11_62 : zLK zTs RX11 62 (0, 11, 26, 0, 0, 0, 0) := ⟨RX11, TX11, 46, tyX11, rfl, (by decide +kernel), rfl, (by decide +kernel), zcw11, (tm6 91 rfl rfl), tyX11_ok, nmX11, zfk_4 1 rfl⟩
theorem zl_11_65 : zLK zTs RX11 65 (0, 11, 28, 0, 0, 0, 0) := ⟨RX11, TX11, 46, tyX11, rfl, (by decide +kernel), rfl, (by decide +kernel), zcw11, (tm6 93 rfl rfl), tyX11_ok, nmX11, zfk_4 1 rfl⟩
theorem zl_11_68 : zLK zTs RX11 68 (0, 11, 34, 0, 0, 0, 0) := ⟨RX11, TX11, 46, tyX11, rfl, (by decide +kernel), rfl, (by decide +kernel), zcw11, (tm6 99 rfl rfl), tyX11_ok, nmX11, zfk_4 1 rfl⟩
theorem zl_11_71 : zLK zTs RX11 71 (0, 11, 36, 0, 0, 0, 0) := ⟨RX11, TX11, 46, tyX11, rfl, (by decide +kernel), rfl, (by decide +kernel), zcw11, (tm6 101 rfl rfl), tyX11_ok, nmX11, zfk_4 1 rfl⟩
theorem zl_11_74 : zLK zTs RX11 74 (0, 11, 42, 0, 0, 0, 0) := ⟨RX11, TX11, 46, tyX11, rfl, (by decide +kernel), rfl, (by decide +kernel), zcw11, (tm6 107 rfl rfl), tyX11_ok, nmX11, zfk_4 1 rfl⟩
theorem zl_11_78 : zLK zTs RX11 78 (0, 11, 43, 0, 0, 0, 0) := ⟨RX11, TX11, 46, tyX11, rfl, (by decide +kernel), rfl, (by decide +kernel), zcw11, (tm6 108 rfl rfl), tyX11_ok, nmX11, zfk_4 1 rfl⟩
theorem zl_11_81 : zLK zTs RX11 81 (0, 11, 44, 0, 0, 0, 0) := ⟨RX11, TX11, 46, tyX11, rfl, (by decide +kernel), rfl, (by decide +kernel), zcw11, (tm6 109 rfl rfl), tyX11_ok, nmX11, zfk_4 1 rfl⟩
theorem zl_11_84 : zLK zTs RX11 84 (0, 11, 45, 0, 0, 0, 0) := ⟨RX11, TX11, 46, tyX11, rfl, (by decide +kernel), rfl, (by decide +kernel), zcw11, (tm6 110 rfl rfl), tyX11_ok, nmX11, zfk_4 1 rfl⟩
theorem zl_11_87 : zLK zTs RX11 87 (4, 0, 0, 0, 0, 0, 1852798318) := ⟨⟨by decide, by decide⟩, (tm6 39 rfl rfl)⟩
theorem zl_11_89 : zLK zTs RX11 89 (4, 0, 0, 0, 0, 0, 1986359906) := ⟨⟨by decide, by decide⟩, (tm6 40 rfl rfl)⟩
theorem zl_11_91 : zLK zTs RX11 91 (4, 0, 0, 0, 0, 0, 1818848101) := ⟨⟨by decide, by decide⟩, (tm6 41 rfl rfl)⟩
theorem zl_11_93 : zLK zTs RX11 93 (4, 0, 0, 0, 0, 0, 1937010544) := ⟨⟨by decide, by decide⟩, (tm6 42 rfl rfl)⟩
theorem zl_11_95 : zLK zTs RX11 95 (4, 0, 0, 0, 0, 0, 491327153000) := ⟨⟨by decide, by decide⟩, (tm6 43 rfl rfl)⟩
theorem zl_11_97 : zLK zTs RX11 97 (4, 0, 0, 0, 0, 0, 1768846447) := ⟨⟨by decide, by decide⟩, (tm6 44 rfl rfl)⟩
theorem zl_11_99 : zLK zTs RX11 99 (4, 0, 0, 0, 0, 0, 1935767923) := ⟨⟨by decide, by decide⟩, (tm6 45 rfl rfl)⟩
theorem zl_11_101 : zLK zTs RX11 101 (4, 0, 0, 0, 0, 0, 111481940373362) := ⟨⟨by decide, by decide⟩, (tm6 46 rfl rfl)⟩
theorem zl_11_103 : zLK zTs RX11 103 (4, 0, 0, 0, 0, 0, 126943972911973) := ⟨⟨by decide, by decide⟩, (tm6 47 rfl rfl)⟩
theorem zl_11_105 : zLK zTs RX11 105 (4, 0, 0, 0, 0, 0, 1953854062) := ⟨⟨by decide, by decide⟩, (tm6 48 rfl rfl)⟩
theorem zl_11_107 : zLK zTs RX11 107 (4, 0, 0, 0, 0, 0, 1953462126) := ⟨⟨by decide, by decide⟩, (tm6 49 rfl rfl)⟩
theorem zl_11_109 : zLK zTs RX11 109 (4, 0, 0, 0, 0, 0, 499851162725) := ⟨⟨by decide, by decide⟩, (tm6 50 rfl rfl)⟩
theorem zl_11_111 : zLK zTs RX11 111 (4, 0, 0, 0, 0, 0, 6578553) := ⟨⟨by decide, by decide⟩, (tm6 51 rfl rfl)⟩
theorem zl_11_113 : zLK zTs RX11 113 (4, 0, 0, 0, 0, 0, 491327153267) := ⟨⟨by decide, by decide⟩, (tm6 52 rfl rfl)⟩
theorem zl_11_115 : zLK zTs RX11 115 (4, 0, 0, 0, 0, 0, 1852796517) := ⟨⟨by decide, by decide⟩, (tm6 53 rfl rfl)⟩
theorem zl_11_117 : zLK zTs RX11 117 (4, 0, 0, 0, 0, 0, 512735536499) := ⟨⟨by decide, by decide⟩, (tm6 54 rfl rfl)⟩
theorem zl_11_119 : zLK zTs RX11 119 (4, 0, 0, 0, 0, 0, 126909394808947) := ⟨⟨by decide, by decide⟩, (tm6 55 rfl rfl)⟩
theorem zl_11_121 : zLK zTs RX11 121 (4, 0, 0, 0, 0, 0, 28530) := ⟨⟨by decide, by decide⟩, (tm6 56 rfl rfl)⟩
theorem zl_11_123 : zLK zTs RX11 123 (4, 0, 0, 0, 0, 0, 6385252) := ⟨⟨by decide, by decide⟩, (tm6 57 rfl rfl)⟩
theorem zl_11_125 : zLK zTs RX11 125 (4, 0, 0, 0, 0, 0, 7237492) := ⟨⟨by decide, by decide⟩, (tm6 58 rfl rfl)⟩
theorem zl_11_127 : zLK zTs RX11 127 (4, 0, 0, 0, 0, 0, 28526) := ⟨⟨by decide, by decide⟩, (tm6 59 rfl rfl)⟩
theorem zl_11_129 : zLK zTs RX11 129 (4, 0, 0, 0, 0, 0, 495622976357) := ⟨⟨by decide, by decide⟩, (tm6 60 rfl rfl)⟩
theorem zl_11_131 : zLK zTs RX11 131 (4, 0, 0, 0, 0, 0, 24948) := ⟨⟨by decide, by decide⟩, (tm6 61 rfl rfl)⟩
theorem zl_11_133 : zLK zTs RX11 133 (4, 0, 0, 0, 0, 0, 512970876019) := ⟨⟨by decide, by decide⟩, (tm6 62 rfl rfl)⟩
theorem zl_11_135 : zLK zTs RX11 135 (4, 0, 0, 0, 0, 0, 465625113956) := ⟨⟨by decide, by decide⟩, (tm6 63 rfl rfl)⟩
theorem zl_11_137 : zLK zTs RX11 137 (4, 0, 0, 0, 0, 0, 121450625394034) := ⟨⟨by decide, by decide⟩, (tm6 64 rfl rfl)⟩
theorem zl_11_139 : zLK zTs RX11 139 (1, 159, 1, 1, 12, 0, 0) := zLK1 zmt_159 (zLMv rfl (tm6 218 rfl rfl) zia_159 zse_159 rfl znp_159 rfl) zmo_159
theorem zl_11_143 : zLK zTs RX11 143 (0, 11, 12, 0, 0, 0, 0) := ⟨RX11, TX11, 46, tyX11, rfl, (by decide +kernel), rfl, (by decide +kernel), zcw11, (tm6 77 rfl rfl), tyX11_ok, nmX11, zfk_0 rfl rfl rfl⟩
theorem zl_11_146 : zLK zTs RX11 146 (0, 11, 13, 0, 0, 0, 0) := ⟨RX11, TX11, 46, tyX11, rfl, (by decide +kernel), rfl, (by decide +kernel), zcw11, (tm6 78 rfl rfl), tyX11_ok, nmX11, zfk_0 rfl rfl rfl⟩
theorem zl_11_149 : zLK zTs RX11 149 (0, 11, 11, 0, 0, 0, 0) := ⟨RX11, TX11, 46, tyX11, rfl, (by decide +kernel), rfl, (by decide +kernel), zcw11, (tm6 76 rfl rfl), tyX11_ok, nmX11, zfk_0 rfl rfl rfl⟩
theorem zl_11_152 : zLK zTs RX11 152 (1, 160, 1, 3, 0, 0, 0) := zLK1 zmt_160 (zLMs rfl (tm6 222 rfl rfl) zst_160 znp_160) zmo_160
theorem zl_11_156 : zLK zTs RX11 156 (1, 161, 1, 3, 0, 0, 0) := zLK1 zmt_161 (zLMs rfl (tm6 225 rfl rfl) zst_161 znp_161) zmo_161
theorem zl_11_159 : zLK zTs RX11 159 (0, 11, 14, 0, 0, 0, 0) := ⟨RX11, TX11, 46, tyX11, rfl, (by decide +kernel), rfl, (by decide +kernel), zcw11, (tm6 79 rfl rfl), tyX11_ok, nmX11, zfk_0 rfl rfl rfl⟩
theorem zl_11_162 : zLK zTs RX11 162 (0, 11, 17, 0, 0, 0, 0) := ⟨RX11, TX11, 46, tyX11, rfl, (by decide +kernel), rfl, (by decide +kernel), zcw11, (tm6 82 rfl rfl), tyX11_ok, nmX11, zfk_1 rfl rfl rfl⟩
theorem zl_11_166 : zLK zTs RX11 166 (0, 11, 15, 0, 0, 0, 0) := ⟨RX11, TX11, 46, tyX11, rfl, (by decide +kernel), rfl, (by decide +kernel), zcw11, (tm6 80 rfl rfl), tyX11_ok, nmX11, zfk_0 rfl rfl rfl⟩
theorem zl_11_169 : zLK zTs RX11 169 (0, 11, 16, 0, 0, 0, 0) := ⟨RX11, TX11, 46, tyX11, rfl, (by decide +kernel), rfl, (by decide +kernel), zcw11, (tm6 81 rfl rfl), tyX11_ok, nmX11, zfk_0 rfl rfl rfl⟩
theorem zl_11_172 : zLK zTs RX11 172 (1, 165, 2, 3, 12, 0, 0) := zLK1 zmt_165 (zLMv rfl (tm7 39 rfl rfl) zia_165 zse_165 rfl znp_165 rfl) zmo_165
theorem zl_11_175 : zLK zTs RX11 175 (1, 163, 2, 3, 12, 0, 0) := zLK1 zmt_163 (zLMv rfl (tm7 0 rfl rfl) zia_163 zse_163 rfl znp_163 rfl) zmo_163
theorem zl_11_178 : zLK zTs RX11 178 (1, 162, 1, 0, 12, 1, 0) := zLK1 zmt_162 (zLMv rfl (tm6 214 rfl rfl) zia_162 zse_162 rfl znp_162 rfl) zmo_162
theorem zl_11_181 : zLK zTs RX11 181 (1, 156, 3, 3, 0, 0, 0) := zLK1 zmt_156 (zLMs rfl (tm7 24 rfl rfl) zst_156 znp_156) zmo_156
theorem zl_11_185 : zLK zTs RX11 185 (0, 11, 18, 0, 0, 0, 0) := ⟨RX11, TX11, 46, tyX11, rfl, (by decide +kernel), rfl, (by decide +kernel), zcw11, (tm6 83 rfl rfl), tyX11_ok, nmX11, zfk_0 rfl rfl rfl⟩
theorem zl_11_188 : zLK zTs RX11 188 (1, 167, 1, 3, 12, 0, 0) := zLK1 zmt_167 (zLMv rfl (tm7 8 rfl rfl) zia_167 zse_167 rfl znp_167 rfl) zmo_167
theorem zl_11_192 : zLK zTs RX11 192 (1, 169, 3, 1, 12, 0, 0) := zLK1 zmt_169 (zLMv rfl (tm7 12 rfl rfl) zia_169 zse_169 rfl znp_169 rfl) zmo_169
theorem zl_11_196 : zLK zTs RX11 196 (1, 171, 3, 3, 12, 1, 0) := zLK1 zmt_171 (zLMv rfl (tm7 31 rfl rfl) zia_171 zse_171 rfl znp_171 rfl) zmo_171
theorem zl_11_200 : zLK zTs RX11 200 (1, 164, 2, 3, 12, 0, 0) := zLK1 zmt_164 (zLMv rfl (tm6 236 rfl rfl) zia_164 zse_164 rfl znp_164 rfl) zmo_164
theorem zl_11_204 : zLK zTs RX11 204 (1, 174, 1, 1, 12, 1, 0) := zLK1 zmt_174 (zLMv rfl (tm6 232 rfl rfl) zia_174 zse_174 rfl znp_174 rfl) zmo_174
theorem zl_11_207 : zLK zTs RX11 207 (1, 170, 2, 3, 12, 2, 0) := zLK1 zmt_170 (zLMv rfl (tm7 4 rfl rfl) zia_170 zse_170 rfl znp_170 rfl) zmo_170
theorem zl_11_210 : zLK zTs RX11 210 (1, 176, 1, 3, 12, 3, 0) := zLK1 zmt_176 (zLMv rfl (tm7 16 rfl rfl) zia_176 zse_176 rfl znp_176 rfl) zmo_176
theorem zl_11_213 : zLK zTs RX11 213 (1, 177, 1, 3, 12, 3, 0) := zLK1 zmt_177 (zLMv rfl (tm7 35 rfl rfl) zia_177 zse_177 rfl znp_177 rfl) zmo_177
theorem zl_11_216 : zLK zTs RX11 216 (1, 178, 5, 3, 12, 3, 0) := zLK1 zmt_178 (zLMv rfl (tm7 47 rfl rfl) zia_178 zse_178 rfl znp_178 rfl) zmo_178
theorem zl_11_220 : zLK zTs RX11 220 (1, 179, 1, 3, 12, 3, 0) := zLK1 zmt_179 (zLMv rfl (tm7 51 rfl rfl) zia_179 zse_179 rfl znp_179 rfl) zmo_179
theorem zl_11_223 : zLK zTs RX11 223 (1, 172, 1, 3, 12, 2, 0) := zLK1 zmt_172 (zLMv rfl (tm7 43 rfl rfl) zia_172 zse_172 rfl znp_172 rfl) zmo_172
theorem zl_11_226 : zLK zTs RX11 226 (1, 168, 3, 3, 12, 2, 0) := zLK1 zmt_168 (zLMv rfl (tm7 20 rfl rfl) zia_168 zse_168 rfl znp_168 rfl) zmo_168
theorem zl_11_229 : zLK zTs RX11 229 (1, 173, 1, 3, 12, 2, 0) := zLK1 zmt_173 (zLMv rfl (tm7 27 rfl rfl) zia_173 zse_173 rfl znp_173 rfl) zmo_173
theorem zl_11_232 : zLK zTs RX11 232 (1, 155, 2, 0, 12, 0, 0) := zLK1 zmt_155 (zLMv rfl (tm6 210 rfl rfl) zia_155 zse_155 rfl znp_155 rfl) zmo_155
theorem zl_11_235 : zLK zTs RX11 235 (0, 11, 19, 0, 0, 0, 0) := ⟨RX11, TX11, 46, tyX11, rfl, (by decide +kernel), rfl, (by decide +kernel), zcw11, (tm6 84 rfl rfl), tyX11_ok, nmX11, zfk_0 rfl rfl rfl⟩
theorem zl_11_238 : zLK zTs RX11 238 (1, 175, 1, 3, 12, 4, 0) := zLK1 zmt_175 (zLMv rfl (tm6 228 rfl rfl) zia_175 zse_175 rfl znp_175 rfl) zmo_175
theorem zl_11_241 : zLK zTs RX11 241 (1, 166, 2, 3, 12, 2, 0) := zLK1 zmt_166 (zLMv rfl (tm7 55 rfl rfl) zia_166 zse_166 rfl znp_166 rfl) zmo_166
theorem zl_11_244 : zLK zTs RX11 244 (0, 11, 23, 0, 0, 0, 0) := ⟨RX11, TX11, 46, tyX11, rfl, (by decide +kernel), rfl, (by decide +kernel), zcw11, (tm6 88 rfl rfl), tyX11_ok, nmX11, zfk_0 rfl rfl rfl⟩
theorem zl_11_247 : zLK zTs RX11 247 (1, 183, 2, 3, 12, 1, 0) := zLK1 zmt_183 (zLMv rfl (tm7 75 rfl rfl) zia_183 zse_183 rfl znp_183 rfl) zmo_183
theorem zl_11_250 : zLK zTs RX11 250 (1, 182, 2, 3, 12, 1, 0) := zLK1 zmt_182 (zLMv rfl (tm7 67 rfl rfl) zia_182 zse_182 rfl znp_182 rfl) zmo_182
theorem zl_11_253 : zLK zTs RX11 253 (1, 188, 3, 1, 12, 0, 0) := zLK1 zmt_188 (zLMv rfl (tm7 79 rfl rfl) zia_188 zse_188 rfl znp_188 rfl) zmo_188
theorem zl_11_256 : zLK zTs RX11 256 (1, 186, 3, 3, 12, 2, 0) := zLK1 zmt_186 (zLMv rfl (tm7 87 rfl rfl) zia_186 zse_186 rfl znp_186 rfl) zmo_186
theorem zl_11_259 : zLK zTs RX11 259 (1, 151, 2, 3, 12, 0, 0) := zLK1 zmt_151 (zLMv rfl (tm7 91 rfl rfl) zia_151 zse_151 rfl znp_151 rfl) zmo_151
theorem zl_11_263 : zLK zTs RX11 263 (1, 184, 2, 3, 12, 1, 0) := zLK1 zmt_184 (zLMv rfl (tm7 99 rfl rfl) zia_184 zse_184 rfl znp_184 rfl) zmo_184
theorem zl_11_266 : zLK zTs RX11 266 (1, 157, 2, 3, 0, 0, 0) := zLK1 zmt_157 (zLMs rfl (tm7 103 rfl rfl) zst_157 znp_157) zmo_157
theorem zl_11_269 : zLK zTs RX11 269 (1, 192, 3, 1, 12, 0, 0) := zLK1 zmt_192 (zLMv rfl (tm7 110 rfl rfl) zia_192 zse_192 rfl znp_192 rfl) zmo_192
theorem zl_11_272 : zLK zTs RX11 272 (1, 194, 3, 1, 12, 0, 0) := zLK1 zmt_194 (zLMv rfl (tm7 126 rfl rfl) zia_194 zse_194 rfl znp_194 rfl) zmo_194
theorem zl_11_275 : zLK zTs RX11 275 (1, 185, 2, 3, 12, 1, 0) := zLK1 zmt_185 (zLMv rfl (tm7 118 rfl rfl) zia_185 zse_185 rfl znp_185 rfl) zmo_185
theorem zl_11_278 : zLK zTs RX11 278 (1, 196, 2, 1, 12, 1, 0) := zLK1 zmt_196 (zLMv rfl (tm7 122 rfl rfl) zia_196 zse_196 rfl znp_196 rfl) zmo_196
theorem zl_11_282 : zLK zTs RX11 282 (1, 195, 4, 1, 12, 1, 0) := zLK1 zmt_195 (zLMv rfl (tm7 130 rfl rfl) zia_195 zse_195 rfl znp_195 rfl) zmo_195
theorem zl_11_286 : zLK zTs RX11 286 (1, 199, 2, 1, 12, 1, 0) := zLK1 zmt_199 (zLMv rfl (tm7 154 rfl rfl) zia_199 zse_199 rfl znp_199 rfl) zmo_199
theorem zl_11_289 : zLK zTs RX11 289 (1, 200, 2, 0, 12, 1, 0) := zLK1 zmt_200 (zLMv rfl (tm7 158 rfl rfl) zia_200 zse_200 rfl znp_200 rfl) zmo_200
theorem zl_11_292 : zLK zTs RX11 292 (1, 201, 1, 0, 12, 2, 0) := zLK1 zmt_201 (zLMv rfl (tm7 150 rfl rfl) zia_201 zse_201 rfl znp_201 rfl) zmo_201
theorem zl_11_295 : zLK zTs RX11 295 (1, 206, 1, 0, 12, 0, 0) := zLK1 zmt_206 (zLMv rfl (tm7 142 rfl rfl) zia_206 zse_206 rfl znp_206 rfl) zmo_206
theorem zl_11_298 : zLK zTs RX11 298 (1, 202, 2, 1, 12, 3, 0) := zLK1 zmt_202 (zLMv rfl (tm7 146 rfl rfl) zia_202 zse_202 rfl znp_202 rfl) zmo_202
theorem zl_11_301 : zLK zTs RX11 301 (0, 11, 24, 0, 0, 0, 0) := ⟨RX11, TX11, 46, tyX11, rfl, (by decide +kernel), rfl, (by decide +kernel), zcw11, (tm6 89 rfl rfl), tyX11_ok, nmX11, zfk_0 rfl rfl rfl⟩
theorem zl_11_304 : zLK zTs RX11 304 (1, 211, 2, 1, 0, 0, 0) := zLK1 zmt_211 (zLMs rfl (tm7 186 rfl rfl) zst_211 znp_211) zmo_211
theorem zl_11_307 : zLK zTs RX11 307 (1, 212, 2, 1, 12, 1, 0) := zLK1 zmt_212 (zLMv rfl (tm7 182 rfl rfl) zia_212 zse_212 rfl znp_212 rfl) zmo_212
theorem zl_11_310 : zLK zTs RX11 310 (1, 216, 2, 1, 12, 0, 0) := zLK1 zmt_216 (zLMv rfl (tm7 201 rfl rfl) zia_216 zse_216 rfl znp_216 rfl) zmo_216
theorem zl_11_313 : zLK zTs RX11 313 (1, 218, 2, 1, 12, 1, 0) := zLK1 zmt_218 (zLMv rfl (tm7 209 rfl rfl) zia_218 zse_218 rfl znp_218 rfl) zmo_218
theorem zl_11_316 : zLK zTs RX11 316 (1, 220, 4, 1, 12, 1, 0) := zLK1 zmt_220 (zLMv rfl (tm7 225 rfl rfl) zia_220 zse_220 rfl znp_220 rfl) zmo_220
theorem zl_11_320 : zLK zTs RX11 320 (1, 222, 2, 3, 12, 2, 0) := zLK1 zmt_222 (zLMv rfl (tm7 217 rfl rfl) zia_222 zse_222 rfl znp_222 rfl) zmo_222
theorem zl_11_323 : zLK zTs RX11 323 (1, 221, 3, 1, 12, 2, 0) := zLK1 zmt_221 (zLMv rfl (tm7 221 rfl rfl) zia_221 zse_221 rfl znp_221 rfl) zmo_221
theorem zl_11_326 : zLK zTs RX11 326 (1, 158, 2, 1, 12, 0, 0) := zLK1 zmt_158 (zLMv rfl (tm7 237 rfl rfl) zia_158 zse_158 rfl znp_158 rfl) zmo_158
theorem zl_11_329 : zLK zTs RX11 329 (1, 225, 2, 3, 12, 1, 0) := zLK1 zmt_225 (zLMv rfl (tm7 233 rfl rfl) zia_225 zse_225 rfl znp_225 rfl) zmo_225
theorem zl_11_332 : zLK zTs RX11 332 (4, 0, 0, 0, 0, 0, (-1)) := ⟨⟨by decide, by decide⟩, (tm8 1 rfl rfl)⟩
theorem zl_11_334 : zLK zTs RX11 334 (1, 224, 2, 1, 12, 1, 0) := zLK1 zmt_224 (zLMv rfl (tm8 2 rfl rfl) zia_224 zse_224 rfl znp_224 rfl) zmo_224
theorem zl_11_337 : zLK zTs RX11 337 (0, 11, 27, 0, 0, 0, 0) := ⟨RX11, TX11, 46, tyX11, rfl, (by decide +kernel), rfl, (by decide +kernel), zcw11, (tm6 92 rfl rfl), tyX11_ok, nmX11, zfk_0 rfl rfl rfl⟩
theorem zl_11_340 : zLK zTs RX11 340 (1, 229, 2, 1, 12, 0, 0) := zLK1 zmt_229 (zLMv rfl (tm8 18 rfl rfl) zia_229 zse_229 rfl znp_229 rfl) zmo_229
theorem zl_11_343 : zLK zTs RX11 343 (1, 208, 1, 0, 12, 0, 0) := zLK1 zmt_208 (zLMv rfl (tm8 30 rfl rfl) zia_208 zse_208 rfl znp_208 rfl) zmo_208
theorem zl_11_346 : zLK zTs RX11 346 (1, 209, 1, 0, 12, 0, 0) := zLK1 zmt_209 (zLMv rfl (tm8 34 rfl rfl) zia_209 zse_209 rfl znp_209 rfl) zmo_209
theorem zl_11_349 : zLK zTs RX11 349 (1, 231, 3, 0, 12, 4, 0) := zLK1 zmt_231 (zLMv rfl (tm8 26 rfl rfl) zia_231 zse_231 rfl znp_231 rfl) zmo_231
theorem zl_11_353 : zLK zTs RX11 353 (0, 11, 29, 0, 0, 0, 0) := ⟨RX11, TX11, 46, tyX11, rfl, (by decide +kernel), rfl, (by decide +kernel), zcw11, (tm6 94 rfl rfl), tyX11_ok, nmX11, zfk_0 rfl rfl rfl⟩
theorem zl_11_356 : zLK zTs RX11 356 (3, 0, 0, 0, 0, 0, 1103515245) := ⟨⟨by decide, by decide⟩, (tm8 74 rfl rfl)⟩
theorem zl_11_357 : zLK zTs RX11 357 (0, 11, 30, 0, 0, 0, 0) := ⟨RX11, TX11, 46, tyX11, rfl, (by decide +kernel), rfl, (by decide +kernel), zcw11, (tm6 95 rfl rfl), tyX11_ok, nmX11, zfk_0 rfl rfl rfl⟩
theorem zl_11_360 : zLK zTs RX11 360 (1, 239, 2, 1, 12, 0, 0) := zLK1 zmt_239 (zLMv rfl (tm8 70 rfl rfl) zia_239 zse_239 rfl znp_239 rfl) zmo_239
theorem zl_11_363 : zLK zTs RX11 363 (1, 240, 3, 1, 12, 3, 0) := zLK1 zmt_240 (zLMv rfl (tm8 66 rfl rfl) zia_240 zse_240 rfl znp_240 rfl) zmo_240
theorem zl_11_366 : zLK zTs RX11 366 (0, 11, 32, 0, 0, 0, 0) := ⟨RX11, TX11, 46, tyX11, rfl, (by decide +kernel), rfl, (by decide +kernel), zcw11, (tm6 97 rfl rfl), tyX11_ok, nmX11, zfk_2 rfl rfl rfl⟩
theorem zl_11_370 : zLK zTs RX11 370 (0, 11, 31, 0, 0, 0, 0) := ⟨RX11, TX11, 46, tyX11, rfl, (by decide +kernel), rfl, (by decide +kernel), zcw11, (tm6 96 rfl rfl), tyX11_ok, nmX11, zfk_0 rfl rfl rfl⟩
theorem zl_11_373 : zLK zTs RX11 373 (0, 11, 33, 0, 0, 0, 0) := ⟨RX11, TX11, 46, tyX11, rfl, (by decide +kernel), rfl, (by decide +kernel), zcw11, (tm6 98 rfl rfl), tyX11_ok, nmX11, zfk_0 rfl rfl rfl⟩
theorem zl_11_376 : zLK zTs RX11 376 (1, 244, 1, 3, 12, 3, 0) := zLK1 zmt_244 (zLMv rfl (tm8 87 rfl rfl) zia_244 zse_244 rfl znp_244 rfl) zmo_244
theorem zl_11_379 : zLK zTs RX11 379 (1, 245, 2, 1, 12, 4, 0) := zLK1 zmt_245 (zLMv rfl (tm8 91 rfl rfl) zia_245 zse_245 rfl znp_245 rfl) zmo_245
theorem zl_11_382 : zLK zTs RX11 382 (0, 11, 35, 0, 0, 0, 0) := ⟨RX11, TX11, 46, tyX11, rfl, (by decide +kernel), rfl, (by decide +kernel), zcw11, (tm6 100 rfl rfl), tyX11_ok, nmX11, zfk_2 rfl rfl rfl⟩
theorem zl_11_385 : zLK zTs RX11 385 (0, 11, 37, 0, 0, 0, 0) := ⟨RX11, TX11, 46, tyX11, rfl, (by decide +kernel), rfl, (by decide +kernel), zcw11, (tm6 102 rfl rfl), tyX11_ok, nmX11, zfk_0 rfl rfl rfl⟩
theorem zl_11_388 : zLK zTs RX11 388 (0, 11, 39, 0, 0, 0, 0) := ⟨RX11, TX11, 46, tyX11, rfl, (by decide +kernel), rfl, (by decide +kernel), zcw11, (tm6 104 rfl rfl), tyX11_ok, nmX11, zfk_0 rfl rfl rfl⟩
theorem zl_11_391 : zLK zTs RX11 391 (1, 248, 4, 0, 12, 0, 0) := zLK1 zmt_248 (zLMv rfl (tm8 107 rfl rfl) zia_248 zse_248 rfl znp_248 rfl) zmo_248
theorem zl_11_395 : zLK zTs RX11 395 (0, 11, 40, 0, 0, 0, 0) := ⟨RX11, TX11, 46, tyX11, rfl, (by decide +kernel), rfl, (by decide +kernel), zcw11, (tm6 105 rfl rfl), tyX11_ok, nmX11, zfk_0 rfl rfl rfl⟩
theorem zl_11_398 : zLK zTs RX11 398 (1, 251, 1, 1, 12, 1, 0) := zLK1 zmt_251 (zLMv rfl (tm8 123 rfl rfl) zia_251 zse_251 rfl znp_251 rfl) zmo_251
theorem zl_11_401 : zLK zTs RX11 401 (0, 11, 38, 0, 0, 0, 0) := ⟨RX11, TX11, 46, tyX11, rfl, (by decide +kernel), rfl, (by decide +kernel), zcw11, (tm6 103 rfl rfl), tyX11_ok, nmX11, zfk_0 rfl rfl rfl⟩
theorem zl_11_404 : zLK zTs RX11 404 (0, 11, 41, 0, 0, 0, 0) := ⟨RX11, TX11, 46, tyX11, rfl, (by decide +kernel), rfl, (by decide +kernel), zcw11, (tm6 106 rfl rfl), tyX11_ok, nmX11, zfk_2 rfl rfl rfl⟩
theorem zl_11_407 : zLK zTs RX11 407 (1, 250, 1, 0, 12, 1, 0) := zLK1 zmt_250 (zLMv rfl (tm8 103 rfl rfl) zia_250 zse_250 rfl znp_250 rfl) zmo_250
theorem zl_11_410 : zLK zTs RX11 410 (1, 249, 2, 0, 12, 1, 0) := zLK1 zmt_249 (zLMv rfl (tm8 111 rfl rfl) zia_249 zse_249 rfl znp_249 rfl) zmo_249
theorem zl_11_413 : zLK zTs RX11 413 (1, 253, 1, 3, 12, 2, 0) := zLK1 zmt_253 (zLMv rfl (tm8 115 rfl rfl) zia_253 zse_253 rfl znp_253 rfl) zmo_253
theorem zl_11_415 : zLK zTs RX11 415 (1, 252, 1, 3, 12, 2, 0) := zLK1 zmt_252 (zLMv rfl (tm8 119 rfl rfl) zia_252 zse_252 rfl znp_252 rfl) zmo_252
theorem zl_11_418 : zLK zTs RX11 418 (1, 255, 5, 3, 12, 2, 0) := zLK1 zmt_255 (zLMv rfl (tm8 135 rfl rfl) zia_255 zse_255 rfl znp_255 rfl) zmo_255
theorem zl_11_421 : zLK zTs RX11 421 (1, 256, 2, 3, 12, 3, 0) := zLK1 zmt_256 (zLMv rfl (tm8 131 rfl rfl) zia_256 zse_256 rfl znp_256 rfl) zmo_256
theorem zlks_11 : zLKs RX11 zlk11 := zLKs_cons zl_11_1 (zLKs_cons zl_11_7 (zLKs_cons zl_11_10 (zLKs_cons zl_11_14 (zLKs_cons zl_11_18 (zLKs_cons zl_11_21 (zLKs_cons zl_11_24 (zLKs_cons zl_11_33 (zLKs_cons zl_11_37 (zLKs_cons zl_11_40 (zLKs_cons zl_11_43 (zLKs_cons zl_11_47 (zLKs_cons zl_11_50 (zLKs_cons zl_11_53 (zLKs_cons zl_11_56 (zLKs_cons zl_11_59 (zLKs_cons zl_11_62 (zLKs_cons zl_11_65 (zLKs_cons zl_11_68 (zLKs_cons zl_11_71 (zLKs_cons zl_11_74 (zLKs_cons zl_11_78 (zLKs_cons zl_11_81 (zLKs_cons zl_11_84 (zLKs_cons zl_11_87 (zLKs_cons zl_11_89 (zLKs_cons zl_11_91 (zLKs_cons zl_11_93 (zLKs_cons zl_11_95 (zLKs_cons zl_11_97 (zLKs_cons zl_11_99 (zLKs_cons zl_11_101 (zLKs_cons zl_11_103 (zLKs_cons zl_11_105 (zLKs_cons zl_11_107 (zLKs_cons zl_11_109 (zLKs_cons zl_11_111 (zLKs_cons zl_11_113 (zLKs_cons zl_11_115 (zLKs_cons zl_11_117 (zLKs_cons zl_11_119 (zLKs_cons zl_11_121 (zLKs_cons zl_11_123 (zLKs_cons zl_11_125 (zLKs_cons zl_11_127 (zLKs_cons zl_11_129 (zLKs_cons zl_11_131 (zLKs_cons zl_11_133 (zLKs_cons zl_11_135 (zLKs_cons zl_11_137 (zLKs_cons zl_11_139 (zLKs_cons zl_11_143 (zLKs_cons zl_11_146 (zLKs_cons zl_11_149 (zLKs_cons zl_11_152 (zLKs_cons zl_11_156 (zLKs_cons zl_11_159 (zLKs_cons zl_11_162 (zLKs_cons zl_11_166 (zLKs_cons zl_11_169 (zLKs_cons zl_11_172 (zLKs_cons zl_11_175 (zLKs_cons zl_11_178 (zLKs_cons zl_11_181 (zLKs_cons zl_11_185 (zLKs_cons zl_11_188 (zLKs_cons zl_11_192 (zLKs_cons zl_11_196 (zLKs_cons zl_11_200 (zLKs_cons zl_11_204 (zLKs_cons zl_11_207 (zLKs_cons zl_11_210 (zLKs_cons zl_11_213 (zLKs_cons zl_11_216 (zLKs_cons zl_11_220 (zLKs_cons zl_11_223 (zLKs_cons zl_11_226 (zLKs_cons zl_11_229 (zLKs_cons zl_11_232 (zLKs_cons zl_11_235 (zLKs_cons zl_11_238 (zLKs_cons zl_11_241 (zLKs_cons zl_11_244 (zLKs_cons zl_11_247 (zLKs_cons zl_11_250 (zLKs_cons zl_11_253 (zLKs_cons zl_11_256 (zLKs_cons zl_11_259 (zLKs_cons zl_11_263 (zLKs_cons zl_11_266 (zLKs_cons zl_11_269 (zLKs_cons zl_11_272 (zLKs_cons zl_11_275 (zLKs_cons zl_11_278 (zLKs_cons zl_11_282 (zLKs_cons zl_11_286 (zLKs_cons zl_11_289 (zLKs_cons zl_11_292 (zLKs_cons zl_11_295 (zLKs_cons zl_11_298 (zLKs_cons zl_11_301 (zLKs_cons zl_11_304 (zLKs_cons zl_11_307 (zLKs_cons zl_11_310 (zLKs_cons zl_11_313 (zLKs_cons zl_11_316 (zLKs_cons zl_11_320 (zLKs_cons zl_11_323 (zLKs_cons zl_11_326 (zLKs_cons zl_11_329 (zLKs_cons zl_11_332 (zLKs_cons zl_11_334 (zLKs_cons zl_11_337 (zLKs_cons zl_11_340 (zLKs_cons zl_11_343 (zLKs_cons zl_11_346 (zLKs_cons zl_11_349 (zLKs_cons zl_11_353 (zLKs_cons zl_11_356 (zLKs_cons zl_11_357 (zLKs_cons zl_11_360 (zLKs_cons zl_11_363 (zLKs_cons zl_11_366 (zLKs_cons zl_11_370 (zLKs_cons zl_11_373 (zLKs_cons zl_11_376 (zLKs_cons zl_11_379 (zLKs_cons zl_11_382 (zLKs_cons zl_11_385 (zLKs_cons zl_11_388 (zLKs_cons zl_11_391 (zLKs_cons zl_11_395 (zLKs_cons zl_11_398 (zLKs_cons zl_11_401 (zLKs_cons zl_11_404 (zLKs_cons zl_11_407 (zLKs_cons zl_11_410 (zLKs_cons zl_11_413 (zLKs_cons zl_11_415 (zLKs_cons zl_11_418 (zLKs_cons zl_11_421 (zLKs_nil)))))))))))))))))))))))))))))))))))))))))))))))))))))))))))))))))))))))))))))))))))))))))))))))))))))))))))))))))))))))))))))))))))))))))))))
theorem zlks_12 : zLKs RJ7 zlk12 := zLKs_nil
end ZTB
