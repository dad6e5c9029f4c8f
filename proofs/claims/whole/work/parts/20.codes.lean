/-! THE CODE as the class files have it (by program) -/
section ZCB
/-- what an instruction's own numbers keep -/
def zchk (pc len : Nat) (i : Instr) : Bool := match i with
  | .iconst x => Nat.beq len 1 && (decide (-128 ≤ x) && decide (x < 128))
  | .bipush x => Nat.beq len 2 && (decide (-128 ≤ x) && decide (x < 128))
  | .sipush x => Nat.beq len 3 && (decide (-32768 ≤ x) && decide (x < 32768))
  | .lconst _ => Nat.beq len 1
  | .ldc _ => Nat.beq len 2
  | .ldc_w _ => Nat.beq len 3
  | .ldc2_w _ => Nat.beq len 3
  | .iload _ => Nat.beq len 2
  | .lload _ => Nat.beq len 2
  | .aload _ => Nat.beq len 2
  | .istore _ => Nat.beq len 2
  | .lstore _ => Nat.beq len 2
  | .astore _ => Nat.beq len 2
  | .iinc _ x => Nat.beq len 3 && (decide (-128 ≤ x) && decide (x < 128))
  | .getfield _ => Nat.beq len 3
  | .putfield _ => Nat.beq len 3
  | .getstatic _ => Nat.beq len 3
  | .invokevirtual _ => Nat.beq len 3
  | .invokestatic _ => Nat.beq len 3
  | .goto o => Nat.beq len 3 && decide (0 ≤ (pc : Int) + o)
  | .ifCond _ o => Nat.beq len 3 && decide (0 ≤ (pc : Int) + o)
  | .if_icmp _ o => Nat.beq len 3 && decide (0 ≤ (pc : Int) + o)
  | .tableswitch d lo hi offs => decide (0 ≤ (pc : Int) + d) && (offs.toList.all (fun o => decide (0 ≤ (pc : Int) + o)) && decide (hi = lo + offs.toList.length - 1))
  | .lookupswitch d ps => decide (0 ≤ (pc : Int) + d) && (ps.toList.all (fun o => decide (0 ≤ (pc : Int) + o.2)) && (ps.toList.zip (ps.toList.drop 1)).all (fun (a, next) => a.1 < next.1))
  | _ => Nat.beq len 1
/-- a place of a local that is written is there -/
def zchn (nL : Nat) (i : Instr) : Bool := match i with
  | .istore k => Nat.blt k nL
  | .istore_n k => Nat.blt k.val nL
  | .astore k => Nat.blt k nL
  | .astore_n k => Nat.blt k.val nL
  | .lstore k => Nat.blt (k + 1) nL
  | .lstore_n k => Nat.blt (k.val + 1) nL
  | .iinc k _ => Nat.blt k nL
  | _ => true
def zrowb (b : ByteArray) (nL : Nat) : Nat → List zI → Bool
  | _, [] => true
  | pc, (i, len, _, _) :: tl => decide (decode b pc = .ok (i, len)) && ((zchk pc len i && zchn nL i) && zrowb b nL (pc + len) tl)

theorem zr_0 : zrowb cX0_clear 1 0 k_Acts_clear = true := by decide +kernel
theorem zr_1 : zrowb cX0_keep 2 0 k_Acts_keep = true := by decide +kernel
theorem zr_2 : zrowb cX0_forgetOldest 3 0 k_Acts_forgetOldest = true := by decide +kernel
theorem zr_3 : zrowb cX0_giveBack 2 0 k_Acts_giveBack = true := by decide +kernel
theorem zr_4 : zrowb cX1_clear 1 0 k_Country_clear = true := by decide +kernel
theorem zr_5 : zrowb cX1_copyFrom 2 0 k_Country_copyFrom = true := by decide +kernel
theorem zr_6 : zrowb cX1_hasTerm 2 0 k_Country_hasTerm = true := by decide +kernel
theorem zr_7 : zrowb cX1_hasReach 2 0 k_Country_hasReach = true := by decide +kernel
theorem zr_8 : zrowb cX1_hasPlace 3 0 k_Country_hasPlace = true := by decide +kernel
theorem zr_9 : zrowb cX1_hasEditor 2 0 k_Country_hasEditor = true := by decide +kernel
theorem zr_10 : zrowb cX1_hasTown 2 0 k_Country_hasTown = true := by decide +kernel
theorem zr_11 : zrowb cX1_addTerm 4 0 k_Country_addTerm = true := by decide +kernel
theorem zr_12 : zrowb cX1_addReach 5 0 k_Country_addReach = true := by decide +kernel
theorem zr_13 : zrowb cX1_addSaid 3 0 k_Country_addSaid = true := by decide +kernel
theorem zr_14 : zrowb cX1_addEditor 6 0 k_Country_addEditor = true := by decide +kernel
theorem zr_15 : zrowb cX1_addChange 4 0 k_Country_addChange = true := by decide +kernel
theorem zr_16 : zrowb cX1_addTown 5 0 k_Country_addTown = true := by decide +kernel
theorem zr_17 : zrowb cX1_addTaste 3 0 k_Country_addTaste = true := by decide +kernel
theorem zr_18 : zrowb cX1_madeBy 3 0 k_Country_madeBy = true := by decide +kernel
theorem zr_19 : zrowb cX1_likes 3 0 k_Country_likes = true := by decide +kernel
theorem zr_20 : zrowb cX1_saidOn 4 0 k_Country_saidOn = true := by decide +kernel
theorem zr_21 : zrowb cX1_editorOn 4 0 k_Country_editorOn = true := by decide +kernel
theorem zr_22 : zrowb cX1_ownTown 5 0 k_Country_ownTown = true := by decide +kernel
theorem zr_23 : zrowb cX1_daysBetween 8 0 k_Country_daysBetween = true := by decide +kernel
theorem zr_24 : zrowb cX1_reachesAbove 4 0 k_Country_reachesAbove = true := by decide +kernel
theorem zr_25 : zrowb cX1_oneSource 5 0 k_Country_oneSource = true := by decide +kernel
theorem zr_26 : zrowb cX1_arrival 7 0 k_Country_arrival = true := by decide +kernel
theorem zr_27 : zrowb cX1_afterEditors 8 0 k_Country_afterEditors = true := by decide +kernel
theorem zr_28 : zrowb cX2_readInto 3 0 k_CountryReader_readInto = true := by decide +kernel
theorem zr_29 : zrowb cX2_readLine 1 0 k_CountryReader_readLine = true := by decide +kernel
theorem zr_30 : zrowb cX2_begins 3 0 k_CountryReader_begins = true := by decide +kernel
theorem zr_31 : zrowb cX2_readNewName 1 0 k_CountryReader_readNewName = true := by decide +kernel
theorem zr_32 : zrowb cX2_readNewNameOnReach 1 0 k_CountryReader_readNewNameOnReach = true := by decide +kernel
theorem zr_33 : zrowb cX2_readTerm 2 0 k_CountryReader_readTerm = true := by decide +kernel
theorem zr_34 : zrowb cX2_readReach 3 0 k_CountryReader_readReach = true := by decide +kernel
theorem zr_35 : zrowb cX2_readSays 4 0 k_CountryReader_readSays = true := by decide +kernel
theorem zr_36 : zrowb cX2_readEditor 1 0 k_CountryReader_readEditor = true := by decide +kernel
theorem zr_37 : zrowb cX2_readWhoAndTerm 2 0 k_CountryReader_readWhoAndTerm = true := by decide +kernel
theorem zr_38 : zrowb cX2_readChange 3 0 k_CountryReader_readChange = true := by decide +kernel
theorem zr_39 : zrowb cX2_readTown 1 0 k_CountryReader_readTown = true := by decide +kernel
theorem zr_40 : zrowb cX2_readTaste 1 0 k_CountryReader_readTaste = true := by decide +kernel
theorem zr_41 : zrowb cX3_readFrom 4 0 k_Daybook_readFrom = true := by decide +kernel
theorem zr_42 : zrowb cX3_readLine 7 0 k_Daybook_readLine = true := by decide +kernel
theorem zr_43 : zrowb cX3_readDays 2 0 k_Daybook_readDays = true := by decide +kernel
theorem zr_44 : zrowb cX3_readReads 5 0 k_Daybook_readReads = true := by decide +kernel
theorem zr_45 : zrowb cX3_readAwake 3 0 k_Daybook_readAwake = true := by decide +kernel
theorem zr_46 : zrowb cX3_add 5 0 k_Daybook_add = true := by decide +kernel
theorem zr_47 : zrowb cX3_judge 5 0 k_Daybook_judge = true := by decide +kernel
theorem zr_48 : zrowb cX3_live 5 0 k_Daybook_live = true := by decide +kernel
theorem zr_49 : zrowb cX3_tell 2 0 k_Daybook_tell = true := by decide +kernel
theorem zr_50 : zrowb cX4_begin 2 0 k_Dice_begin = true := by decide +kernel
theorem zr_51 : zrowb cX4_draw 2 0 k_Dice_draw = true := by decide +kernel
theorem zr_52 : zrowb cX6_find 4 0 k_Names_find = true := by decide +kernel
theorem zr_53 : zrowb cX6_add 5 0 k_Names_add = true := by decide +kernel
theorem zr_54 : zrowb cX6_copyFrom 2 0 k_Names_copyFrom = true := by decide +kernel
theorem zr_55 : zrowb cX7_clear 1 0 k_Sentence_clear = true := by decide +kernel
theorem zr_56 : zrowb cX7_copyFrom 2 0 k_Sentence_copyFrom = true := by decide +kernel
theorem zr_57 : zrowb cX7_readFrom 3 0 k_Sentence_readFrom = true := by decide +kernel
theorem zr_58 : zrowb cX7_readCond 6 0 k_Sentence_readCond = true := by decide +kernel
theorem zr_59 : zrowb cX7_readAll 6 0 k_Sentence_readAll = true := by decide +kernel
theorem zr_60 : zrowb cX7_readOne 6 0 k_Sentence_readOne = true := by decide +kernel
theorem zr_61 : zrowb cX7_beginsOne 1 0 k_Sentence_beginsOne = true := by decide +kernel
theorem zr_62 : zrowb cX7_addNamed 4 0 k_Sentence_addNamed = true := by decide +kernel
theorem zr_63 : zrowb cX7_readMeasure 4 0 k_Sentence_readMeasure = true := by decide +kernel
theorem zr_64 : zrowb cX7_add 4 0 k_Sentence_add = true := by decide +kernel
theorem zr_65 : zrowb cX7_holdsOf 7 0 k_Sentence_holdsOf = true := by decide +kernel
theorem zr_66 : zrowb cX7_isSo 5 0 k_Sentence_isSo = true := by decide +kernel
theorem zr_67 : zrowb cX7_compares 3 0 k_Sentence_compares = true := by decide +kernel
theorem zr_68 : zrowb cX8_begin 2 0 k_Stream_begin = true := by decide +kernel
theorem zr_69 : zrowb cX8_copyFrom 2 0 k_Stream_copyFrom = true := by decide +kernel
theorem zr_70 : zrowb cX8_daysLeft 1 0 k_Stream_daysLeft = true := by decide +kernel
theorem zr_71 : zrowb cX8_isAwake 2 0 k_Stream_isAwake = true := by decide +kernel
theorem zr_72 : zrowb cX8_toggle 2 0 k_Stream_toggle = true := by decide +kernel
theorem zr_73 : zrowb cX8_onTheirWay 6 0 k_Stream_onTheirWay = true := by decide +kernel
theorem zr_74 : zrowb cX8_cellOf 6 0 k_Stream_cellOf = true := by decide +kernel
theorem zr_75 : zrowb cX8_termAt 4 0 k_Stream_termAt = true := by decide +kernel
theorem zr_76 : zrowb cX8_put 5 0 k_Stream_put = true := by decide +kernel
theorem zr_77 : zrowb cX8_readOn 3 0 k_Stream_readOn = true := by decide +kernel
theorem zr_78 : zrowb cX8_pass 5 0 k_Stream_pass = true := by decide +kernel
theorem zr_79 : zrowb cX8_passDrawnDay 6 0 k_Stream_passDrawnDay = true := by decide +kernel
theorem zr_80 : zrowb cX8_passDay 5 0 k_Stream_passDay = true := by decide +kernel
theorem zr_81 : zrowb cX8_carry 5 0 k_Stream_carry = true := by decide +kernel
theorem zr_82 : zrowb cX8_edit 6 0 k_Stream_edit = true := by decide +kernel
theorem zr_83 : zrowb cX8_readInTowns 6 0 k_Stream_readInTowns = true := by decide +kernel
theorem zr_84 : zrowb cX8_noteTerm 5 0 k_Stream_noteTerm = true := by decide +kernel
theorem zr_85 : zrowb cX8_goOnSaying 5 0 k_Stream_goOnSaying = true := by decide +kernel
theorem zr_86 : zrowb cX9_take 3 0 k_Tape_take = true := by decide +kernel
theorem zr_87 : zrowb cX9_termOf 2 0 k_Tape_termOf = true := by decide +kernel
theorem zr_88 : zrowb cX9_open 2 0 k_Tape_open = true := by decide +kernel
theorem zr_89 : zrowb cX9_advance 2 0 k_Tape_advance = true := by decide +kernel
theorem zr_90 : zrowb cX9_scanToken 5 0 k_Tape_scanToken = true := by decide +kernel
theorem zr_91 : zrowb cX9_findKey 2 0 k_Tape_findKey = true := by decide +kernel
theorem zr_92 : zrowb cX9_fail 2 0 k_Tape_fail = true := by decide +kernel
theorem zr_93 : zrowb cX9_passes 2 0 k_Tape_passes = true := by decide +kernel
theorem zr_94 : zrowb cX9_isName 1 0 k_Tape_isName = true := by decide +kernel
theorem zr_95 : zrowb cX9_isNewName 2 0 k_Tape_isNewName = true := by decide +kernel
theorem zr_96 : zrowb cX9_toldName 4 0 k_Tape_toldName = true := by decide +kernel
theorem zr_97 : zrowb cX9_isNumber 3 0 k_Tape_isNumber = true := by decide +kernel
theorem zr_98 : zrowb cX10_feed 6 0 k_R_feed = true := by decide +kernel
theorem zr_99 : zrowb cX10_end 2 0 k_R_end = true := by decide +kernel
theorem zr_100 : zrowb cX10_country 3 0 k_R_country = true := by decide +kernel
theorem zr_101 : zrowb cX10_fault 1 0 k_R_fault = true := by decide +kernel
theorem zr_102 : zrowb cX10_term 2 0 k_R_term = true := by decide +kernel
theorem zr_103 : zrowb cX10_reach 3 0 k_R_reach = true := by decide +kernel
theorem zr_104 : zrowb cX10_editor 3 0 k_R_editor = true := by decide +kernel
theorem zr_105 : zrowb cX10_makes 3 0 k_R_makes = true := by decide +kernel
theorem zr_106 : zrowb cX10_now 2 0 k_R_now = true := by decide +kernel
theorem zr_107 : zrowb cX10_days 3 0 k_R_days = true := by decide +kernel
theorem zr_108 : zrowb cX10_wake 3 0 k_R_wake = true := by decide +kernel
theorem zr_109 : zrowb cX10_stone 4 0 k_R_stone = true := by decide +kernel
theorem zr_110 : zrowb cX10_undo 1 0 k_R_undo = true := by decide +kernel
theorem zr_111 : zrowb cX10_well 3 0 k_R_well = true := by decide +kernel
theorem zr_112 : zrowb cX10_sense 2 0 k_R_sense = true := by decide +kernel
theorem zr_113 : zrowb cX10_sayings 2 0 k_R_sayings = true := by decide +kernel
theorem zr_114 : zrowb cX10_flows 4 0 k_R_flows = true := by decide +kernel
theorem zr_115 : zrowb cX10_above 2 0 k_R_above = true := by decide +kernel
theorem zr_116 : zrowb cX10_source 2 0 k_R_source = true := by decide +kernel
theorem zr_117 : zrowb cX10_comes 3 0 k_R_comes = true := by decide +kernel
theorem zr_118 : zrowb cX10_saying 6 0 k_R_saying = true := by decide +kernel
theorem zr_119 : zrowb cX10_saidAt 2 0 k_R_saidAt = true := by decide +kernel
theorem zr_120 : zrowb cX10_wish 8 0 k_R_wish = true := by decide +kernel
theorem zr_121 : zrowb cX10_rests 6 0 k_R_rests = true := by decide +kernel
theorem zr_122 : zrowb cX10_own 2 0 k_R_own = true := by decide +kernel
theorem zr_123 : zrowb cX10_liked 4 0 k_R_liked = true := by decide +kernel
theorem zr_124 : zrowb cX10_sure 2 0 k_R_sure = true := by decide +kernel
theorem zr_125 : zrowb cX10_most 5 0 k_R_most = true := by decide +kernel
theorem zr_126 : zrowb cX10_when 6 0 k_R_when = true := by decide +kernel
theorem zr_127 : zrowb cX10_clashes 2 0 k_R_clashes = true := by decide +kernel
theorem zr_128 : zrowb cX10_unlike 6 0 k_R_unlike = true := by decide +kernel
theorem zr_129 : zrowb cX10_drawn 5 0 k_R_drawn = true := by decide +kernel
theorem zr_130 : zrowb cX10_stones 1 0 k_R_stones = true := by decide +kernel
theorem zr_131 : zrowb cX10_odds 6 0 k_R_odds = true := by decide +kernel
theorem zr_132 : zrowb cX10_daybook 4 0 k_R_daybook = true := by decide +kernel
theorem zr_133 : zrowb cX10_booked 2 0 k_R_booked = true := by decide +kernel
theorem zr_134 : zrowb cX10_sentence 3 0 k_R_sentence = true := by decide +kernel
theorem zr_135 : zrowb cX10_said 4 0 k_R_said = true := by decide +kernel
theorem zr_136 : zrowb cX10_image 3 0 k_R_image = true := by decide +kernel
theorem zr_137 : zrowb cX10_restore 3 0 k_R_restore = true := by decide +kernel
theorem zr_138 : zrowb cX10_count 2 0 k_R_count = true := by decide +kernel
theorem zr_139 : zrowb cX10_isWithin 2 0 k_R_isWithin = true := by decide +kernel
theorem zr_140 : zrowb cX10_sumOf 6 0 k_R_sumOf = true := by decide +kernel
theorem zr_141 : zrowb cX10_takeRow 5 0 k_R_takeRow = true := by decide +kernel
theorem zr_142 : zrowb cX10_fillArrivals 3 0 k_R_fillArrivals = true := by decide +kernel
theorem zr_143 : zrowb cX10_countOf 4 0 k_R_countOf = true := by decide +kernel
theorem zr_144 : zrowb cX10_leastFor 3 0 k_R_leastFor = true := by decide +kernel
theorem zr_145 : zrowb cX10_keepFirstWay 3 0 k_R_keepFirstWay = true := by decide +kernel
theorem zr_146 : zrowb cX10_tryDays 3 0 k_R_tryDays = true := by decide +kernel
theorem zr_147 : zrowb cX10_fillGains 5 0 k_R_fillGains = true := by decide +kernel
theorem zr_148 : zrowb cX10_isRest 4 0 k_R_isRest = true := by decide +kernel
theorem zr_149 : zrowb cX10_staysSensible 5 0 k_R_staysSensible = true := by decide +kernel
theorem zr_150 : zrowb cX11_thrown 1 0 k_M_thrown = true := by decide +kernel
theorem zr_151 : zrowb cX11_throwsIf 2 0 k_M_throwsIf = true := by decide +kernel
theorem zr_152 : zrowb cX11_feed 6 0 k_M_feed = true := by decide +kernel
theorem zr_153 : zrowb cX11_four 3 0 k_M_four = true := by decide +kernel
theorem zr_154 : zrowb cX11_end 2 0 k_M_end = true := by decide +kernel
theorem zr_155 : zrowb cX11_taken 2 0 k_M_taken = true := by decide +kernel
theorem zr_156 : zrowb cX11_isIn 3 0 k_M_isIn = true := by decide +kernel
theorem zr_157 : zrowb cX11_bitOf 2 0 k_M_bitOf = true := by decide +kernel
theorem zr_158 : zrowb cX11_octet 2 0 k_M_octet = true := by decide +kernel
theorem zr_159 : zrowb cX11_peek 1 0 k_M_peek = true := by decide +kernel
theorem zr_160 : zrowb cX11_isSmall 1 0 k_M_isSmall = true := by decide +kernel
theorem zr_161 : zrowb cX11_isDigit 1 0 k_M_isDigit = true := by decide +kernel
theorem zr_162 : zrowb cX11_next 4 0 k_M_next = true := by decide +kernel
theorem zr_163 : zrowb cX11_bad 2 0 k_M_bad = true := by decide +kernel
theorem zr_164 : zrowb cX11_isWord 3 0 k_M_isWord = true := by decide +kernel
theorem zr_165 : zrowb cX11_isSign 2 0 k_M_isSign = true := by decide +kernel
theorem zr_166 : zrowb cX11_sign 2 0 k_M_sign = true := by decide +kernel
theorem zr_167 : zrowb cX11_isName 3 0 k_M_isName = true := by decide +kernel
theorem zr_168 : zrowb cX11_takes 3 0 k_M_takes = true := by decide +kernel
theorem zr_169 : zrowb cX11_find 4 0 k_M_find = true := by decide +kernel
theorem zr_170 : zrowb cX11_fresh 2 0 k_M_fresh = true := by decide +kernel
theorem zr_171 : zrowb cX11_looksAt 3 0 k_M_looksAt = true := by decide +kernel
theorem zr_172 : zrowb cX11_looksAtTerm 1 0 k_M_looksAtTerm = true := by decide +kernel
theorem zr_173 : zrowb cX11_looksAtReach 1 0 k_M_looksAtReach = true := by decide +kernel
theorem zr_174 : zrowb cX11_sortOf 1 0 k_M_sortOf = true := by decide +kernel
theorem zr_175 : zrowb cX11_line 3 0 k_M_line = true := by decide +kernel
theorem zr_176 : zrowb cX11_readReach 2 0 k_M_readReach = true := by decide +kernel
theorem zr_177 : zrowb cX11_readSays 3 0 k_M_readSays = true := by decide +kernel
theorem zr_178 : zrowb cX11_readAt 9 0 k_M_readAt = true := by decide +kernel
theorem zr_179 : zrowb cX11_readRule 5 0 k_M_readRule = true := by decide +kernel
theorem zr_180 : zrowb cX11_country 2 0 k_M_country = true := by decide +kernel
theorem zr_181 : zrowb cX11_fault 1 0 k_M_fault = true := by decide +kernel
theorem zr_182 : zrowb cX11_isTerm 2 0 k_M_isTerm = true := by decide +kernel
theorem zr_183 : zrowb cX11_isReach 2 0 k_M_isReach = true := by decide +kernel
theorem zr_184 : zrowb cX11_isEditor 2 0 k_M_isEditor = true := by decide +kernel
theorem zr_185 : zrowb cX11_isTown 2 0 k_M_isTown = true := by decide +kernel
theorem zr_186 : zrowb cX11_isPlace 3 0 k_M_isPlace = true := by decide +kernel
theorem zr_187 : zrowb cX11_term 2 0 k_M_term = true := by decide +kernel
theorem zr_188 : zrowb cX11_saysOn 3 0 k_M_saysOn = true := by decide +kernel
theorem zr_189 : zrowb cX11_reach 3 0 k_M_reach = true := by decide +kernel
theorem zr_190 : zrowb cX11_at 3 0 k_M_at = true := by decide +kernel
theorem zr_191 : zrowb cX11_editor 3 0 k_M_editor = true := by decide +kernel
theorem zr_192 : zrowb cX11_madeOf 4 0 k_M_madeOf = true := by decide +kernel
theorem zr_193 : zrowb cX11_makes 3 0 k_M_makes = true := by decide +kernel
theorem zr_194 : zrowb cX11_wellOf 3 0 k_M_wellOf = true := by decide +kernel
theorem zr_195 : zrowb cX11_wordsOf 7 0 k_M_wordsOf = true := by decide +kernel
theorem zr_196 : zrowb cX11_lastOf 2 0 k_M_lastOf = true := by decide +kernel
theorem zr_197 : zrowb cX11_town 4 0 k_M_town = true := by decide +kernel
theorem zr_198 : zrowb cX11_now 4 0 k_M_now = true := by decide +kernel
theorem zr_199 : zrowb cX11_comesTo 5 0 k_M_comesTo = true := by decide +kernel
theorem zr_200 : zrowb cX11_edits 4 0 k_M_edits = true := by decide +kernel
theorem zr_201 : zrowb cX11_day 4 0 k_M_day = true := by decide +kernel
theorem zr_202 : zrowb cX11_goes 3 0 k_M_goes = true := by decide +kernel
theorem zr_203 : zrowb cX11_days 2 0 k_M_days = true := by decide +kernel
theorem zr_204 : zrowb cX11_wake 3 0 k_M_wake = true := by decide +kernel
theorem zr_205 : zrowb cX11_stone 4 0 k_M_stone = true := by decide +kernel
theorem zr_206 : zrowb cX11_keep 2 0 k_M_keep = true := by decide +kernel
theorem zr_207 : zrowb cX11_undo 2 0 k_M_undo = true := by decide +kernel
theorem zr_208 : zrowb cX11_tries 2 0 k_M_tries = true := by decide +kernel
theorem zr_209 : zrowb cX11_back 2 0 k_M_back = true := by decide +kernel
theorem zr_210 : zrowb cX11_well 3 0 k_M_well = true := by decide +kernel
theorem zr_211 : zrowb cX11_behind 3 0 k_M_behind0 = true := by decide +kernel
theorem zr_212 : zrowb cX11_senseOf 5 0 k_M_senseOf = true := by decide +kernel
theorem zr_213 : zrowb cX11_sense 2 0 k_M_sense = true := by decide +kernel
theorem zr_214 : zrowb cX11_sayings 2 0 k_M_sayings = true := by decide +kernel
theorem zr_215 : zrowb cX11_flows 6 0 k_M_flows = true := by decide +kernel
theorem zr_216 : zrowb cX11_aboveOf 5 0 k_M_aboveOf = true := by decide +kernel
theorem zr_217 : zrowb cX11_above 2 0 k_M_above = true := by decide +kernel
theorem zr_218 : zrowb cX11_sourceOf 6 0 k_M_sourceOf = true := by decide +kernel
theorem zr_219 : zrowb cX11_source 2 0 k_M_source = true := by decide +kernel
theorem zr_220 : zrowb cX11_madeAt 5 0 k_M_madeAt = true := by decide +kernel
theorem zr_221 : zrowb cX11_comesOf 7 0 k_M_comesOf = true := by decide +kernel
theorem zr_222 : zrowb cX11_hasSource 2 0 k_M_hasSource = true := by decide +kernel
theorem zr_223 : zrowb cX11_comes 3 0 k_M_comes = true := by decide +kernel
theorem zr_224 : zrowb cX11_termAt 2 0 k_M_termAt = true := by decide +kernel
theorem zr_225 : zrowb cX11_areTerms 3 0 k_M_areTerms = true := by decide +kernel
theorem zr_226 : zrowb cX11_saying 7 0 k_M_saying = true := by decide +kernel
theorem zr_227 : zrowb cX11_saidAt 2 0 k_M_saidAt = true := by decide +kernel
theorem zr_228 : zrowb cX11_wish 7 0 k_M_wish = true := by decide +kernel
theorem zr_229 : zrowb cX11_ownOf 4 0 k_M_ownOf = true := by decide +kernel
theorem zr_230 : zrowb cX11_own 2 0 k_M_own = true := by decide +kernel
theorem zr_231 : zrowb cX11_likesBy 5 0 k_M_likesBy = true := by decide +kernel
theorem zr_232 : zrowb cX11_rests 7 0 k_M_rests = true := by decide +kernel
theorem zr_233 : zrowb cX11_liked 4 0 k_M_liked = true := by decide +kernel
theorem zr_234 : zrowb cX11_sure 2 0 k_M_sure = true := by decide +kernel
theorem zr_235 : zrowb cX11_most 4 0 k_M_most = true := by decide +kernel
theorem zr_236 : zrowb cX11_when 6 0 k_M_when = true := by decide +kernel
theorem zr_237 : zrowb cX11_clashes 3 0 k_M_clashes = true := by decide +kernel
theorem zr_238 : zrowb cX11_unlike 6 0 k_M_unlike = true := by decide +kernel
theorem zr_239 : zrowb cX11_draw 2 0 k_M_draw = true := by decide +kernel
theorem zr_240 : zrowb cX11_draws 7 0 k_M_draws = true := by decide +kernel
theorem zr_241 : zrowb cX11_drawn 4 0 k_M_drawn = true := by decide +kernel
theorem zr_242 : zrowb cX11_stones 1 0 k_M_stones = true := by decide +kernel
theorem zr_243 : zrowb cX11_odds 6 0 k_M_odds = true := by decide +kernel
theorem zr_244 : zrowb cX11_bookLine 4 0 k_M_bookLine = true := by decide +kernel
theorem zr_245 : zrowb cX11_does 4 0 k_M_does = true := by decide +kernel
theorem zr_246 : zrowb cX11_daybook 5 0 k_M_daybook = true := by decide +kernel
theorem zr_247 : zrowb cX11_booked 2 0 k_M_booked = true := by decide +kernel
theorem zr_248 : zrowb cX11_code 4 0 k_M_code = true := by decide +kernel
theorem zr_249 : zrowb cX11_joins 2 0 k_M_joins = true := by decide +kernel
theorem zr_250 : zrowb cX11_nots 1 0 k_M_nots = true := by decide +kernel
theorem zr_251 : zrowb cX11_leafOf 1 0 k_M_leafOf = true := by decide +kernel
theorem zr_252 : zrowb cX11_operand 5 0 k_M_operand = true := by decide +kernel
theorem zr_253 : zrowb cX11_behind_ 1 0 k_M_behind1 = true := by decide +kernel
theorem zr_254 : zrowb cX11_sentence 3 0 k_M_sentence = true := by decide +kernel
theorem zr_255 : zrowb cX11_isLeaf 6 0 k_M_isLeaf = true := by decide +kernel
theorem zr_256 : zrowb cX11_isSaid 5 0 k_M_isSaid = true := by decide +kernel
theorem zr_257 : zrowb cX11_said 4 0 k_M_said = true := by decide +kernel
theorem zr_258 : zrowb cX11_image 3 0 k_M_image = true := by decide +kernel
theorem zr_259 : zrowb cX11_restore 3 0 k_M_restore = true := by decide +kernel
theorem zr_260 : zrowb cX11_count 2 0 k_M_count = true := by decide +kernel
theorem zr_261 : zrowb cJ7_fill_53178 4 0 k_J_fill = true := by decide +kernel
end ZCB
