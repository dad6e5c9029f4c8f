/-! DECODE ROWS by lists (by program) -/
section ZDR
def dall (b : ByteArray) : List (Nat × Instr × Nat) → Bool
  | [] => true
  | (pc, i, len) :: t => decide (decode b pc = .ok (i, len)) && dall b t
theorem dat {b : ByteArray} : ∀ {L : List (Nat × Instr × Nat)} (_ : dall b L = true) (k : Nat) {pc len : Nat} {i : Instr}, L[k]? = some (pc, i, len) → decode b pc = .ok (i, len)
  | [], _, k, _, _, _, hk => by simp at hk
  | (a, j, n) :: t, h, 0, pc, len, i, hk => by
    simp only [dall, Bool.and_eq_true, decide_eq_true_eq] at h
    simp only [List.getElem?_cons_zero, Option.some.injEq, Prod.mk.injEq] at hk
    obtain ⟨rfl, rfl, rfl⟩ := hk
    exact h.1
  | (a, j, n) :: t, h, k + 1, pc, len, i, hk => by
    simp only [dall, Bool.and_eq_true] at h
    exact dat h.2 k (by simpa using hk)
theorem vpI (N : Nat) (ty : FieldType) (h : defaultValue ty = .int (Int32.ofInt 0)) : ∀ cA : ClassId, vp_cell cA (N, .inl (fun _ => Int32.ofInt 0)) = arrV cA N (fun _ => defaultValue ty) := fun _ => by rw [h]; rfl
theorem vpL (N : Nat) (ty : FieldType) (h : defaultValue ty = .long (Int64.ofInt 0)) : ∀ cA : ClassId, vp_cell cA (N, .inr (.inl (fun _ => Int64.ofInt 0))) = arrV cA N (fun _ => defaultValue ty) := fun _ => by rw [h]; rfl
def dL11_l0 : List (Nat × Instr × Nat) := [(0, .aload_n 0, 1), (1, .invokespecial 27, 3), (4, .aload_n 0, 1), (5, .sipush (940), 3), (8, .newarray .byte, 2), (10, .putfield 14, 3), (13, .aload_n 0, 1), (14, .sipush (2959), 3), (17, .newarray .int, 2), (19, .putfield 33, 3), (22, .aload_n 0, 1), (23, .sipush (288), 3), (26, .newarray .int, 2), (28, .putfield 37, 3), (31, .aload_n 0, 1), (32, .sipush (135), 3), (35, .newarray .int, 2), (37, .putfield 40, 3), (40, .aload_n 0, 1), (41, .bipush (60), 2), (43, .newarray .long, 2), (45, .putfield 43, 3), (48, .aload_n 0, 1), (49, .bipush (27), 2), (51, .newarray .long, 2), (53, .putfield 47, 3), (56, .aload_n 0, 1), (57, .bipush (72), 2), (59, .newarray .int, 2), (61, .putfield 50, 3), (64, .aload_n 0, 1), (65, .sipush (9960), 3), (68, .newarray .int, 2), (70, .putfield 53, 3), (73, .aload_n 0, 1), (74, .sipush (2490), 3), (77, .newarray .int, 2), (79, .putfield 56, 3), (82, .aload_n 0, 1), (83, .bipush (15), 2), (85, .newarray .int, 2), (87, .putfield 59, 3), (90, .aload_n 0, 1), (91, .bipush (15), 2), (93, .newarray .int, 2), (95, .putfield 62, 3), (98, .aload_n 0, 1), (99, .sipush (384), 3), (102, .newarray .int, 2), (104, .putfield 65, 3), (107, .aload_n 0, 1), (108, .iconst 4, 1), (109, .newarray .int, 2), (111, .putfield 68, 3), (114, .aload_n 0, 1), (115, .bipush (45), 2), (117, .newarray .int, 2), (119, .putfield 71, 3), (122, .aload_n 0, 1), (123, .bipush (45), 2)]
theorem dL11_h0 : dall cX11_init dL11_l0 = true := by decide +kernel
theorem dK11_0 : decode cX11_init 0 = .ok (.aload_n 0, 1) := dat dL11_h0 0 rfl
theorem dK11_1 : decode cX11_init 1 = .ok (.invokespecial 27, 3) := dat dL11_h0 1 rfl
theorem dK11_4 : decode cX11_init 4 = .ok (.aload_n 0, 1) := dat dL11_h0 2 rfl
theorem dK11_5 : decode cX11_init 5 = .ok (.sipush (940), 3) := dat dL11_h0 3 rfl
theorem dK11_8 : decode cX11_init 8 = .ok (.newarray .byte, 2) := dat dL11_h0 4 rfl
theorem dK11_10 : decode cX11_init 10 = .ok (.putfield 14, 3) := dat dL11_h0 5 rfl
theorem dK11_13 : decode cX11_init 13 = .ok (.aload_n 0, 1) := dat dL11_h0 6 rfl
theorem dK11_14 : decode cX11_init 14 = .ok (.sipush (2959), 3) := dat dL11_h0 7 rfl
theorem dK11_17 : decode cX11_init 17 = .ok (.newarray .int, 2) := dat dL11_h0 8 rfl
theorem dK11_19 : decode cX11_init 19 = .ok (.putfield 33, 3) := dat dL11_h0 9 rfl
theorem dK11_22 : decode cX11_init 22 = .ok (.aload_n 0, 1) := dat dL11_h0 10 rfl
theorem dK11_23 : decode cX11_init 23 = .ok (.sipush (288), 3) := dat dL11_h0 11 rfl
theorem dK11_26 : decode cX11_init 26 = .ok (.newarray .int, 2) := dat dL11_h0 12 rfl
theorem dK11_28 : decode cX11_init 28 = .ok (.putfield 37, 3) := dat dL11_h0 13 rfl
theorem dK11_31 : decode cX11_init 31 = .ok (.aload_n 0, 1) := dat dL11_h0 14 rfl
theorem dK11_32 : decode cX11_init 32 = .ok (.sipush (135), 3) := dat dL11_h0 15 rfl
theorem dK11_35 : decode cX11_init 35 = .ok (.newarray .int, 2) := dat dL11_h0 16 rfl
theorem dK11_37 : decode cX11_init 37 = .ok (.putfield 40, 3) := dat dL11_h0 17 rfl
theorem dK11_40 : decode cX11_init 40 = .ok (.aload_n 0, 1) := dat dL11_h0 18 rfl
theorem dK11_41 : decode cX11_init 41 = .ok (.bipush (60), 2) := dat dL11_h0 19 rfl
theorem dK11_43 : decode cX11_init 43 = .ok (.newarray .long, 2) := dat dL11_h0 20 rfl
theorem dK11_45 : decode cX11_init 45 = .ok (.putfield 43, 3) := dat dL11_h0 21 rfl
theorem dK11_48 : decode cX11_init 48 = .ok (.aload_n 0, 1) := dat dL11_h0 22 rfl
theorem dK11_49 : decode cX11_init 49 = .ok (.bipush (27), 2) := dat dL11_h0 23 rfl
theorem dK11_51 : decode cX11_init 51 = .ok (.newarray .long, 2) := dat dL11_h0 24 rfl
theorem dK11_53 : decode cX11_init 53 = .ok (.putfield 47, 3) := dat dL11_h0 25 rfl
theorem dK11_56 : decode cX11_init 56 = .ok (.aload_n 0, 1) := dat dL11_h0 26 rfl
theorem dK11_57 : decode cX11_init 57 = .ok (.bipush (72), 2) := dat dL11_h0 27 rfl
theorem dK11_59 : decode cX11_init 59 = .ok (.newarray .int, 2) := dat dL11_h0 28 rfl
theorem dK11_61 : decode cX11_init 61 = .ok (.putfield 50, 3) := dat dL11_h0 29 rfl
theorem dK11_64 : decode cX11_init 64 = .ok (.aload_n 0, 1) := dat dL11_h0 30 rfl
theorem dK11_65 : decode cX11_init 65 = .ok (.sipush (9960), 3) := dat dL11_h0 31 rfl
theorem dK11_68 : decode cX11_init 68 = .ok (.newarray .int, 2) := dat dL11_h0 32 rfl
theorem dK11_70 : decode cX11_init 70 = .ok (.putfield 53, 3) := dat dL11_h0 33 rfl
theorem dK11_73 : decode cX11_init 73 = .ok (.aload_n 0, 1) := dat dL11_h0 34 rfl
theorem dK11_74 : decode cX11_init 74 = .ok (.sipush (2490), 3) := dat dL11_h0 35 rfl
theorem dK11_77 : decode cX11_init 77 = .ok (.newarray .int, 2) := dat dL11_h0 36 rfl
theorem dK11_79 : decode cX11_init 79 = .ok (.putfield 56, 3) := dat dL11_h0 37 rfl
theorem dK11_82 : decode cX11_init 82 = .ok (.aload_n 0, 1) := dat dL11_h0 38 rfl
theorem dK11_83 : decode cX11_init 83 = .ok (.bipush (15), 2) := dat dL11_h0 39 rfl
theorem dK11_85 : decode cX11_init 85 = .ok (.newarray .int, 2) := dat dL11_h0 40 rfl
theorem dK11_87 : decode cX11_init 87 = .ok (.putfield 59, 3) := dat dL11_h0 41 rfl
theorem dK11_90 : decode cX11_init 90 = .ok (.aload_n 0, 1) := dat dL11_h0 42 rfl
theorem dK11_91 : decode cX11_init 91 = .ok (.bipush (15), 2) := dat dL11_h0 43 rfl
theorem dK11_93 : decode cX11_init 93 = .ok (.newarray .int, 2) := dat dL11_h0 44 rfl
theorem dK11_95 : decode cX11_init 95 = .ok (.putfield 62, 3) := dat dL11_h0 45 rfl
theorem dK11_98 : decode cX11_init 98 = .ok (.aload_n 0, 1) := dat dL11_h0 46 rfl
theorem dK11_99 : decode cX11_init 99 = .ok (.sipush (384), 3) := dat dL11_h0 47 rfl
theorem dK11_102 : decode cX11_init 102 = .ok (.newarray .int, 2) := dat dL11_h0 48 rfl
theorem dK11_104 : decode cX11_init 104 = .ok (.putfield 65, 3) := dat dL11_h0 49 rfl
theorem dK11_107 : decode cX11_init 107 = .ok (.aload_n 0, 1) := dat dL11_h0 50 rfl
theorem dK11_108 : decode cX11_init 108 = .ok (.iconst 4, 1) := dat dL11_h0 51 rfl
theorem dK11_109 : decode cX11_init 109 = .ok (.newarray .int, 2) := dat dL11_h0 52 rfl
theorem dK11_111 : decode cX11_init 111 = .ok (.putfield 68, 3) := dat dL11_h0 53 rfl
theorem dK11_114 : decode cX11_init 114 = .ok (.aload_n 0, 1) := dat dL11_h0 54 rfl
theorem dK11_115 : decode cX11_init 115 = .ok (.bipush (45), 2) := dat dL11_h0 55 rfl
theorem dK11_117 : decode cX11_init 117 = .ok (.newarray .int, 2) := dat dL11_h0 56 rfl
theorem dK11_119 : decode cX11_init 119 = .ok (.putfield 71, 3) := dat dL11_h0 57 rfl
theorem dK11_122 : decode cX11_init 122 = .ok (.aload_n 0, 1) := dat dL11_h0 58 rfl
theorem dK11_123 : decode cX11_init 123 = .ok (.bipush (45), 2) := dat dL11_h0 59 rfl
def dL11_l1 : List (Nat × Instr × Nat) := [(125, .newarray .boolean, 2), (127, .putfield 74, 3), (130, .aload_n 0, 1), (131, .sipush (5918), 3), (134, .newarray .int, 2), (136, .putfield 78, 3), (139, .aload_n 0, 1), (140, .bipush (60), 2), (142, .newarray .long, 2), (144, .putfield 81, 3), (147, .aload_n 0, 1), (148, .iconst 2, 1), (149, .newarray .boolean, 2), (151, .putfield 84, 3), (154, .aload_n 0, 1), (155, .getfield 47, 3), (158, .iconst 0, 1), (159, .ldc2_w 87, 3), (162, .lastore, 1), (163, .aload_n 0, 1), (164, .getfield 47, 3), (167, .iconst 1, 1), (168, .ldc2_w 89, 3), (171, .lastore, 1), (172, .aload_n 0, 1), (173, .getfield 47, 3), (176, .iconst 2, 1), (177, .ldc2_w 91, 3), (180, .lastore, 1), (181, .aload_n 0, 1), (182, .getfield 47, 3), (185, .iconst 3, 1), (186, .ldc2_w 93, 3), (189, .lastore, 1), (190, .aload_n 0, 1), (191, .getfield 47, 3), (194, .iconst 4, 1), (195, .ldc2_w 95, 3), (198, .lastore, 1), (199, .aload_n 0, 1), (200, .getfield 47, 3), (203, .iconst 5, 1), (204, .ldc2_w 97, 3), (207, .lastore, 1), (208, .aload_n 0, 1), (209, .getfield 47, 3), (212, .bipush (6), 2), (214, .ldc2_w 99, 3), (217, .lastore, 1), (218, .aload_n 0, 1), (219, .getfield 47, 3), (222, .bipush (7), 2), (224, .ldc2_w 101, 3), (227, .lastore, 1), (228, .aload_n 0, 1), (229, .getfield 47, 3), (232, .bipush (8), 2), (234, .ldc2_w 103, 3), (237, .lastore, 1), (238, .aload_n 0, 1)]
theorem dL11_h1 : dall cX11_init dL11_l1 = true := by decide +kernel
theorem dK11_125 : decode cX11_init 125 = .ok (.newarray .boolean, 2) := dat dL11_h1 0 rfl
theorem dK11_127 : decode cX11_init 127 = .ok (.putfield 74, 3) := dat dL11_h1 1 rfl
theorem dK11_130 : decode cX11_init 130 = .ok (.aload_n 0, 1) := dat dL11_h1 2 rfl
theorem dK11_131 : decode cX11_init 131 = .ok (.sipush (5918), 3) := dat dL11_h1 3 rfl
theorem dK11_134 : decode cX11_init 134 = .ok (.newarray .int, 2) := dat dL11_h1 4 rfl
theorem dK11_136 : decode cX11_init 136 = .ok (.putfield 78, 3) := dat dL11_h1 5 rfl
theorem dK11_139 : decode cX11_init 139 = .ok (.aload_n 0, 1) := dat dL11_h1 6 rfl
theorem dK11_140 : decode cX11_init 140 = .ok (.bipush (60), 2) := dat dL11_h1 7 rfl
theorem dK11_142 : decode cX11_init 142 = .ok (.newarray .long, 2) := dat dL11_h1 8 rfl
theorem dK11_144 : decode cX11_init 144 = .ok (.putfield 81, 3) := dat dL11_h1 9 rfl
theorem dK11_147 : decode cX11_init 147 = .ok (.aload_n 0, 1) := dat dL11_h1 10 rfl
theorem dK11_148 : decode cX11_init 148 = .ok (.iconst 2, 1) := dat dL11_h1 11 rfl
theorem dK11_149 : decode cX11_init 149 = .ok (.newarray .boolean, 2) := dat dL11_h1 12 rfl
theorem dK11_151 : decode cX11_init 151 = .ok (.putfield 84, 3) := dat dL11_h1 13 rfl
theorem dK11_154 : decode cX11_init 154 = .ok (.aload_n 0, 1) := dat dL11_h1 14 rfl
theorem dK11_155 : decode cX11_init 155 = .ok (.getfield 47, 3) := dat dL11_h1 15 rfl
theorem dK11_158 : decode cX11_init 158 = .ok (.iconst 0, 1) := dat dL11_h1 16 rfl
theorem dK11_159 : decode cX11_init 159 = .ok (.ldc2_w 87, 3) := dat dL11_h1 17 rfl
theorem dK11_162 : decode cX11_init 162 = .ok (.lastore, 1) := dat dL11_h1 18 rfl
theorem dK11_163 : decode cX11_init 163 = .ok (.aload_n 0, 1) := dat dL11_h1 19 rfl
theorem dK11_164 : decode cX11_init 164 = .ok (.getfield 47, 3) := dat dL11_h1 20 rfl
theorem dK11_167 : decode cX11_init 167 = .ok (.iconst 1, 1) := dat dL11_h1 21 rfl
theorem dK11_168 : decode cX11_init 168 = .ok (.ldc2_w 89, 3) := dat dL11_h1 22 rfl
theorem dK11_171 : decode cX11_init 171 = .ok (.lastore, 1) := dat dL11_h1 23 rfl
theorem dK11_172 : decode cX11_init 172 = .ok (.aload_n 0, 1) := dat dL11_h1 24 rfl
theorem dK11_173 : decode cX11_init 173 = .ok (.getfield 47, 3) := dat dL11_h1 25 rfl
theorem dK11_176 : decode cX11_init 176 = .ok (.iconst 2, 1) := dat dL11_h1 26 rfl
theorem dK11_177 : decode cX11_init 177 = .ok (.ldc2_w 91, 3) := dat dL11_h1 27 rfl
theorem dK11_180 : decode cX11_init 180 = .ok (.lastore, 1) := dat dL11_h1 28 rfl
theorem dK11_181 : decode cX11_init 181 = .ok (.aload_n 0, 1) := dat dL11_h1 29 rfl
theorem dK11_182 : decode cX11_init 182 = .ok (.getfield 47, 3) := dat dL11_h1 30 rfl
theorem dK11_185 : decode cX11_init 185 = .ok (.iconst 3, 1) := dat dL11_h1 31 rfl
theorem dK11_186 : decode cX11_init 186 = .ok (.ldc2_w 93, 3) := dat dL11_h1 32 rfl
theorem dK11_189 : decode cX11_init 189 = .ok (.lastore, 1) := dat dL11_h1 33 rfl
theorem dK11_190 : decode cX11_init 190 = .ok (.aload_n 0, 1) := dat dL11_h1 34 rfl
theorem dK11_191 : decode cX11_init 191 = .ok (.getfield 47, 3) := dat dL11_h1 35 rfl
theorem dK11_194 : decode cX11_init 194 = .ok (.iconst 4, 1) := dat dL11_h1 36 rfl
theorem dK11_195 : decode cX11_init 195 = .ok (.ldc2_w 95, 3) := dat dL11_h1 37 rfl
theorem dK11_198 : decode cX11_init 198 = .ok (.lastore, 1) := dat dL11_h1 38 rfl
theorem dK11_199 : decode cX11_init 199 = .ok (.aload_n 0, 1) := dat dL11_h1 39 rfl
theorem dK11_200 : decode cX11_init 200 = .ok (.getfield 47, 3) := dat dL11_h1 40 rfl
theorem dK11_203 : decode cX11_init 203 = .ok (.iconst 5, 1) := dat dL11_h1 41 rfl
theorem dK11_204 : decode cX11_init 204 = .ok (.ldc2_w 97, 3) := dat dL11_h1 42 rfl
theorem dK11_207 : decode cX11_init 207 = .ok (.lastore, 1) := dat dL11_h1 43 rfl
theorem dK11_208 : decode cX11_init 208 = .ok (.aload_n 0, 1) := dat dL11_h1 44 rfl
theorem dK11_209 : decode cX11_init 209 = .ok (.getfield 47, 3) := dat dL11_h1 45 rfl
theorem dK11_212 : decode cX11_init 212 = .ok (.bipush (6), 2) := dat dL11_h1 46 rfl
theorem dK11_214 : decode cX11_init 214 = .ok (.ldc2_w 99, 3) := dat dL11_h1 47 rfl
theorem dK11_217 : decode cX11_init 217 = .ok (.lastore, 1) := dat dL11_h1 48 rfl
theorem dK11_218 : decode cX11_init 218 = .ok (.aload_n 0, 1) := dat dL11_h1 49 rfl
theorem dK11_219 : decode cX11_init 219 = .ok (.getfield 47, 3) := dat dL11_h1 50 rfl
theorem dK11_222 : decode cX11_init 222 = .ok (.bipush (7), 2) := dat dL11_h1 51 rfl
theorem dK11_224 : decode cX11_init 224 = .ok (.ldc2_w 101, 3) := dat dL11_h1 52 rfl
theorem dK11_227 : decode cX11_init 227 = .ok (.lastore, 1) := dat dL11_h1 53 rfl
theorem dK11_228 : decode cX11_init 228 = .ok (.aload_n 0, 1) := dat dL11_h1 54 rfl
theorem dK11_229 : decode cX11_init 229 = .ok (.getfield 47, 3) := dat dL11_h1 55 rfl
theorem dK11_232 : decode cX11_init 232 = .ok (.bipush (8), 2) := dat dL11_h1 56 rfl
theorem dK11_234 : decode cX11_init 234 = .ok (.ldc2_w 103, 3) := dat dL11_h1 57 rfl
theorem dK11_237 : decode cX11_init 237 = .ok (.lastore, 1) := dat dL11_h1 58 rfl
theorem dK11_238 : decode cX11_init 238 = .ok (.aload_n 0, 1) := dat dL11_h1 59 rfl
def dL11_l2 : List (Nat × Instr × Nat) := [(239, .getfield 47, 3), (242, .bipush (9), 2), (244, .ldc2_w 105, 3), (247, .lastore, 1), (248, .aload_n 0, 1), (249, .getfield 47, 3), (252, .bipush (10), 2), (254, .ldc2_w 107, 3), (257, .lastore, 1), (258, .aload_n 0, 1), (259, .getfield 47, 3), (262, .bipush (11), 2), (264, .ldc2_w 109, 3), (267, .lastore, 1), (268, .aload_n 0, 1), (269, .getfield 47, 3), (272, .bipush (12), 2), (274, .ldc2_w 111, 3), (277, .lastore, 1), (278, .aload_n 0, 1), (279, .getfield 47, 3), (282, .bipush (13), 2), (284, .ldc2_w 113, 3), (287, .lastore, 1), (288, .aload_n 0, 1), (289, .getfield 47, 3), (292, .bipush (14), 2), (294, .ldc2_w 115, 3), (297, .lastore, 1), (298, .aload_n 0, 1), (299, .getfield 47, 3), (302, .bipush (15), 2), (304, .ldc2_w 117, 3), (307, .lastore, 1), (308, .aload_n 0, 1), (309, .getfield 47, 3), (312, .bipush (16), 2), (314, .ldc2_w 119, 3), (317, .lastore, 1), (318, .aload_n 0, 1), (319, .getfield 47, 3), (322, .bipush (17), 2), (324, .ldc2_w 121, 3), (327, .lastore, 1), (328, .aload_n 0, 1), (329, .getfield 47, 3), (332, .bipush (18), 2), (334, .ldc2_w 123, 3), (337, .lastore, 1), (338, .aload_n 0, 1), (339, .getfield 47, 3), (342, .bipush (19), 2), (344, .ldc2_w 125, 3), (347, .lastore, 1), (348, .aload_n 0, 1), (349, .getfield 47, 3), (352, .bipush (20), 2), (354, .ldc2_w 127, 3), (357, .lastore, 1), (358, .aload_n 0, 1)]
theorem dL11_h2 : dall cX11_init dL11_l2 = true := by decide +kernel
theorem dK11_239 : decode cX11_init 239 = .ok (.getfield 47, 3) := dat dL11_h2 0 rfl
theorem dK11_242 : decode cX11_init 242 = .ok (.bipush (9), 2) := dat dL11_h2 1 rfl
theorem dK11_244 : decode cX11_init 244 = .ok (.ldc2_w 105, 3) := dat dL11_h2 2 rfl
theorem dK11_247 : decode cX11_init 247 = .ok (.lastore, 1) := dat dL11_h2 3 rfl
theorem dK11_248 : decode cX11_init 248 = .ok (.aload_n 0, 1) := dat dL11_h2 4 rfl
theorem dK11_249 : decode cX11_init 249 = .ok (.getfield 47, 3) := dat dL11_h2 5 rfl
theorem dK11_252 : decode cX11_init 252 = .ok (.bipush (10), 2) := dat dL11_h2 6 rfl
theorem dK11_254 : decode cX11_init 254 = .ok (.ldc2_w 107, 3) := dat dL11_h2 7 rfl
theorem dK11_257 : decode cX11_init 257 = .ok (.lastore, 1) := dat dL11_h2 8 rfl
theorem dK11_258 : decode cX11_init 258 = .ok (.aload_n 0, 1) := dat dL11_h2 9 rfl
theorem dK11_259 : decode cX11_init 259 = .ok (.getfield 47, 3) := dat dL11_h2 10 rfl
theorem dK11_262 : decode cX11_init 262 = .ok (.bipush (11), 2) := dat dL11_h2 11 rfl
theorem dK11_264 : decode cX11_init 264 = .ok (.ldc2_w 109, 3) := dat dL11_h2 12 rfl
theorem dK11_267 : decode cX11_init 267 = .ok (.lastore, 1) := dat dL11_h2 13 rfl
theorem dK11_268 : decode cX11_init 268 = .ok (.aload_n 0, 1) := dat dL11_h2 14 rfl
theorem dK11_269 : decode cX11_init 269 = .ok (.getfield 47, 3) := dat dL11_h2 15 rfl
theorem dK11_272 : decode cX11_init 272 = .ok (.bipush (12), 2) := dat dL11_h2 16 rfl
theorem dK11_274 : decode cX11_init 274 = .ok (.ldc2_w 111, 3) := dat dL11_h2 17 rfl
theorem dK11_277 : decode cX11_init 277 = .ok (.lastore, 1) := dat dL11_h2 18 rfl
theorem dK11_278 : decode cX11_init 278 = .ok (.aload_n 0, 1) := dat dL11_h2 19 rfl
theorem dK11_279 : decode cX11_init 279 = .ok (.getfield 47, 3) := dat dL11_h2 20 rfl
theorem dK11_282 : decode cX11_init 282 = .ok (.bipush (13), 2) := dat dL11_h2 21 rfl
theorem dK11_284 : decode cX11_init 284 = .ok (.ldc2_w 113, 3) := dat dL11_h2 22 rfl
theorem dK11_287 : decode cX11_init 287 = .ok (.lastore, 1) := dat dL11_h2 23 rfl
theorem dK11_288 : decode cX11_init 288 = .ok (.aload_n 0, 1) := dat dL11_h2 24 rfl
theorem dK11_289 : decode cX11_init 289 = .ok (.getfield 47, 3) := dat dL11_h2 25 rfl
theorem dK11_292 : decode cX11_init 292 = .ok (.bipush (14), 2) := dat dL11_h2 26 rfl
theorem dK11_294 : decode cX11_init 294 = .ok (.ldc2_w 115, 3) := dat dL11_h2 27 rfl
theorem dK11_297 : decode cX11_init 297 = .ok (.lastore, 1) := dat dL11_h2 28 rfl
theorem dK11_298 : decode cX11_init 298 = .ok (.aload_n 0, 1) := dat dL11_h2 29 rfl
theorem dK11_299 : decode cX11_init 299 = .ok (.getfield 47, 3) := dat dL11_h2 30 rfl
theorem dK11_302 : decode cX11_init 302 = .ok (.bipush (15), 2) := dat dL11_h2 31 rfl
theorem dK11_304 : decode cX11_init 304 = .ok (.ldc2_w 117, 3) := dat dL11_h2 32 rfl
theorem dK11_307 : decode cX11_init 307 = .ok (.lastore, 1) := dat dL11_h2 33 rfl
theorem dK11_308 : decode cX11_init 308 = .ok (.aload_n 0, 1) := dat dL11_h2 34 rfl
theorem dK11_309 : decode cX11_init 309 = .ok (.getfield 47, 3) := dat dL11_h2 35 rfl
theorem dK11_312 : decode cX11_init 312 = .ok (.bipush (16), 2) := dat dL11_h2 36 rfl
theorem dK11_314 : decode cX11_init 314 = .ok (.ldc2_w 119, 3) := dat dL11_h2 37 rfl
theorem dK11_317 : decode cX11_init 317 = .ok (.lastore, 1) := dat dL11_h2 38 rfl
theorem dK11_318 : decode cX11_init 318 = .ok (.aload_n 0, 1) := dat dL11_h2 39 rfl
theorem dK11_319 : decode cX11_init 319 = .ok (.getfield 47, 3) := dat dL11_h2 40 rfl
theorem dK11_322 : decode cX11_init 322 = .ok (.bipush (17), 2) := dat dL11_h2 41 rfl
theorem dK11_324 : decode cX11_init 324 = .ok (.ldc2_w 121, 3) := dat dL11_h2 42 rfl
theorem dK11_327 : decode cX11_init 327 = .ok (.lastore, 1) := dat dL11_h2 43 rfl
theorem dK11_328 : decode cX11_init 328 = .ok (.aload_n 0, 1) := dat dL11_h2 44 rfl
theorem dK11_329 : decode cX11_init 329 = .ok (.getfield 47, 3) := dat dL11_h2 45 rfl
theorem dK11_332 : decode cX11_init 332 = .ok (.bipush (18), 2) := dat dL11_h2 46 rfl
theorem dK11_334 : decode cX11_init 334 = .ok (.ldc2_w 123, 3) := dat dL11_h2 47 rfl
theorem dK11_337 : decode cX11_init 337 = .ok (.lastore, 1) := dat dL11_h2 48 rfl
theorem dK11_338 : decode cX11_init 338 = .ok (.aload_n 0, 1) := dat dL11_h2 49 rfl
theorem dK11_339 : decode cX11_init 339 = .ok (.getfield 47, 3) := dat dL11_h2 50 rfl
theorem dK11_342 : decode cX11_init 342 = .ok (.bipush (19), 2) := dat dL11_h2 51 rfl
theorem dK11_344 : decode cX11_init 344 = .ok (.ldc2_w 125, 3) := dat dL11_h2 52 rfl
theorem dK11_347 : decode cX11_init 347 = .ok (.lastore, 1) := dat dL11_h2 53 rfl
theorem dK11_348 : decode cX11_init 348 = .ok (.aload_n 0, 1) := dat dL11_h2 54 rfl
theorem dK11_349 : decode cX11_init 349 = .ok (.getfield 47, 3) := dat dL11_h2 55 rfl
theorem dK11_352 : decode cX11_init 352 = .ok (.bipush (20), 2) := dat dL11_h2 56 rfl
theorem dK11_354 : decode cX11_init 354 = .ok (.ldc2_w 127, 3) := dat dL11_h2 57 rfl
theorem dK11_357 : decode cX11_init 357 = .ok (.lastore, 1) := dat dL11_h2 58 rfl
theorem dK11_358 : decode cX11_init 358 = .ok (.aload_n 0, 1) := dat dL11_h2 59 rfl
def dL11_l3 : List (Nat × Instr × Nat) := [(359, .getfield 47, 3), (362, .bipush (21), 2), (364, .ldc2_w 129, 3), (367, .lastore, 1), (368, .aload_n 0, 1), (369, .getfield 47, 3), (372, .bipush (22), 2), (374, .ldc2_w 131, 3), (377, .lastore, 1), (378, .aload_n 0, 1), (379, .getfield 47, 3), (382, .bipush (23), 2), (384, .ldc2_w 133, 3), (387, .lastore, 1), (388, .aload_n 0, 1), (389, .getfield 47, 3), (392, .bipush (24), 2), (394, .ldc2_w 135, 3), (397, .lastore, 1), (398, .aload_n 0, 1), (399, .getfield 47, 3), (402, .bipush (25), 2), (404, .ldc2_w 137, 3), (407, .lastore, 1), (408, .return_, 1)]
theorem dL11_h3 : dall cX11_init dL11_l3 = true := by decide +kernel
theorem dK11_359 : decode cX11_init 359 = .ok (.getfield 47, 3) := dat dL11_h3 0 rfl
theorem dK11_362 : decode cX11_init 362 = .ok (.bipush (21), 2) := dat dL11_h3 1 rfl
theorem dK11_364 : decode cX11_init 364 = .ok (.ldc2_w 129, 3) := dat dL11_h3 2 rfl
theorem dK11_367 : decode cX11_init 367 = .ok (.lastore, 1) := dat dL11_h3 3 rfl
theorem dK11_368 : decode cX11_init 368 = .ok (.aload_n 0, 1) := dat dL11_h3 4 rfl
theorem dK11_369 : decode cX11_init 369 = .ok (.getfield 47, 3) := dat dL11_h3 5 rfl
theorem dK11_372 : decode cX11_init 372 = .ok (.bipush (22), 2) := dat dL11_h3 6 rfl
theorem dK11_374 : decode cX11_init 374 = .ok (.ldc2_w 131, 3) := dat dL11_h3 7 rfl
theorem dK11_377 : decode cX11_init 377 = .ok (.lastore, 1) := dat dL11_h3 8 rfl
theorem dK11_378 : decode cX11_init 378 = .ok (.aload_n 0, 1) := dat dL11_h3 9 rfl
theorem dK11_379 : decode cX11_init 379 = .ok (.getfield 47, 3) := dat dL11_h3 10 rfl
theorem dK11_382 : decode cX11_init 382 = .ok (.bipush (23), 2) := dat dL11_h3 11 rfl
theorem dK11_384 : decode cX11_init 384 = .ok (.ldc2_w 133, 3) := dat dL11_h3 12 rfl
theorem dK11_387 : decode cX11_init 387 = .ok (.lastore, 1) := dat dL11_h3 13 rfl
theorem dK11_388 : decode cX11_init 388 = .ok (.aload_n 0, 1) := dat dL11_h3 14 rfl
theorem dK11_389 : decode cX11_init 389 = .ok (.getfield 47, 3) := dat dL11_h3 15 rfl
theorem dK11_392 : decode cX11_init 392 = .ok (.bipush (24), 2) := dat dL11_h3 16 rfl
theorem dK11_394 : decode cX11_init 394 = .ok (.ldc2_w 135, 3) := dat dL11_h3 17 rfl
theorem dK11_397 : decode cX11_init 397 = .ok (.lastore, 1) := dat dL11_h3 18 rfl
theorem dK11_398 : decode cX11_init 398 = .ok (.aload_n 0, 1) := dat dL11_h3 19 rfl
theorem dK11_399 : decode cX11_init 399 = .ok (.getfield 47, 3) := dat dL11_h3 20 rfl
theorem dK11_402 : decode cX11_init 402 = .ok (.bipush (25), 2) := dat dL11_h3 21 rfl
theorem dK11_404 : decode cX11_init 404 = .ok (.ldc2_w 137, 3) := dat dL11_h3 22 rfl
theorem dK11_407 : decode cX11_init 407 = .ok (.lastore, 1) := dat dL11_h3 23 rfl
theorem dK11_408 : decode cX11_init 408 = .ok (.return_, 1) := dat dL11_h3 24 rfl
end ZDR
