/-! codes and listings of the reference: printed by program (wip/whole/gen_meth.py) -/
abbrev b_MO_init : ByteArray := prog_13_method_1_code
abbrev y_MO_init : MethodName := ⟨"ServerDeskModel", "<init>", "()V"⟩
def q_MO_init : List (Nat × Instr × Nat) := [(0, .aload_n 0, 1), (1, .invokespecial 1, 3), (4, .aload_n 0, 1), (5, .iconst 5, 1), (6, .newarray .int, 2), (8, .putfield 7, 3), (11, .aload_n 0, 1), (12, .iconst 5, 1), (13, .newarray .int, 2), (15, .putfield 13, 3), (18, .aload_n 0, 1), (19, .iconst 5, 1), (20, .newarray .int, 2), (22, .putfield 16, 3), (25, .aload_n 0, 1), (26, .iconst 5, 1), (27, .newarray .int, 2), (29, .putfield 19, 3), (32, .aload_n 0, 1), (33, .iconst 5, 1), (34, .newarray .int, 2), (36, .putfield 22, 3), (39, .aload_n 0, 1), (40, .iconst 4, 1), (41, .newarray .int, 2), (43, .dup, 1), (44, .iconst 0, 1), (45, .iconst 1, 1), (46, .iastore, 1), (47, .dup, 1), (48, .iconst 1, 1), (49, .iconst 1, 1), (50, .iastore, 1), (51, .dup, 1), (52, .iconst 2, 1), (53, .iconst 1, 1), (54, .iastore, 1), (55, .dup, 1), (56, .iconst 3, 1), (57, .iconst 1, 1), (58, .iastore, 1), (59, .putfield 25, 3), (62, .aload_n 0, 1), (63, .iconst 4, 1), (64, .newarray .int, 2), (66, .dup, 1), (67, .iconst 0, 1), (68, .bipush 60, 2), (70, .iastore, 1), (71, .dup, 1), (72, .iconst 1, 1), (73, .bipush 60, 2), (75, .iastore, 1), (76, .dup, 1), (77, .iconst 2, 1), (78, .bipush 60, 2), (80, .iastore, 1), (81, .dup, 1), (82, .iconst 3, 1), (83, .bipush 60, 2), (85, .iastore, 1), (86, .putfield 28, 3), (89, .aload_n 0, 1), (90, .bipush 40, 2), (92, .newarray .int, 2), (94, .putfield 31, 3), (97, .aload_n 0, 1), (98, .bipush 40, 2), (100, .newarray .int, 2), (102, .putfield 34, 3), (105, .aload_n 0, 1), (106, .bipush 40, 2), (108, .newarray .boolean, 2), (110, .putfield 37, 3), (113, .aload_n 0, 1), (114, .sipush 200, 3), (117, .newarray .int, 2), (119, .putfield 41, 3), (122, .aload_n 0, 1), (123, .sipush 200, 3), (126, .newarray .int, 2), (128, .putfield 44, 3), (131, .aload_n 0, 1), (132, .sipush 200, 3), (135, .newarray .int, 2), (137, .putfield 47, 3), (140, .aload_n 0, 1), (141, .iconst 5, 1), (142, .newarray .int, 2), (144, .putfield 50, 3), (147, .aload_n 0, 1), (148, .iconst 5, 1), (149, .newarray .int, 2), (151, .putfield 53, 3), (154, .aload_n 0, 1), (155, .iconst 5, 1), (156, .newarray .int, 2), (158, .putfield 56, 3), (161, .aload_n 0, 1), (162, .sipush 2001, 3), (165, .newarray .int, 2), (167, .putfield 59, 3), (170, .aload_n 0, 1), (171, .bipush 40, 2), (173, .newarray .int, 2), (175, .putfield 62, 3), (178, .aload_n 0, 1), (179, .bipush 40, 2), (181, .newarray .int, 2), (183, .putfield 65, 3), (186, .aload_n 0, 1), (187, .sipush 2001, 3), (190, .newarray .int, 2), (192, .putfield 68, 3), (195, .aload_n 0, 1), (196, .iconst 5, 1), (197, .newarray .int, 2), (199, .putfield 71, 3), (202, .aload_n 0, 1), (203, .iconst 5, 1), (204, .newarray .int, 2), (206, .putfield 74, 3), (209, .aload_n 0, 1), (210, .iconst 5, 1), (211, .newarray .int, 2), (213, .putfield 77, 3), (216, .aload_n 0, 1), (217, .sipush 2001, 3), (220, .newarray .int, 2), (222, .putfield 80, 3), (225, .aload_n 0, 1), (226, .bipush 40, 2), (228, .newarray .int, 2), (230, .putfield 83, 3), (233, .aload_n 0, 1), (234, .bipush 40, 2), (236, .newarray .int, 2), (238, .putfield 86, 3), (241, .aload_n 0, 1), (242, .sipush 2001, 3), (245, .newarray .int, 2), (247, .putfield 89, 3), (250, .return_, 1)]
def i_MO_init : Nat → Option (Instr × Nat) := am_find q_MO_init
theorem d_MO_init_0 : decode b_MO_init 0 = .ok (.aload_n 0, 1) := by decide +kernel
theorem d_MO_init_1 : decode b_MO_init 1 = .ok (.invokespecial 1, 3) := by decide +kernel
theorem d_MO_init_4 : decode b_MO_init 4 = .ok (.aload_n 0, 1) := by decide +kernel
theorem d_MO_init_5 : decode b_MO_init 5 = .ok (.iconst 5, 1) := by decide +kernel
theorem d_MO_init_6 : decode b_MO_init 6 = .ok (.newarray .int, 2) := by decide +kernel
theorem d_MO_init_8 : decode b_MO_init 8 = .ok (.putfield 7, 3) := by decide +kernel
theorem d_MO_init_11 : decode b_MO_init 11 = .ok (.aload_n 0, 1) := by decide +kernel
theorem d_MO_init_12 : decode b_MO_init 12 = .ok (.iconst 5, 1) := by decide +kernel
theorem d_MO_init_13 : decode b_MO_init 13 = .ok (.newarray .int, 2) := by decide +kernel
theorem d_MO_init_15 : decode b_MO_init 15 = .ok (.putfield 13, 3) := by decide +kernel
theorem d_MO_init_18 : decode b_MO_init 18 = .ok (.aload_n 0, 1) := by decide +kernel
theorem d_MO_init_19 : decode b_MO_init 19 = .ok (.iconst 5, 1) := by decide +kernel
theorem d_MO_init_20 : decode b_MO_init 20 = .ok (.newarray .int, 2) := by decide +kernel
theorem d_MO_init_22 : decode b_MO_init 22 = .ok (.putfield 16, 3) := by decide +kernel
theorem d_MO_init_25 : decode b_MO_init 25 = .ok (.aload_n 0, 1) := by decide +kernel
theorem d_MO_init_26 : decode b_MO_init 26 = .ok (.iconst 5, 1) := by decide +kernel
theorem d_MO_init_27 : decode b_MO_init 27 = .ok (.newarray .int, 2) := by decide +kernel
theorem d_MO_init_29 : decode b_MO_init 29 = .ok (.putfield 19, 3) := by decide +kernel
theorem d_MO_init_32 : decode b_MO_init 32 = .ok (.aload_n 0, 1) := by decide +kernel
theorem d_MO_init_33 : decode b_MO_init 33 = .ok (.iconst 5, 1) := by decide +kernel
theorem d_MO_init_34 : decode b_MO_init 34 = .ok (.newarray .int, 2) := by decide +kernel
theorem d_MO_init_36 : decode b_MO_init 36 = .ok (.putfield 22, 3) := by decide +kernel
theorem d_MO_init_39 : decode b_MO_init 39 = .ok (.aload_n 0, 1) := by decide +kernel
theorem d_MO_init_40 : decode b_MO_init 40 = .ok (.iconst 4, 1) := by decide +kernel
theorem d_MO_init_41 : decode b_MO_init 41 = .ok (.newarray .int, 2) := by decide +kernel
theorem d_MO_init_43 : decode b_MO_init 43 = .ok (.dup, 1) := by decide +kernel
theorem d_MO_init_44 : decode b_MO_init 44 = .ok (.iconst 0, 1) := by decide +kernel
theorem d_MO_init_45 : decode b_MO_init 45 = .ok (.iconst 1, 1) := by decide +kernel
theorem d_MO_init_46 : decode b_MO_init 46 = .ok (.iastore, 1) := by decide +kernel
theorem d_MO_init_47 : decode b_MO_init 47 = .ok (.dup, 1) := by decide +kernel
theorem d_MO_init_48 : decode b_MO_init 48 = .ok (.iconst 1, 1) := by decide +kernel
theorem d_MO_init_49 : decode b_MO_init 49 = .ok (.iconst 1, 1) := by decide +kernel
theorem d_MO_init_50 : decode b_MO_init 50 = .ok (.iastore, 1) := by decide +kernel
theorem d_MO_init_51 : decode b_MO_init 51 = .ok (.dup, 1) := by decide +kernel
theorem d_MO_init_52 : decode b_MO_init 52 = .ok (.iconst 2, 1) := by decide +kernel
theorem d_MO_init_53 : decode b_MO_init 53 = .ok (.iconst 1, 1) := by decide +kernel
theorem d_MO_init_54 : decode b_MO_init 54 = .ok (.iastore, 1) := by decide +kernel
theorem d_MO_init_55 : decode b_MO_init 55 = .ok (.dup, 1) := by decide +kernel
theorem d_MO_init_56 : decode b_MO_init 56 = .ok (.iconst 3, 1) := by decide +kernel
theorem d_MO_init_57 : decode b_MO_init 57 = .ok (.iconst 1, 1) := by decide +kernel
theorem d_MO_init_58 : decode b_MO_init 58 = .ok (.iastore, 1) := by decide +kernel
theorem d_MO_init_59 : decode b_MO_init 59 = .ok (.putfield 25, 3) := by decide +kernel
theorem d_MO_init_62 : decode b_MO_init 62 = .ok (.aload_n 0, 1) := by decide +kernel
theorem d_MO_init_63 : decode b_MO_init 63 = .ok (.iconst 4, 1) := by decide +kernel
theorem d_MO_init_64 : decode b_MO_init 64 = .ok (.newarray .int, 2) := by decide +kernel
theorem d_MO_init_66 : decode b_MO_init 66 = .ok (.dup, 1) := by decide +kernel
theorem d_MO_init_67 : decode b_MO_init 67 = .ok (.iconst 0, 1) := by decide +kernel
theorem d_MO_init_68 : decode b_MO_init 68 = .ok (.bipush 60, 2) := by decide +kernel
theorem d_MO_init_70 : decode b_MO_init 70 = .ok (.iastore, 1) := by decide +kernel
theorem d_MO_init_71 : decode b_MO_init 71 = .ok (.dup, 1) := by decide +kernel
theorem d_MO_init_72 : decode b_MO_init 72 = .ok (.iconst 1, 1) := by decide +kernel
theorem d_MO_init_73 : decode b_MO_init 73 = .ok (.bipush 60, 2) := by decide +kernel
theorem d_MO_init_75 : decode b_MO_init 75 = .ok (.iastore, 1) := by decide +kernel
theorem d_MO_init_76 : decode b_MO_init 76 = .ok (.dup, 1) := by decide +kernel
theorem d_MO_init_77 : decode b_MO_init 77 = .ok (.iconst 2, 1) := by decide +kernel
theorem d_MO_init_78 : decode b_MO_init 78 = .ok (.bipush 60, 2) := by decide +kernel
theorem d_MO_init_80 : decode b_MO_init 80 = .ok (.iastore, 1) := by decide +kernel
theorem d_MO_init_81 : decode b_MO_init 81 = .ok (.dup, 1) := by decide +kernel
theorem d_MO_init_82 : decode b_MO_init 82 = .ok (.iconst 3, 1) := by decide +kernel
theorem d_MO_init_83 : decode b_MO_init 83 = .ok (.bipush 60, 2) := by decide +kernel
theorem d_MO_init_85 : decode b_MO_init 85 = .ok (.iastore, 1) := by decide +kernel
theorem d_MO_init_86 : decode b_MO_init 86 = .ok (.putfield 28, 3) := by decide +kernel
theorem d_MO_init_89 : decode b_MO_init 89 = .ok (.aload_n 0, 1) := by decide +kernel
theorem d_MO_init_90 : decode b_MO_init 90 = .ok (.bipush 40, 2) := by decide +kernel
theorem d_MO_init_92 : decode b_MO_init 92 = .ok (.newarray .int, 2) := by decide +kernel
theorem d_MO_init_94 : decode b_MO_init 94 = .ok (.putfield 31, 3) := by decide +kernel
theorem d_MO_init_97 : decode b_MO_init 97 = .ok (.aload_n 0, 1) := by decide +kernel
theorem d_MO_init_98 : decode b_MO_init 98 = .ok (.bipush 40, 2) := by decide +kernel
theorem d_MO_init_100 : decode b_MO_init 100 = .ok (.newarray .int, 2) := by decide +kernel
theorem d_MO_init_102 : decode b_MO_init 102 = .ok (.putfield 34, 3) := by decide +kernel
theorem d_MO_init_105 : decode b_MO_init 105 = .ok (.aload_n 0, 1) := by decide +kernel
theorem d_MO_init_106 : decode b_MO_init 106 = .ok (.bipush 40, 2) := by decide +kernel
theorem d_MO_init_108 : decode b_MO_init 108 = .ok (.newarray .boolean, 2) := by decide +kernel
theorem d_MO_init_110 : decode b_MO_init 110 = .ok (.putfield 37, 3) := by decide +kernel
theorem d_MO_init_113 : decode b_MO_init 113 = .ok (.aload_n 0, 1) := by decide +kernel
theorem d_MO_init_114 : decode b_MO_init 114 = .ok (.sipush 200, 3) := by decide +kernel
theorem d_MO_init_117 : decode b_MO_init 117 = .ok (.newarray .int, 2) := by decide +kernel
theorem d_MO_init_119 : decode b_MO_init 119 = .ok (.putfield 41, 3) := by decide +kernel
theorem d_MO_init_122 : decode b_MO_init 122 = .ok (.aload_n 0, 1) := by decide +kernel
theorem d_MO_init_123 : decode b_MO_init 123 = .ok (.sipush 200, 3) := by decide +kernel
theorem d_MO_init_126 : decode b_MO_init 126 = .ok (.newarray .int, 2) := by decide +kernel
theorem d_MO_init_128 : decode b_MO_init 128 = .ok (.putfield 44, 3) := by decide +kernel
theorem d_MO_init_131 : decode b_MO_init 131 = .ok (.aload_n 0, 1) := by decide +kernel
theorem d_MO_init_132 : decode b_MO_init 132 = .ok (.sipush 200, 3) := by decide +kernel
theorem d_MO_init_135 : decode b_MO_init 135 = .ok (.newarray .int, 2) := by decide +kernel
theorem d_MO_init_137 : decode b_MO_init 137 = .ok (.putfield 47, 3) := by decide +kernel
theorem d_MO_init_140 : decode b_MO_init 140 = .ok (.aload_n 0, 1) := by decide +kernel
theorem d_MO_init_141 : decode b_MO_init 141 = .ok (.iconst 5, 1) := by decide +kernel
theorem d_MO_init_142 : decode b_MO_init 142 = .ok (.newarray .int, 2) := by decide +kernel
theorem d_MO_init_144 : decode b_MO_init 144 = .ok (.putfield 50, 3) := by decide +kernel
theorem d_MO_init_147 : decode b_MO_init 147 = .ok (.aload_n 0, 1) := by decide +kernel
theorem d_MO_init_148 : decode b_MO_init 148 = .ok (.iconst 5, 1) := by decide +kernel
theorem d_MO_init_149 : decode b_MO_init 149 = .ok (.newarray .int, 2) := by decide +kernel
theorem d_MO_init_151 : decode b_MO_init 151 = .ok (.putfield 53, 3) := by decide +kernel
theorem d_MO_init_154 : decode b_MO_init 154 = .ok (.aload_n 0, 1) := by decide +kernel
theorem d_MO_init_155 : decode b_MO_init 155 = .ok (.iconst 5, 1) := by decide +kernel
theorem d_MO_init_156 : decode b_MO_init 156 = .ok (.newarray .int, 2) := by decide +kernel
theorem d_MO_init_158 : decode b_MO_init 158 = .ok (.putfield 56, 3) := by decide +kernel
theorem d_MO_init_161 : decode b_MO_init 161 = .ok (.aload_n 0, 1) := by decide +kernel
theorem d_MO_init_162 : decode b_MO_init 162 = .ok (.sipush 2001, 3) := by decide +kernel
theorem d_MO_init_165 : decode b_MO_init 165 = .ok (.newarray .int, 2) := by decide +kernel
theorem d_MO_init_167 : decode b_MO_init 167 = .ok (.putfield 59, 3) := by decide +kernel
theorem d_MO_init_170 : decode b_MO_init 170 = .ok (.aload_n 0, 1) := by decide +kernel
theorem d_MO_init_171 : decode b_MO_init 171 = .ok (.bipush 40, 2) := by decide +kernel
theorem d_MO_init_173 : decode b_MO_init 173 = .ok (.newarray .int, 2) := by decide +kernel
theorem d_MO_init_175 : decode b_MO_init 175 = .ok (.putfield 62, 3) := by decide +kernel
theorem d_MO_init_178 : decode b_MO_init 178 = .ok (.aload_n 0, 1) := by decide +kernel
theorem d_MO_init_179 : decode b_MO_init 179 = .ok (.bipush 40, 2) := by decide +kernel
theorem d_MO_init_181 : decode b_MO_init 181 = .ok (.newarray .int, 2) := by decide +kernel
theorem d_MO_init_183 : decode b_MO_init 183 = .ok (.putfield 65, 3) := by decide +kernel
theorem d_MO_init_186 : decode b_MO_init 186 = .ok (.aload_n 0, 1) := by decide +kernel
theorem d_MO_init_187 : decode b_MO_init 187 = .ok (.sipush 2001, 3) := by decide +kernel
theorem d_MO_init_190 : decode b_MO_init 190 = .ok (.newarray .int, 2) := by decide +kernel
theorem d_MO_init_192 : decode b_MO_init 192 = .ok (.putfield 68, 3) := by decide +kernel
theorem d_MO_init_195 : decode b_MO_init 195 = .ok (.aload_n 0, 1) := by decide +kernel
theorem d_MO_init_196 : decode b_MO_init 196 = .ok (.iconst 5, 1) := by decide +kernel
theorem d_MO_init_197 : decode b_MO_init 197 = .ok (.newarray .int, 2) := by decide +kernel
theorem d_MO_init_199 : decode b_MO_init 199 = .ok (.putfield 71, 3) := by decide +kernel
theorem d_MO_init_202 : decode b_MO_init 202 = .ok (.aload_n 0, 1) := by decide +kernel
theorem d_MO_init_203 : decode b_MO_init 203 = .ok (.iconst 5, 1) := by decide +kernel
theorem d_MO_init_204 : decode b_MO_init 204 = .ok (.newarray .int, 2) := by decide +kernel
theorem d_MO_init_206 : decode b_MO_init 206 = .ok (.putfield 74, 3) := by decide +kernel
theorem d_MO_init_209 : decode b_MO_init 209 = .ok (.aload_n 0, 1) := by decide +kernel
theorem d_MO_init_210 : decode b_MO_init 210 = .ok (.iconst 5, 1) := by decide +kernel
theorem d_MO_init_211 : decode b_MO_init 211 = .ok (.newarray .int, 2) := by decide +kernel
theorem d_MO_init_213 : decode b_MO_init 213 = .ok (.putfield 77, 3) := by decide +kernel
theorem d_MO_init_216 : decode b_MO_init 216 = .ok (.aload_n 0, 1) := by decide +kernel
theorem d_MO_init_217 : decode b_MO_init 217 = .ok (.sipush 2001, 3) := by decide +kernel
theorem d_MO_init_220 : decode b_MO_init 220 = .ok (.newarray .int, 2) := by decide +kernel
theorem d_MO_init_222 : decode b_MO_init 222 = .ok (.putfield 80, 3) := by decide +kernel
theorem d_MO_init_225 : decode b_MO_init 225 = .ok (.aload_n 0, 1) := by decide +kernel
theorem d_MO_init_226 : decode b_MO_init 226 = .ok (.bipush 40, 2) := by decide +kernel
theorem d_MO_init_228 : decode b_MO_init 228 = .ok (.newarray .int, 2) := by decide +kernel
theorem d_MO_init_230 : decode b_MO_init 230 = .ok (.putfield 83, 3) := by decide +kernel
theorem d_MO_init_233 : decode b_MO_init 233 = .ok (.aload_n 0, 1) := by decide +kernel
theorem d_MO_init_234 : decode b_MO_init 234 = .ok (.bipush 40, 2) := by decide +kernel
theorem d_MO_init_236 : decode b_MO_init 236 = .ok (.newarray .int, 2) := by decide +kernel
theorem d_MO_init_238 : decode b_MO_init 238 = .ok (.putfield 86, 3) := by decide +kernel
theorem d_MO_init_241 : decode b_MO_init 241 = .ok (.aload_n 0, 1) := by decide +kernel
theorem d_MO_init_242 : decode b_MO_init 242 = .ok (.sipush 2001, 3) := by decide +kernel
theorem d_MO_init_245 : decode b_MO_init 245 = .ok (.newarray .int, 2) := by decide +kernel
theorem d_MO_init_247 : decode b_MO_init 247 = .ok (.putfield 89, 3) := by decide +kernel
theorem d_MO_init_250 : decode b_MO_init 250 = .ok (.return_, 1) := by decide +kernel
theorem d_MO_init : ∀ z ∈ q_MO_init, decode b_MO_init z.1 = .ok z.2 := List.forall_mem_cons.mpr ⟨d_MO_init_0, List.forall_mem_cons.mpr ⟨d_MO_init_1, List.forall_mem_cons.mpr ⟨d_MO_init_4, List.forall_mem_cons.mpr ⟨d_MO_init_5, List.forall_mem_cons.mpr ⟨d_MO_init_6, List.forall_mem_cons.mpr ⟨d_MO_init_8, List.forall_mem_cons.mpr ⟨d_MO_init_11, List.forall_mem_cons.mpr ⟨d_MO_init_12, List.forall_mem_cons.mpr ⟨d_MO_init_13, List.forall_mem_cons.mpr ⟨d_MO_init_15, List.forall_mem_cons.mpr ⟨d_MO_init_18, List.forall_mem_cons.mpr ⟨d_MO_init_19, List.forall_mem_cons.mpr ⟨d_MO_init_20, List.forall_mem_cons.mpr ⟨d_MO_init_22, List.forall_mem_cons.mpr ⟨d_MO_init_25, List.forall_mem_cons.mpr ⟨d_MO_init_26, List.forall_mem_cons.mpr ⟨d_MO_init_27, List.forall_mem_cons.mpr ⟨d_MO_init_29, List.forall_mem_cons.mpr ⟨d_MO_init_32, List.forall_mem_cons.mpr ⟨d_MO_init_33, List.forall_mem_cons.mpr ⟨d_MO_init_34, List.forall_mem_cons.mpr ⟨d_MO_init_36, List.forall_mem_cons.mpr ⟨d_MO_init_39, List.forall_mem_cons.mpr ⟨d_MO_init_40, List.forall_mem_cons.mpr ⟨d_MO_init_41, List.forall_mem_cons.mpr ⟨d_MO_init_43, List.forall_mem_cons.mpr ⟨d_MO_init_44, List.forall_mem_cons.mpr ⟨d_MO_init_45, List.forall_mem_cons.mpr ⟨d_MO_init_46, List.forall_mem_cons.mpr ⟨d_MO_init_47, List.forall_mem_cons.mpr ⟨d_MO_init_48, List.forall_mem_cons.mpr ⟨d_MO_init_49, List.forall_mem_cons.mpr ⟨d_MO_init_50, List.forall_mem_cons.mpr ⟨d_MO_init_51, List.forall_mem_cons.mpr ⟨d_MO_init_52, List.forall_mem_cons.mpr ⟨d_MO_init_53, List.forall_mem_cons.mpr ⟨d_MO_init_54, List.forall_mem_cons.mpr ⟨d_MO_init_55, List.forall_mem_cons.mpr ⟨d_MO_init_56, List.forall_mem_cons.mpr ⟨d_MO_init_57, List.forall_mem_cons.mpr ⟨d_MO_init_58, List.forall_mem_cons.mpr ⟨d_MO_init_59, List.forall_mem_cons.mpr ⟨d_MO_init_62, List.forall_mem_cons.mpr ⟨d_MO_init_63, List.forall_mem_cons.mpr ⟨d_MO_init_64, List.forall_mem_cons.mpr ⟨d_MO_init_66, List.forall_mem_cons.mpr ⟨d_MO_init_67, List.forall_mem_cons.mpr ⟨d_MO_init_68, List.forall_mem_cons.mpr ⟨d_MO_init_70, List.forall_mem_cons.mpr ⟨d_MO_init_71, List.forall_mem_cons.mpr ⟨d_MO_init_72, List.forall_mem_cons.mpr ⟨d_MO_init_73, List.forall_mem_cons.mpr ⟨d_MO_init_75, List.forall_mem_cons.mpr ⟨d_MO_init_76, List.forall_mem_cons.mpr ⟨d_MO_init_77, List.forall_mem_cons.mpr ⟨d_MO_init_78, List.forall_mem_cons.mpr ⟨d_MO_init_80, List.forall_mem_cons.mpr ⟨d_MO_init_81, List.forall_mem_cons.mpr ⟨d_MO_init_82, List.forall_mem_cons.mpr ⟨d_MO_init_83, List.forall_mem_cons.mpr ⟨d_MO_init_85, List.forall_mem_cons.mpr ⟨d_MO_init_86, List.forall_mem_cons.mpr ⟨d_MO_init_89, List.forall_mem_cons.mpr ⟨d_MO_init_90, List.forall_mem_cons.mpr ⟨d_MO_init_92, List.forall_mem_cons.mpr ⟨d_MO_init_94, List.forall_mem_cons.mpr ⟨d_MO_init_97, List.forall_mem_cons.mpr ⟨d_MO_init_98, List.forall_mem_cons.mpr ⟨d_MO_init_100, List.forall_mem_cons.mpr ⟨d_MO_init_102, List.forall_mem_cons.mpr ⟨d_MO_init_105, List.forall_mem_cons.mpr ⟨d_MO_init_106, List.forall_mem_cons.mpr ⟨d_MO_init_108, List.forall_mem_cons.mpr ⟨d_MO_init_110, List.forall_mem_cons.mpr ⟨d_MO_init_113, List.forall_mem_cons.mpr ⟨d_MO_init_114, List.forall_mem_cons.mpr ⟨d_MO_init_117, List.forall_mem_cons.mpr ⟨d_MO_init_119, List.forall_mem_cons.mpr ⟨d_MO_init_122, List.forall_mem_cons.mpr ⟨d_MO_init_123, List.forall_mem_cons.mpr ⟨d_MO_init_126, List.forall_mem_cons.mpr ⟨d_MO_init_128, List.forall_mem_cons.mpr ⟨d_MO_init_131, List.forall_mem_cons.mpr ⟨d_MO_init_132, List.forall_mem_cons.mpr ⟨d_MO_init_135, List.forall_mem_cons.mpr ⟨d_MO_init_137, List.forall_mem_cons.mpr ⟨d_MO_init_140, List.forall_mem_cons.mpr ⟨d_MO_init_141, List.forall_mem_cons.mpr ⟨d_MO_init_142, List.forall_mem_cons.mpr ⟨d_MO_init_144, List.forall_mem_cons.mpr ⟨d_MO_init_147, List.forall_mem_cons.mpr ⟨d_MO_init_148, List.forall_mem_cons.mpr ⟨d_MO_init_149, List.forall_mem_cons.mpr ⟨d_MO_init_151, List.forall_mem_cons.mpr ⟨d_MO_init_154, List.forall_mem_cons.mpr ⟨d_MO_init_155, List.forall_mem_cons.mpr ⟨d_MO_init_156, List.forall_mem_cons.mpr ⟨d_MO_init_158, List.forall_mem_cons.mpr ⟨d_MO_init_161, List.forall_mem_cons.mpr ⟨d_MO_init_162, List.forall_mem_cons.mpr ⟨d_MO_init_165, List.forall_mem_cons.mpr ⟨d_MO_init_167, List.forall_mem_cons.mpr ⟨d_MO_init_170, List.forall_mem_cons.mpr ⟨d_MO_init_171, List.forall_mem_cons.mpr ⟨d_MO_init_173, List.forall_mem_cons.mpr ⟨d_MO_init_175, List.forall_mem_cons.mpr ⟨d_MO_init_178, List.forall_mem_cons.mpr ⟨d_MO_init_179, List.forall_mem_cons.mpr ⟨d_MO_init_181, List.forall_mem_cons.mpr ⟨d_MO_init_183, List.forall_mem_cons.mpr ⟨d_MO_init_186, List.forall_mem_cons.mpr ⟨d_MO_init_187, List.forall_mem_cons.mpr ⟨d_MO_init_190, List.forall_mem_cons.mpr ⟨d_MO_init_192, List.forall_mem_cons.mpr ⟨d_MO_init_195, List.forall_mem_cons.mpr ⟨d_MO_init_196, List.forall_mem_cons.mpr ⟨d_MO_init_197, List.forall_mem_cons.mpr ⟨d_MO_init_199, List.forall_mem_cons.mpr ⟨d_MO_init_202, List.forall_mem_cons.mpr ⟨d_MO_init_203, List.forall_mem_cons.mpr ⟨d_MO_init_204, List.forall_mem_cons.mpr ⟨d_MO_init_206, List.forall_mem_cons.mpr ⟨d_MO_init_209, List.forall_mem_cons.mpr ⟨d_MO_init_210, List.forall_mem_cons.mpr ⟨d_MO_init_211, List.forall_mem_cons.mpr ⟨d_MO_init_213, List.forall_mem_cons.mpr ⟨d_MO_init_216, List.forall_mem_cons.mpr ⟨d_MO_init_217, List.forall_mem_cons.mpr ⟨d_MO_init_220, List.forall_mem_cons.mpr ⟨d_MO_init_222, List.forall_mem_cons.mpr ⟨d_MO_init_225, List.forall_mem_cons.mpr ⟨d_MO_init_226, List.forall_mem_cons.mpr ⟨d_MO_init_228, List.forall_mem_cons.mpr ⟨d_MO_init_230, List.forall_mem_cons.mpr ⟨d_MO_init_233, List.forall_mem_cons.mpr ⟨d_MO_init_234, List.forall_mem_cons.mpr ⟨d_MO_init_236, List.forall_mem_cons.mpr ⟨d_MO_init_238, List.forall_mem_cons.mpr ⟨d_MO_init_241, List.forall_mem_cons.mpr ⟨d_MO_init_242, List.forall_mem_cons.mpr ⟨d_MO_init_245, List.forall_mem_cons.mpr ⟨d_MO_init_247, List.forall_mem_cons.mpr ⟨d_MO_init_250, fun _ h => absurd h List.not_mem_nil⟩⟩⟩⟩⟩⟩⟩⟩⟩⟩⟩⟩⟩⟩⟩⟩⟩⟩⟩⟩⟩⟩⟩⟩⟩⟩⟩⟩⟩⟩⟩⟩⟩⟩⟩⟩⟩⟩⟩⟩⟩⟩⟩⟩⟩⟩⟩⟩⟩⟩⟩⟩⟩⟩⟩⟩⟩⟩⟩⟩⟩⟩⟩⟩⟩⟩⟩⟩⟩⟩⟩⟩⟩⟩⟩⟩⟩⟩⟩⟩⟩⟩⟩⟩⟩⟩⟩⟩⟩⟩⟩⟩⟩⟩⟩⟩⟩⟩⟩⟩⟩⟩⟩⟩⟩⟩⟩⟩⟩⟩⟩⟩⟩⟩⟩⟩⟩⟩⟩⟩⟩⟩⟩⟩⟩⟩⟩⟩⟩⟩⟩⟩⟩⟩⟩⟩⟩⟩⟩⟩⟩⟩⟩
theorem i_MO_init_ok : ∀ pc i n, i_MO_init pc = some (i, n) → decode b_MO_init pc = .ok (i, n) := fun pc i n h => d_MO_init (pc, i, n) (am_find_mem h)
abbrev w_MO_init : List Jvm.Cond := Jvm.Cond.code y_MO_init b_MO_init 1 none :: vw_W
theorem c_MO_init : Jvm.Cond.code y_MO_init b_MO_init 1 none ∈ vw_W := vw_t 801 (by decide +kernel) (by decide +kernel)
abbrev r_MO_init : Room := { frames := 0, cells := 0, slots := 0, locals := 0 }
abbrev b_MO_thrown : ByteArray := prog_13_method_2_code
abbrev y_MO_thrown : MethodName := ⟨"ServerDeskModel", "thrown", "()I"⟩
def q_MO_thrown : List (Nat × Instr × Nat) := [(0, .aload_n 0, 1), (1, .getfield 92, 3), (4, .ireturn, 1)]
def i_MO_thrown : Nat → Option (Instr × Nat) := am_find q_MO_thrown
theorem d_MO_thrown_0 : decode b_MO_thrown 0 = .ok (.aload_n 0, 1) := by decide +kernel
theorem d_MO_thrown_1 : decode b_MO_thrown 1 = .ok (.getfield 92, 3) := by decide +kernel
theorem d_MO_thrown_4 : decode b_MO_thrown 4 = .ok (.ireturn, 1) := by decide +kernel
theorem d_MO_thrown : ∀ z ∈ q_MO_thrown, decode b_MO_thrown z.1 = .ok z.2 := List.forall_mem_cons.mpr ⟨d_MO_thrown_0, List.forall_mem_cons.mpr ⟨d_MO_thrown_1, List.forall_mem_cons.mpr ⟨d_MO_thrown_4, fun _ h => absurd h List.not_mem_nil⟩⟩⟩
theorem i_MO_thrown_ok : ∀ pc i n, i_MO_thrown pc = some (i, n) → decode b_MO_thrown pc = .ok (i, n) := fun pc i n h => d_MO_thrown (pc, i, n) (am_find_mem h)
theorem i_MO_thrown_0 : i_MO_thrown 0 = some (.aload_n 0, 1) := rfl
theorem i_MO_thrown_1 : i_MO_thrown 1 = some (.getfield 92, 3) := rfl
theorem i_MO_thrown_4 : i_MO_thrown 4 = some (.ireturn, 1) := rfl
abbrev w_MO_thrown : List Jvm.Cond := Jvm.Cond.code y_MO_thrown b_MO_thrown 1 (some .int) :: vw_W
theorem c_MO_thrown : Jvm.Cond.code y_MO_thrown b_MO_thrown 1 (some .int) ∈ vw_W := vw_t 945 (by decide +kernel) (by decide +kernel)
abbrev r_MO_thrown : Room := { frames := 0, cells := 0, slots := 0, locals := 0 }
abbrev b_MO_task : ByteArray := prog_13_method_6_code
abbrev y_MO_task : MethodName := ⟨"ServerDeskModel", "task", "(IIII)I"⟩
def q_MO_task : List (Nat × Instr × Nat) := [(0, .iload_n 1, 1), (1, .iconst 1, 1), (2, .bipush 60, 2), (4, .invokestatic 103, 3), (7, .ifCond .eq 38, 3), (10, .iload_n 3, 1), (11, .iconst 1, 1), (12, .bipush 60, 2), (14, .invokestatic 103, 3), (17, .ifCond .eq 28, 3), (20, .iload_n 2, 1), (21, .ifCond .lt 24, 3), (24, .iload_n 2, 1), (25, .iload_n 1, 1), (26, .if_icmp .ge 19, 3), (29, .iload 4, 2), (31, .iload_n 3, 1), (32, .if_icmp .lt 13, 3), (35, .iload 4, 2), (37, .iload_n 1, 1), (38, .if_icmp .gt 7, 3), (41, .iconst 1, 1), (42, .goto 4, 3), (45, .iconst 0, 1), (46, .istore 5, 2), (48, .aload_n 0, 1), (49, .invokevirtual 107, 3), (52, .istore 6, 2), (54, .aload_n 0, 1), (55, .iload 5, 2), (57, .ifCond .ne 7, 3), (60, .iconst 1, 1), (61, .goto 44, 3), (64, .aload_n 0, 1), (65, .getfield 96, 3), (68, .iconst 5, 1), (69, .if_icmp .eq 10, 3), (72, .aload_n 0, 1), (73, .getfield 111, 3), (76, .ifCond .eq 7, 3), (79, .iconst 2, 1), (80, .goto 25, 3), (83, .iload 6, 2), (85, .iload 6, 2), (87, .iload_n 1, 1), (88, .invokestatic 99, 3), (91, .idiv, 1), (92, .iload_n 1, 1), (93, .imul, 1), (94, .sipush 2000, 3), (97, .if_icmp .le 7, 3), (100, .iconst 3, 1), (101, .goto 4, 3), (104, .iconst 0, 1), (105, .putfield 92, 3), (108, .aload_n 0, 1), (109, .getfield 92, 3), (112, .ifCond .le 5, 3), (115, .iconst 0, 1), (116, .ireturn, 1), (117, .aload_n 0, 1), (118, .getfield 7, 3), (121, .aload_n 0, 1), (122, .getfield 96, 3), (125, .iload_n 1, 1), (126, .iastore, 1), (127, .aload_n 0, 1), (128, .getfield 13, 3), (131, .aload_n 0, 1), (132, .getfield 96, 3), (135, .iload_n 2, 1), (136, .iastore, 1), (137, .aload_n 0, 1), (138, .getfield 16, 3), (141, .aload_n 0, 1), (142, .getfield 96, 3), (145, .iload_n 3, 1), (146, .iastore, 1), (147, .aload_n 0, 1), (148, .getfield 19, 3), (151, .aload_n 0, 1), (152, .getfield 96, 3), (155, .iload 4, 2), (157, .iastore, 1), (158, .aload_n 0, 1), (159, .getfield 96, 3), (162, .istore 7, 2), (164, .iload 7, 2), (166, .ifCond .le 44, 3), (169, .aload_n 0, 1), (170, .getfield 19, 3), (173, .aload_n 0, 1), (174, .getfield 22, 3), (177, .iload 7, 2), (179, .iconst 1, 1), (180, .isub, 1), (181, .iaload, 1), (182, .iaload, 1), (183, .iload 4, 2), (185, .if_icmp .le 25, 3), (188, .aload_n 0, 1), (189, .getfield 22, 3), (192, .iload 7, 2), (194, .aload_n 0, 1), (195, .getfield 22, 3), (198, .iload 7, 2), (200, .iconst 1, 1), (201, .isub, 1), (202, .iaload, 1), (203, .iastore, 1), (204, .iinc 7 (-1), 3), (207, .goto (-43), 3), (210, .aload_n 0, 1), (211, .getfield 22, 3), (214, .iload 7, 2), (216, .aload_n 0, 1), (217, .getfield 96, 3), (220, .iastore, 1), (221, .aload_n 0, 1), (222, .dup, 1), (223, .getfield 96, 3), (226, .iconst 1, 1), (227, .iadd, 1), (228, .putfield 96, 3), (231, .aload_n 0, 1), (232, .getfield 96, 3), (235, .iconst 1, 1), (236, .isub, 1), (237, .ireturn, 1)]
def i_MO_task : Nat → Option (Instr × Nat) := am_find q_MO_task
theorem d_MO_task_0 : decode b_MO_task 0 = .ok (.iload_n 1, 1) := by decide +kernel
theorem d_MO_task_1 : decode b_MO_task 1 = .ok (.iconst 1, 1) := by decide +kernel
theorem d_MO_task_2 : decode b_MO_task 2 = .ok (.bipush 60, 2) := by decide +kernel
theorem d_MO_task_4 : decode b_MO_task 4 = .ok (.invokestatic 103, 3) := by decide +kernel
theorem d_MO_task_7 : decode b_MO_task 7 = .ok (.ifCond .eq 38, 3) := by decide +kernel
theorem d_MO_task_10 : decode b_MO_task 10 = .ok (.iload_n 3, 1) := by decide +kernel
theorem d_MO_task_11 : decode b_MO_task 11 = .ok (.iconst 1, 1) := by decide +kernel
theorem d_MO_task_12 : decode b_MO_task 12 = .ok (.bipush 60, 2) := by decide +kernel
theorem d_MO_task_14 : decode b_MO_task 14 = .ok (.invokestatic 103, 3) := by decide +kernel
theorem d_MO_task_17 : decode b_MO_task 17 = .ok (.ifCond .eq 28, 3) := by decide +kernel
theorem d_MO_task_20 : decode b_MO_task 20 = .ok (.iload_n 2, 1) := by decide +kernel
theorem d_MO_task_21 : decode b_MO_task 21 = .ok (.ifCond .lt 24, 3) := by decide +kernel
theorem d_MO_task_24 : decode b_MO_task 24 = .ok (.iload_n 2, 1) := by decide +kernel
theorem d_MO_task_25 : decode b_MO_task 25 = .ok (.iload_n 1, 1) := by decide +kernel
theorem d_MO_task_26 : decode b_MO_task 26 = .ok (.if_icmp .ge 19, 3) := by decide +kernel
theorem d_MO_task_29 : decode b_MO_task 29 = .ok (.iload 4, 2) := by decide +kernel
theorem d_MO_task_31 : decode b_MO_task 31 = .ok (.iload_n 3, 1) := by decide +kernel
theorem d_MO_task_32 : decode b_MO_task 32 = .ok (.if_icmp .lt 13, 3) := by decide +kernel
theorem d_MO_task_35 : decode b_MO_task 35 = .ok (.iload 4, 2) := by decide +kernel
theorem d_MO_task_37 : decode b_MO_task 37 = .ok (.iload_n 1, 1) := by decide +kernel
theorem d_MO_task_38 : decode b_MO_task 38 = .ok (.if_icmp .gt 7, 3) := by decide +kernel
theorem d_MO_task_41 : decode b_MO_task 41 = .ok (.iconst 1, 1) := by decide +kernel
theorem d_MO_task_42 : decode b_MO_task 42 = .ok (.goto 4, 3) := by decide +kernel
theorem d_MO_task_45 : decode b_MO_task 45 = .ok (.iconst 0, 1) := by decide +kernel
theorem d_MO_task_46 : decode b_MO_task 46 = .ok (.istore 5, 2) := by decide +kernel
theorem d_MO_task_48 : decode b_MO_task 48 = .ok (.aload_n 0, 1) := by decide +kernel
theorem d_MO_task_49 : decode b_MO_task 49 = .ok (.invokevirtual 107, 3) := by decide +kernel
theorem d_MO_task_52 : decode b_MO_task 52 = .ok (.istore 6, 2) := by decide +kernel
theorem d_MO_task_54 : decode b_MO_task 54 = .ok (.aload_n 0, 1) := by decide +kernel
theorem d_MO_task_55 : decode b_MO_task 55 = .ok (.iload 5, 2) := by decide +kernel
theorem d_MO_task_57 : decode b_MO_task 57 = .ok (.ifCond .ne 7, 3) := by decide +kernel
theorem d_MO_task_60 : decode b_MO_task 60 = .ok (.iconst 1, 1) := by decide +kernel
theorem d_MO_task_61 : decode b_MO_task 61 = .ok (.goto 44, 3) := by decide +kernel
theorem d_MO_task_64 : decode b_MO_task 64 = .ok (.aload_n 0, 1) := by decide +kernel
theorem d_MO_task_65 : decode b_MO_task 65 = .ok (.getfield 96, 3) := by decide +kernel
theorem d_MO_task_68 : decode b_MO_task 68 = .ok (.iconst 5, 1) := by decide +kernel
theorem d_MO_task_69 : decode b_MO_task 69 = .ok (.if_icmp .eq 10, 3) := by decide +kernel
theorem d_MO_task_72 : decode b_MO_task 72 = .ok (.aload_n 0, 1) := by decide +kernel
theorem d_MO_task_73 : decode b_MO_task 73 = .ok (.getfield 111, 3) := by decide +kernel
theorem d_MO_task_76 : decode b_MO_task 76 = .ok (.ifCond .eq 7, 3) := by decide +kernel
theorem d_MO_task_79 : decode b_MO_task 79 = .ok (.iconst 2, 1) := by decide +kernel
theorem d_MO_task_80 : decode b_MO_task 80 = .ok (.goto 25, 3) := by decide +kernel
theorem d_MO_task_83 : decode b_MO_task 83 = .ok (.iload 6, 2) := by decide +kernel
theorem d_MO_task_85 : decode b_MO_task 85 = .ok (.iload 6, 2) := by decide +kernel
theorem d_MO_task_87 : decode b_MO_task 87 = .ok (.iload_n 1, 1) := by decide +kernel
theorem d_MO_task_88 : decode b_MO_task 88 = .ok (.invokestatic 99, 3) := by decide +kernel
theorem d_MO_task_91 : decode b_MO_task 91 = .ok (.idiv, 1) := by decide +kernel
theorem d_MO_task_92 : decode b_MO_task 92 = .ok (.iload_n 1, 1) := by decide +kernel
theorem d_MO_task_93 : decode b_MO_task 93 = .ok (.imul, 1) := by decide +kernel
theorem d_MO_task_94 : decode b_MO_task 94 = .ok (.sipush 2000, 3) := by decide +kernel
theorem d_MO_task_97 : decode b_MO_task 97 = .ok (.if_icmp .le 7, 3) := by decide +kernel
theorem d_MO_task_100 : decode b_MO_task 100 = .ok (.iconst 3, 1) := by decide +kernel
theorem d_MO_task_101 : decode b_MO_task 101 = .ok (.goto 4, 3) := by decide +kernel
theorem d_MO_task_104 : decode b_MO_task 104 = .ok (.iconst 0, 1) := by decide +kernel
theorem d_MO_task_105 : decode b_MO_task 105 = .ok (.putfield 92, 3) := by decide +kernel
theorem d_MO_task_108 : decode b_MO_task 108 = .ok (.aload_n 0, 1) := by decide +kernel
theorem d_MO_task_109 : decode b_MO_task 109 = .ok (.getfield 92, 3) := by decide +kernel
theorem d_MO_task_112 : decode b_MO_task 112 = .ok (.ifCond .le 5, 3) := by decide +kernel
theorem d_MO_task_115 : decode b_MO_task 115 = .ok (.iconst 0, 1) := by decide +kernel
theorem d_MO_task_116 : decode b_MO_task 116 = .ok (.ireturn, 1) := by decide +kernel
theorem d_MO_task_117 : decode b_MO_task 117 = .ok (.aload_n 0, 1) := by decide +kernel
theorem d_MO_task_118 : decode b_MO_task 118 = .ok (.getfield 7, 3) := by decide +kernel
theorem d_MO_task_121 : decode b_MO_task 121 = .ok (.aload_n 0, 1) := by decide +kernel
theorem d_MO_task_122 : decode b_MO_task 122 = .ok (.getfield 96, 3) := by decide +kernel
theorem d_MO_task_125 : decode b_MO_task 125 = .ok (.iload_n 1, 1) := by decide +kernel
theorem d_MO_task_126 : decode b_MO_task 126 = .ok (.iastore, 1) := by decide +kernel
theorem d_MO_task_127 : decode b_MO_task 127 = .ok (.aload_n 0, 1) := by decide +kernel
theorem d_MO_task_128 : decode b_MO_task 128 = .ok (.getfield 13, 3) := by decide +kernel
theorem d_MO_task_131 : decode b_MO_task 131 = .ok (.aload_n 0, 1) := by decide +kernel
theorem d_MO_task_132 : decode b_MO_task 132 = .ok (.getfield 96, 3) := by decide +kernel
theorem d_MO_task_135 : decode b_MO_task 135 = .ok (.iload_n 2, 1) := by decide +kernel
theorem d_MO_task_136 : decode b_MO_task 136 = .ok (.iastore, 1) := by decide +kernel
theorem d_MO_task_137 : decode b_MO_task 137 = .ok (.aload_n 0, 1) := by decide +kernel
theorem d_MO_task_138 : decode b_MO_task 138 = .ok (.getfield 16, 3) := by decide +kernel
theorem d_MO_task_141 : decode b_MO_task 141 = .ok (.aload_n 0, 1) := by decide +kernel
theorem d_MO_task_142 : decode b_MO_task 142 = .ok (.getfield 96, 3) := by decide +kernel
theorem d_MO_task_145 : decode b_MO_task 145 = .ok (.iload_n 3, 1) := by decide +kernel
theorem d_MO_task_146 : decode b_MO_task 146 = .ok (.iastore, 1) := by decide +kernel
theorem d_MO_task_147 : decode b_MO_task 147 = .ok (.aload_n 0, 1) := by decide +kernel
theorem d_MO_task_148 : decode b_MO_task 148 = .ok (.getfield 19, 3) := by decide +kernel
theorem d_MO_task_151 : decode b_MO_task 151 = .ok (.aload_n 0, 1) := by decide +kernel
theorem d_MO_task_152 : decode b_MO_task 152 = .ok (.getfield 96, 3) := by decide +kernel
theorem d_MO_task_155 : decode b_MO_task 155 = .ok (.iload 4, 2) := by decide +kernel
theorem d_MO_task_157 : decode b_MO_task 157 = .ok (.iastore, 1) := by decide +kernel
theorem d_MO_task_158 : decode b_MO_task 158 = .ok (.aload_n 0, 1) := by decide +kernel
theorem d_MO_task_159 : decode b_MO_task 159 = .ok (.getfield 96, 3) := by decide +kernel
theorem d_MO_task_162 : decode b_MO_task 162 = .ok (.istore 7, 2) := by decide +kernel
theorem d_MO_task_164 : decode b_MO_task 164 = .ok (.iload 7, 2) := by decide +kernel
theorem d_MO_task_166 : decode b_MO_task 166 = .ok (.ifCond .le 44, 3) := by decide +kernel
theorem d_MO_task_169 : decode b_MO_task 169 = .ok (.aload_n 0, 1) := by decide +kernel
theorem d_MO_task_170 : decode b_MO_task 170 = .ok (.getfield 19, 3) := by decide +kernel
theorem d_MO_task_173 : decode b_MO_task 173 = .ok (.aload_n 0, 1) := by decide +kernel
theorem d_MO_task_174 : decode b_MO_task 174 = .ok (.getfield 22, 3) := by decide +kernel
theorem d_MO_task_177 : decode b_MO_task 177 = .ok (.iload 7, 2) := by decide +kernel
theorem d_MO_task_179 : decode b_MO_task 179 = .ok (.iconst 1, 1) := by decide +kernel
theorem d_MO_task_180 : decode b_MO_task 180 = .ok (.isub, 1) := by decide +kernel
theorem d_MO_task_181 : decode b_MO_task 181 = .ok (.iaload, 1) := by decide +kernel
theorem d_MO_task_182 : decode b_MO_task 182 = .ok (.iaload, 1) := by decide +kernel
theorem d_MO_task_183 : decode b_MO_task 183 = .ok (.iload 4, 2) := by decide +kernel
theorem d_MO_task_185 : decode b_MO_task 185 = .ok (.if_icmp .le 25, 3) := by decide +kernel
theorem d_MO_task_188 : decode b_MO_task 188 = .ok (.aload_n 0, 1) := by decide +kernel
theorem d_MO_task_189 : decode b_MO_task 189 = .ok (.getfield 22, 3) := by decide +kernel
theorem d_MO_task_192 : decode b_MO_task 192 = .ok (.iload 7, 2) := by decide +kernel
theorem d_MO_task_194 : decode b_MO_task 194 = .ok (.aload_n 0, 1) := by decide +kernel
theorem d_MO_task_195 : decode b_MO_task 195 = .ok (.getfield 22, 3) := by decide +kernel
theorem d_MO_task_198 : decode b_MO_task 198 = .ok (.iload 7, 2) := by decide +kernel
theorem d_MO_task_200 : decode b_MO_task 200 = .ok (.iconst 1, 1) := by decide +kernel
theorem d_MO_task_201 : decode b_MO_task 201 = .ok (.isub, 1) := by decide +kernel
theorem d_MO_task_202 : decode b_MO_task 202 = .ok (.iaload, 1) := by decide +kernel
theorem d_MO_task_203 : decode b_MO_task 203 = .ok (.iastore, 1) := by decide +kernel
theorem d_MO_task_204 : decode b_MO_task 204 = .ok (.iinc 7 (-1), 3) := by decide +kernel
theorem d_MO_task_207 : decode b_MO_task 207 = .ok (.goto (-43), 3) := by decide +kernel
theorem d_MO_task_210 : decode b_MO_task 210 = .ok (.aload_n 0, 1) := by decide +kernel
theorem d_MO_task_211 : decode b_MO_task 211 = .ok (.getfield 22, 3) := by decide +kernel
theorem d_MO_task_214 : decode b_MO_task 214 = .ok (.iload 7, 2) := by decide +kernel
theorem d_MO_task_216 : decode b_MO_task 216 = .ok (.aload_n 0, 1) := by decide +kernel
theorem d_MO_task_217 : decode b_MO_task 217 = .ok (.getfield 96, 3) := by decide +kernel
theorem d_MO_task_220 : decode b_MO_task 220 = .ok (.iastore, 1) := by decide +kernel
theorem d_MO_task_221 : decode b_MO_task 221 = .ok (.aload_n 0, 1) := by decide +kernel
theorem d_MO_task_222 : decode b_MO_task 222 = .ok (.dup, 1) := by decide +kernel
theorem d_MO_task_223 : decode b_MO_task 223 = .ok (.getfield 96, 3) := by decide +kernel
theorem d_MO_task_226 : decode b_MO_task 226 = .ok (.iconst 1, 1) := by decide +kernel
theorem d_MO_task_227 : decode b_MO_task 227 = .ok (.iadd, 1) := by decide +kernel
theorem d_MO_task_228 : decode b_MO_task 228 = .ok (.putfield 96, 3) := by decide +kernel
theorem d_MO_task_231 : decode b_MO_task 231 = .ok (.aload_n 0, 1) := by decide +kernel
theorem d_MO_task_232 : decode b_MO_task 232 = .ok (.getfield 96, 3) := by decide +kernel
theorem d_MO_task_235 : decode b_MO_task 235 = .ok (.iconst 1, 1) := by decide +kernel
theorem d_MO_task_236 : decode b_MO_task 236 = .ok (.isub, 1) := by decide +kernel
theorem d_MO_task_237 : decode b_MO_task 237 = .ok (.ireturn, 1) := by decide +kernel
theorem d_MO_task : ∀ z ∈ q_MO_task, decode b_MO_task z.1 = .ok z.2 := List.forall_mem_cons.mpr ⟨d_MO_task_0, List.forall_mem_cons.mpr ⟨d_MO_task_1, List.forall_mem_cons.mpr ⟨d_MO_task_2, List.forall_mem_cons.mpr ⟨d_MO_task_4, List.forall_mem_cons.mpr ⟨d_MO_task_7, List.forall_mem_cons.mpr ⟨d_MO_task_10, List.forall_mem_cons.mpr ⟨d_MO_task_11, List.forall_mem_cons.mpr ⟨d_MO_task_12, List.forall_mem_cons.mpr ⟨d_MO_task_14, List.forall_mem_cons.mpr ⟨d_MO_task_17, List.forall_mem_cons.mpr ⟨d_MO_task_20, List.forall_mem_cons.mpr ⟨d_MO_task_21, List.forall_mem_cons.mpr ⟨d_MO_task_24, List.forall_mem_cons.mpr ⟨d_MO_task_25, List.forall_mem_cons.mpr ⟨d_MO_task_26, List.forall_mem_cons.mpr ⟨d_MO_task_29, List.forall_mem_cons.mpr ⟨d_MO_task_31, List.forall_mem_cons.mpr ⟨d_MO_task_32, List.forall_mem_cons.mpr ⟨d_MO_task_35, List.forall_mem_cons.mpr ⟨d_MO_task_37, List.forall_mem_cons.mpr ⟨d_MO_task_38, List.forall_mem_cons.mpr ⟨d_MO_task_41, List.forall_mem_cons.mpr ⟨d_MO_task_42, List.forall_mem_cons.mpr ⟨d_MO_task_45, List.forall_mem_cons.mpr ⟨d_MO_task_46, List.forall_mem_cons.mpr ⟨d_MO_task_48, List.forall_mem_cons.mpr ⟨d_MO_task_49, List.forall_mem_cons.mpr ⟨d_MO_task_52, List.forall_mem_cons.mpr ⟨d_MO_task_54, List.forall_mem_cons.mpr ⟨d_MO_task_55, List.forall_mem_cons.mpr ⟨d_MO_task_57, List.forall_mem_cons.mpr ⟨d_MO_task_60, List.forall_mem_cons.mpr ⟨d_MO_task_61, List.forall_mem_cons.mpr ⟨d_MO_task_64, List.forall_mem_cons.mpr ⟨d_MO_task_65, List.forall_mem_cons.mpr ⟨d_MO_task_68, List.forall_mem_cons.mpr ⟨d_MO_task_69, List.forall_mem_cons.mpr ⟨d_MO_task_72, List.forall_mem_cons.mpr ⟨d_MO_task_73, List.forall_mem_cons.mpr ⟨d_MO_task_76, List.forall_mem_cons.mpr ⟨d_MO_task_79, List.forall_mem_cons.mpr ⟨d_MO_task_80, List.forall_mem_cons.mpr ⟨d_MO_task_83, List.forall_mem_cons.mpr ⟨d_MO_task_85, List.forall_mem_cons.mpr ⟨d_MO_task_87, List.forall_mem_cons.mpr ⟨d_MO_task_88, List.forall_mem_cons.mpr ⟨d_MO_task_91, List.forall_mem_cons.mpr ⟨d_MO_task_92, List.forall_mem_cons.mpr ⟨d_MO_task_93, List.forall_mem_cons.mpr ⟨d_MO_task_94, List.forall_mem_cons.mpr ⟨d_MO_task_97, List.forall_mem_cons.mpr ⟨d_MO_task_100, List.forall_mem_cons.mpr ⟨d_MO_task_101, List.forall_mem_cons.mpr ⟨d_MO_task_104, List.forall_mem_cons.mpr ⟨d_MO_task_105, List.forall_mem_cons.mpr ⟨d_MO_task_108, List.forall_mem_cons.mpr ⟨d_MO_task_109, List.forall_mem_cons.mpr ⟨d_MO_task_112, List.forall_mem_cons.mpr ⟨d_MO_task_115, List.forall_mem_cons.mpr ⟨d_MO_task_116, List.forall_mem_cons.mpr ⟨d_MO_task_117, List.forall_mem_cons.mpr ⟨d_MO_task_118, List.forall_mem_cons.mpr ⟨d_MO_task_121, List.forall_mem_cons.mpr ⟨d_MO_task_122, List.forall_mem_cons.mpr ⟨d_MO_task_125, List.forall_mem_cons.mpr ⟨d_MO_task_126, List.forall_mem_cons.mpr ⟨d_MO_task_127, List.forall_mem_cons.mpr ⟨d_MO_task_128, List.forall_mem_cons.mpr ⟨d_MO_task_131, List.forall_mem_cons.mpr ⟨d_MO_task_132, List.forall_mem_cons.mpr ⟨d_MO_task_135, List.forall_mem_cons.mpr ⟨d_MO_task_136, List.forall_mem_cons.mpr ⟨d_MO_task_137, List.forall_mem_cons.mpr ⟨d_MO_task_138, List.forall_mem_cons.mpr ⟨d_MO_task_141, List.forall_mem_cons.mpr ⟨d_MO_task_142, List.forall_mem_cons.mpr ⟨d_MO_task_145, List.forall_mem_cons.mpr ⟨d_MO_task_146, List.forall_mem_cons.mpr ⟨d_MO_task_147, List.forall_mem_cons.mpr ⟨d_MO_task_148, List.forall_mem_cons.mpr ⟨d_MO_task_151, List.forall_mem_cons.mpr ⟨d_MO_task_152, List.forall_mem_cons.mpr ⟨d_MO_task_155, List.forall_mem_cons.mpr ⟨d_MO_task_157, List.forall_mem_cons.mpr ⟨d_MO_task_158, List.forall_mem_cons.mpr ⟨d_MO_task_159, List.forall_mem_cons.mpr ⟨d_MO_task_162, List.forall_mem_cons.mpr ⟨d_MO_task_164, List.forall_mem_cons.mpr ⟨d_MO_task_166, List.forall_mem_cons.mpr ⟨d_MO_task_169, List.forall_mem_cons.mpr ⟨d_MO_task_170, List.forall_mem_cons.mpr ⟨d_MO_task_173, List.forall_mem_cons.mpr ⟨d_MO_task_174, List.forall_mem_cons.mpr ⟨d_MO_task_177, List.forall_mem_cons.mpr ⟨d_MO_task_179, List.forall_mem_cons.mpr ⟨d_MO_task_180, List.forall_mem_cons.mpr ⟨d_MO_task_181, List.forall_mem_cons.mpr ⟨d_MO_task_182, List.forall_mem_cons.mpr ⟨d_MO_task_183, List.forall_mem_cons.mpr ⟨d_MO_task_185, List.forall_mem_cons.mpr ⟨d_MO_task_188, List.forall_mem_cons.mpr ⟨d_MO_task_189, List.forall_mem_cons.mpr ⟨d_MO_task_192, List.forall_mem_cons.mpr ⟨d_MO_task_194, List.forall_mem_cons.mpr ⟨d_MO_task_195, List.forall_mem_cons.mpr ⟨d_MO_task_198, List.forall_mem_cons.mpr ⟨d_MO_task_200, List.forall_mem_cons.mpr ⟨d_MO_task_201, List.forall_mem_cons.mpr ⟨d_MO_task_202, List.forall_mem_cons.mpr ⟨d_MO_task_203, List.forall_mem_cons.mpr ⟨d_MO_task_204, List.forall_mem_cons.mpr ⟨d_MO_task_207, List.forall_mem_cons.mpr ⟨d_MO_task_210, List.forall_mem_cons.mpr ⟨d_MO_task_211, List.forall_mem_cons.mpr ⟨d_MO_task_214, List.forall_mem_cons.mpr ⟨d_MO_task_216, List.forall_mem_cons.mpr ⟨d_MO_task_217, List.forall_mem_cons.mpr ⟨d_MO_task_220, List.forall_mem_cons.mpr ⟨d_MO_task_221, List.forall_mem_cons.mpr ⟨d_MO_task_222, List.forall_mem_cons.mpr ⟨d_MO_task_223, List.forall_mem_cons.mpr ⟨d_MO_task_226, List.forall_mem_cons.mpr ⟨d_MO_task_227, List.forall_mem_cons.mpr ⟨d_MO_task_228, List.forall_mem_cons.mpr ⟨d_MO_task_231, List.forall_mem_cons.mpr ⟨d_MO_task_232, List.forall_mem_cons.mpr ⟨d_MO_task_235, List.forall_mem_cons.mpr ⟨d_MO_task_236, List.forall_mem_cons.mpr ⟨d_MO_task_237, fun _ h => absurd h List.not_mem_nil⟩⟩⟩⟩⟩⟩⟩⟩⟩⟩⟩⟩⟩⟩⟩⟩⟩⟩⟩⟩⟩⟩⟩⟩⟩⟩⟩⟩⟩⟩⟩⟩⟩⟩⟩⟩⟩⟩⟩⟩⟩⟩⟩⟩⟩⟩⟩⟩⟩⟩⟩⟩⟩⟩⟩⟩⟩⟩⟩⟩⟩⟩⟩⟩⟩⟩⟩⟩⟩⟩⟩⟩⟩⟩⟩⟩⟩⟩⟩⟩⟩⟩⟩⟩⟩⟩⟩⟩⟩⟩⟩⟩⟩⟩⟩⟩⟩⟩⟩⟩⟩⟩⟩⟩⟩⟩⟩⟩⟩⟩⟩⟩⟩⟩⟩⟩⟩⟩⟩⟩⟩⟩⟩⟩⟩⟩⟩⟩⟩
theorem i_MO_task_ok : ∀ pc i n, i_MO_task pc = some (i, n) → decode b_MO_task pc = .ok (i, n) := fun pc i n h => d_MO_task (pc, i, n) (am_find_mem h)
theorem i_MO_task_0 : i_MO_task 0 = some (.iload_n 1, 1) := rfl
theorem i_MO_task_1 : i_MO_task 1 = some (.iconst 1, 1) := rfl
theorem i_MO_task_2 : i_MO_task 2 = some (.bipush 60, 2) := rfl
theorem i_MO_task_4 : i_MO_task 4 = some (.invokestatic 103, 3) := rfl
theorem i_MO_task_7 : i_MO_task 7 = some (.ifCond .eq 38, 3) := rfl
theorem i_MO_task_10 : i_MO_task 10 = some (.iload_n 3, 1) := rfl
theorem i_MO_task_11 : i_MO_task 11 = some (.iconst 1, 1) := rfl
theorem i_MO_task_12 : i_MO_task 12 = some (.bipush 60, 2) := rfl
theorem i_MO_task_14 : i_MO_task 14 = some (.invokestatic 103, 3) := rfl
theorem i_MO_task_17 : i_MO_task 17 = some (.ifCond .eq 28, 3) := rfl
theorem i_MO_task_20 : i_MO_task 20 = some (.iload_n 2, 1) := rfl
theorem i_MO_task_21 : i_MO_task 21 = some (.ifCond .lt 24, 3) := rfl
theorem i_MO_task_24 : i_MO_task 24 = some (.iload_n 2, 1) := rfl
theorem i_MO_task_25 : i_MO_task 25 = some (.iload_n 1, 1) := rfl
theorem i_MO_task_26 : i_MO_task 26 = some (.if_icmp .ge 19, 3) := rfl
theorem i_MO_task_29 : i_MO_task 29 = some (.iload 4, 2) := rfl
theorem i_MO_task_31 : i_MO_task 31 = some (.iload_n 3, 1) := rfl
theorem i_MO_task_32 : i_MO_task 32 = some (.if_icmp .lt 13, 3) := rfl
theorem i_MO_task_35 : i_MO_task 35 = some (.iload 4, 2) := rfl
theorem i_MO_task_37 : i_MO_task 37 = some (.iload_n 1, 1) := rfl
theorem i_MO_task_38 : i_MO_task 38 = some (.if_icmp .gt 7, 3) := rfl
theorem i_MO_task_41 : i_MO_task 41 = some (.iconst 1, 1) := rfl
theorem i_MO_task_42 : i_MO_task 42 = some (.goto 4, 3) := rfl
theorem i_MO_task_45 : i_MO_task 45 = some (.iconst 0, 1) := rfl
theorem i_MO_task_46 : i_MO_task 46 = some (.istore 5, 2) := rfl
theorem i_MO_task_48 : i_MO_task 48 = some (.aload_n 0, 1) := rfl
theorem i_MO_task_49 : i_MO_task 49 = some (.invokevirtual 107, 3) := rfl
theorem i_MO_task_52 : i_MO_task 52 = some (.istore 6, 2) := rfl
theorem i_MO_task_54 : i_MO_task 54 = some (.aload_n 0, 1) := rfl
theorem i_MO_task_55 : i_MO_task 55 = some (.iload 5, 2) := rfl
theorem i_MO_task_57 : i_MO_task 57 = some (.ifCond .ne 7, 3) := rfl
theorem i_MO_task_60 : i_MO_task 60 = some (.iconst 1, 1) := rfl
theorem i_MO_task_61 : i_MO_task 61 = some (.goto 44, 3) := rfl
theorem i_MO_task_64 : i_MO_task 64 = some (.aload_n 0, 1) := rfl
theorem i_MO_task_65 : i_MO_task 65 = some (.getfield 96, 3) := rfl
theorem i_MO_task_68 : i_MO_task 68 = some (.iconst 5, 1) := rfl
theorem i_MO_task_69 : i_MO_task 69 = some (.if_icmp .eq 10, 3) := rfl
theorem i_MO_task_72 : i_MO_task 72 = some (.aload_n 0, 1) := rfl
theorem i_MO_task_73 : i_MO_task 73 = some (.getfield 111, 3) := rfl
theorem i_MO_task_76 : i_MO_task 76 = some (.ifCond .eq 7, 3) := rfl
theorem i_MO_task_79 : i_MO_task 79 = some (.iconst 2, 1) := rfl
theorem i_MO_task_80 : i_MO_task 80 = some (.goto 25, 3) := rfl
theorem i_MO_task_83 : i_MO_task 83 = some (.iload 6, 2) := rfl
theorem i_MO_task_85 : i_MO_task 85 = some (.iload 6, 2) := rfl
theorem i_MO_task_87 : i_MO_task 87 = some (.iload_n 1, 1) := rfl
theorem i_MO_task_88 : i_MO_task 88 = some (.invokestatic 99, 3) := rfl
theorem i_MO_task_91 : i_MO_task 91 = some (.idiv, 1) := rfl
theorem i_MO_task_92 : i_MO_task 92 = some (.iload_n 1, 1) := rfl
theorem i_MO_task_93 : i_MO_task 93 = some (.imul, 1) := rfl
theorem i_MO_task_94 : i_MO_task 94 = some (.sipush 2000, 3) := rfl
theorem i_MO_task_97 : i_MO_task 97 = some (.if_icmp .le 7, 3) := rfl
theorem i_MO_task_100 : i_MO_task 100 = some (.iconst 3, 1) := rfl
theorem i_MO_task_101 : i_MO_task 101 = some (.goto 4, 3) := rfl
theorem i_MO_task_104 : i_MO_task 104 = some (.iconst 0, 1) := rfl
theorem i_MO_task_105 : i_MO_task 105 = some (.putfield 92, 3) := rfl
theorem i_MO_task_108 : i_MO_task 108 = some (.aload_n 0, 1) := rfl
theorem i_MO_task_109 : i_MO_task 109 = some (.getfield 92, 3) := rfl
theorem i_MO_task_112 : i_MO_task 112 = some (.ifCond .le 5, 3) := rfl
theorem i_MO_task_115 : i_MO_task 115 = some (.iconst 0, 1) := rfl
theorem i_MO_task_116 : i_MO_task 116 = some (.ireturn, 1) := rfl
theorem i_MO_task_117 : i_MO_task 117 = some (.aload_n 0, 1) := rfl
theorem i_MO_task_118 : i_MO_task 118 = some (.getfield 7, 3) := rfl
theorem i_MO_task_121 : i_MO_task 121 = some (.aload_n 0, 1) := rfl
theorem i_MO_task_122 : i_MO_task 122 = some (.getfield 96, 3) := rfl
theorem i_MO_task_125 : i_MO_task 125 = some (.iload_n 1, 1) := rfl
theorem i_MO_task_126 : i_MO_task 126 = some (.iastore, 1) := rfl
theorem i_MO_task_127 : i_MO_task 127 = some (.aload_n 0, 1) := rfl
theorem i_MO_task_128 : i_MO_task 128 = some (.getfield 13, 3) := rfl
theorem i_MO_task_131 : i_MO_task 131 = some (.aload_n 0, 1) := rfl
theorem i_MO_task_132 : i_MO_task 132 = some (.getfield 96, 3) := rfl
theorem i_MO_task_135 : i_MO_task 135 = some (.iload_n 2, 1) := rfl
theorem i_MO_task_136 : i_MO_task 136 = some (.iastore, 1) := rfl
theorem i_MO_task_137 : i_MO_task 137 = some (.aload_n 0, 1) := rfl
theorem i_MO_task_138 : i_MO_task 138 = some (.getfield 16, 3) := rfl
theorem i_MO_task_141 : i_MO_task 141 = some (.aload_n 0, 1) := rfl
theorem i_MO_task_142 : i_MO_task 142 = some (.getfield 96, 3) := rfl
theorem i_MO_task_145 : i_MO_task 145 = some (.iload_n 3, 1) := rfl
theorem i_MO_task_146 : i_MO_task 146 = some (.iastore, 1) := rfl
theorem i_MO_task_147 : i_MO_task 147 = some (.aload_n 0, 1) := rfl
theorem i_MO_task_148 : i_MO_task 148 = some (.getfield 19, 3) := rfl
theorem i_MO_task_151 : i_MO_task 151 = some (.aload_n 0, 1) := rfl
theorem i_MO_task_152 : i_MO_task 152 = some (.getfield 96, 3) := rfl
theorem i_MO_task_155 : i_MO_task 155 = some (.iload 4, 2) := rfl
theorem i_MO_task_157 : i_MO_task 157 = some (.iastore, 1) := rfl
theorem i_MO_task_158 : i_MO_task 158 = some (.aload_n 0, 1) := rfl
theorem i_MO_task_159 : i_MO_task 159 = some (.getfield 96, 3) := rfl
theorem i_MO_task_162 : i_MO_task 162 = some (.istore 7, 2) := rfl
theorem i_MO_task_164 : i_MO_task 164 = some (.iload 7, 2) := rfl
theorem i_MO_task_166 : i_MO_task 166 = some (.ifCond .le 44, 3) := rfl
theorem i_MO_task_169 : i_MO_task 169 = some (.aload_n 0, 1) := rfl
theorem i_MO_task_170 : i_MO_task 170 = some (.getfield 19, 3) := rfl
set_option maxRecDepth 100000 in
theorem i_MO_task_173 : i_MO_task 173 = some (.aload_n 0, 1) := rfl
set_option maxRecDepth 100000 in
theorem i_MO_task_174 : i_MO_task 174 = some (.getfield 22, 3) := rfl
set_option maxRecDepth 100000 in
theorem i_MO_task_177 : i_MO_task 177 = some (.iload 7, 2) := rfl
set_option maxRecDepth 100000 in
theorem i_MO_task_179 : i_MO_task 179 = some (.iconst 1, 1) := rfl
set_option maxRecDepth 100000 in
theorem i_MO_task_180 : i_MO_task 180 = some (.isub, 1) := rfl
set_option maxRecDepth 100000 in
theorem i_MO_task_181 : i_MO_task 181 = some (.iaload, 1) := rfl
set_option maxRecDepth 100000 in
theorem i_MO_task_182 : i_MO_task 182 = some (.iaload, 1) := rfl
set_option maxRecDepth 100000 in
theorem i_MO_task_183 : i_MO_task 183 = some (.iload 4, 2) := rfl
set_option maxRecDepth 100000 in
theorem i_MO_task_185 : i_MO_task 185 = some (.if_icmp .le 25, 3) := rfl
set_option maxRecDepth 100000 in
theorem i_MO_task_188 : i_MO_task 188 = some (.aload_n 0, 1) := rfl
set_option maxRecDepth 100000 in
theorem i_MO_task_189 : i_MO_task 189 = some (.getfield 22, 3) := rfl
set_option maxRecDepth 100000 in
theorem i_MO_task_192 : i_MO_task 192 = some (.iload 7, 2) := rfl
set_option maxRecDepth 100000 in
theorem i_MO_task_194 : i_MO_task 194 = some (.aload_n 0, 1) := rfl
set_option maxRecDepth 100000 in
theorem i_MO_task_195 : i_MO_task 195 = some (.getfield 22, 3) := rfl
set_option maxRecDepth 100000 in
theorem i_MO_task_198 : i_MO_task 198 = some (.iload 7, 2) := rfl
set_option maxRecDepth 100000 in
theorem i_MO_task_200 : i_MO_task 200 = some (.iconst 1, 1) := rfl
set_option maxRecDepth 100000 in
theorem i_MO_task_201 : i_MO_task 201 = some (.isub, 1) := rfl
set_option maxRecDepth 100000 in
theorem i_MO_task_202 : i_MO_task 202 = some (.iaload, 1) := rfl
set_option maxRecDepth 100000 in
theorem i_MO_task_203 : i_MO_task 203 = some (.iastore, 1) := rfl
set_option maxRecDepth 100000 in
theorem i_MO_task_204 : i_MO_task 204 = some (.iinc 7 (-1), 3) := rfl
set_option maxRecDepth 100000 in
theorem i_MO_task_207 : i_MO_task 207 = some (.goto (-43), 3) := rfl
set_option maxRecDepth 100000 in
theorem i_MO_task_210 : i_MO_task 210 = some (.aload_n 0, 1) := rfl
set_option maxRecDepth 100000 in
theorem i_MO_task_211 : i_MO_task 211 = some (.getfield 22, 3) := rfl
set_option maxRecDepth 100000 in
theorem i_MO_task_214 : i_MO_task 214 = some (.iload 7, 2) := rfl
set_option maxRecDepth 100000 in
theorem i_MO_task_216 : i_MO_task 216 = some (.aload_n 0, 1) := rfl
set_option maxRecDepth 100000 in
theorem i_MO_task_217 : i_MO_task 217 = some (.getfield 96, 3) := rfl
set_option maxRecDepth 100000 in
theorem i_MO_task_220 : i_MO_task 220 = some (.iastore, 1) := rfl
set_option maxRecDepth 100000 in
theorem i_MO_task_221 : i_MO_task 221 = some (.aload_n 0, 1) := rfl
set_option maxRecDepth 100000 in
theorem i_MO_task_222 : i_MO_task 222 = some (.dup, 1) := rfl
set_option maxRecDepth 100000 in
theorem i_MO_task_223 : i_MO_task 223 = some (.getfield 96, 3) := rfl
set_option maxRecDepth 100000 in
theorem i_MO_task_226 : i_MO_task 226 = some (.iconst 1, 1) := rfl
set_option maxRecDepth 100000 in
theorem i_MO_task_227 : i_MO_task 227 = some (.iadd, 1) := rfl
set_option maxRecDepth 100000 in
theorem i_MO_task_228 : i_MO_task 228 = some (.putfield 96, 3) := rfl
set_option maxRecDepth 100000 in
theorem i_MO_task_231 : i_MO_task 231 = some (.aload_n 0, 1) := rfl
set_option maxRecDepth 100000 in
theorem i_MO_task_232 : i_MO_task 232 = some (.getfield 96, 3) := rfl
set_option maxRecDepth 100000 in
theorem i_MO_task_235 : i_MO_task 235 = some (.iconst 1, 1) := rfl
set_option maxRecDepth 100000 in
theorem i_MO_task_236 : i_MO_task 236 = some (.isub, 1) := rfl
set_option maxRecDepth 100000 in
theorem i_MO_task_237 : i_MO_task 237 = some (.ireturn, 1) := rfl
abbrev w_MO_task : List Jvm.Cond := Jvm.Cond.code y_MO_task b_MO_task 8 (some .int) :: vw_W
theorem c_MO_task : Jvm.Cond.code y_MO_task b_MO_task 8 (some .int) ∈ vw_W := vw_t 949 (by decide +kernel) (by decide +kernel)
abbrev r_MO_task : Room := { frames := 2, cells := 0, slots := 0, locals := 46 }
abbrev b_MO_in : ByteArray := prog_13_method_3_code
abbrev y_MO_in : MethodName := ⟨"ServerDeskModel", "in", "(III)Z"⟩
def q_MO_in : List (Nat × Instr × Nat) := [(0, .iload_n 0, 1), (1, .iload_n 1, 1), (2, .if_icmp .lt 12, 3), (5, .iload_n 0, 1), (6, .iload_n 2, 1), (7, .if_icmp .gt 7, 3), (10, .iconst 1, 1), (11, .goto 4, 3), (14, .iconst 0, 1), (15, .ireturn, 1)]
def i_MO_in : Nat → Option (Instr × Nat) := am_find q_MO_in
theorem d_MO_in_0 : decode b_MO_in 0 = .ok (.iload_n 0, 1) := by decide +kernel
theorem d_MO_in_1 : decode b_MO_in 1 = .ok (.iload_n 1, 1) := by decide +kernel
theorem d_MO_in_2 : decode b_MO_in 2 = .ok (.if_icmp .lt 12, 3) := by decide +kernel
theorem d_MO_in_5 : decode b_MO_in 5 = .ok (.iload_n 0, 1) := by decide +kernel
theorem d_MO_in_6 : decode b_MO_in 6 = .ok (.iload_n 2, 1) := by decide +kernel
theorem d_MO_in_7 : decode b_MO_in 7 = .ok (.if_icmp .gt 7, 3) := by decide +kernel
theorem d_MO_in_10 : decode b_MO_in 10 = .ok (.iconst 1, 1) := by decide +kernel
theorem d_MO_in_11 : decode b_MO_in 11 = .ok (.goto 4, 3) := by decide +kernel
theorem d_MO_in_14 : decode b_MO_in 14 = .ok (.iconst 0, 1) := by decide +kernel
theorem d_MO_in_15 : decode b_MO_in 15 = .ok (.ireturn, 1) := by decide +kernel
theorem d_MO_in : ∀ z ∈ q_MO_in, decode b_MO_in z.1 = .ok z.2 := List.forall_mem_cons.mpr ⟨d_MO_in_0, List.forall_mem_cons.mpr ⟨d_MO_in_1, List.forall_mem_cons.mpr ⟨d_MO_in_2, List.forall_mem_cons.mpr ⟨d_MO_in_5, List.forall_mem_cons.mpr ⟨d_MO_in_6, List.forall_mem_cons.mpr ⟨d_MO_in_7, List.forall_mem_cons.mpr ⟨d_MO_in_10, List.forall_mem_cons.mpr ⟨d_MO_in_11, List.forall_mem_cons.mpr ⟨d_MO_in_14, List.forall_mem_cons.mpr ⟨d_MO_in_15, fun _ h => absurd h List.not_mem_nil⟩⟩⟩⟩⟩⟩⟩⟩⟩⟩
theorem i_MO_in_ok : ∀ pc i n, i_MO_in pc = some (i, n) → decode b_MO_in pc = .ok (i, n) := fun pc i n h => d_MO_in (pc, i, n) (am_find_mem h)
theorem i_MO_in_0 : i_MO_in 0 = some (.iload_n 0, 1) := rfl
theorem i_MO_in_1 : i_MO_in 1 = some (.iload_n 1, 1) := rfl
theorem i_MO_in_2 : i_MO_in 2 = some (.if_icmp .lt 12, 3) := rfl
theorem i_MO_in_5 : i_MO_in 5 = some (.iload_n 0, 1) := rfl
theorem i_MO_in_6 : i_MO_in 6 = some (.iload_n 2, 1) := rfl
theorem i_MO_in_7 : i_MO_in 7 = some (.if_icmp .gt 7, 3) := rfl
theorem i_MO_in_10 : i_MO_in 10 = some (.iconst 1, 1) := rfl
theorem i_MO_in_11 : i_MO_in 11 = some (.goto 4, 3) := rfl
theorem i_MO_in_14 : i_MO_in 14 = some (.iconst 0, 1) := rfl
theorem i_MO_in_15 : i_MO_in 15 = some (.ireturn, 1) := rfl
abbrev w_MO_in : List Jvm.Cond := Jvm.Cond.code y_MO_in b_MO_in 3 (some .boolean) :: vw_W
theorem c_MO_in : Jvm.Cond.code y_MO_in b_MO_in 3 (some .boolean) ∈ vw_W := vw_t 952 (by decide +kernel) (by decide +kernel)
abbrev r_MO_in : Room := { frames := 0, cells := 0, slots := 0, locals := 0 }
abbrev b_MO_hyperperiod : ByteArray := prog_13_method_5_code
abbrev y_MO_hyperperiod : MethodName := ⟨"ServerDeskModel", "hyperperiod", "()I"⟩
def q_MO_hyperperiod : List (Nat × Instr × Nat) := [(0, .iconst 1, 1), (1, .istore_n 1, 1), (2, .iconst 0, 1), (3, .istore_n 2, 1), (4, .iload_n 2, 1), (5, .aload_n 0, 1), (6, .getfield 96, 3), (9, .if_icmp .ge 29, 3), (12, .iload_n 1, 1), (13, .iload_n 1, 1), (14, .aload_n 0, 1), (15, .getfield 7, 3), (18, .iload_n 2, 1), (19, .iaload, 1), (20, .invokestatic 99, 3), (23, .idiv, 1), (24, .aload_n 0, 1), (25, .getfield 7, 3), (28, .iload_n 2, 1), (29, .iaload, 1), (30, .imul, 1), (31, .istore_n 1, 1), (32, .iinc 2 1, 3), (35, .goto (-31), 3), (38, .iload_n 1, 1), (39, .ireturn, 1)]
def i_MO_hyperperiod : Nat → Option (Instr × Nat) := am_find q_MO_hyperperiod
theorem d_MO_hyperperiod_0 : decode b_MO_hyperperiod 0 = .ok (.iconst 1, 1) := by decide +kernel
theorem d_MO_hyperperiod_1 : decode b_MO_hyperperiod 1 = .ok (.istore_n 1, 1) := by decide +kernel
theorem d_MO_hyperperiod_2 : decode b_MO_hyperperiod 2 = .ok (.iconst 0, 1) := by decide +kernel
theorem d_MO_hyperperiod_3 : decode b_MO_hyperperiod 3 = .ok (.istore_n 2, 1) := by decide +kernel
theorem d_MO_hyperperiod_4 : decode b_MO_hyperperiod 4 = .ok (.iload_n 2, 1) := by decide +kernel
theorem d_MO_hyperperiod_5 : decode b_MO_hyperperiod 5 = .ok (.aload_n 0, 1) := by decide +kernel
theorem d_MO_hyperperiod_6 : decode b_MO_hyperperiod 6 = .ok (.getfield 96, 3) := by decide +kernel
theorem d_MO_hyperperiod_9 : decode b_MO_hyperperiod 9 = .ok (.if_icmp .ge 29, 3) := by decide +kernel
theorem d_MO_hyperperiod_12 : decode b_MO_hyperperiod 12 = .ok (.iload_n 1, 1) := by decide +kernel
theorem d_MO_hyperperiod_13 : decode b_MO_hyperperiod 13 = .ok (.iload_n 1, 1) := by decide +kernel
theorem d_MO_hyperperiod_14 : decode b_MO_hyperperiod 14 = .ok (.aload_n 0, 1) := by decide +kernel
theorem d_MO_hyperperiod_15 : decode b_MO_hyperperiod 15 = .ok (.getfield 7, 3) := by decide +kernel
theorem d_MO_hyperperiod_18 : decode b_MO_hyperperiod 18 = .ok (.iload_n 2, 1) := by decide +kernel
theorem d_MO_hyperperiod_19 : decode b_MO_hyperperiod 19 = .ok (.iaload, 1) := by decide +kernel
theorem d_MO_hyperperiod_20 : decode b_MO_hyperperiod 20 = .ok (.invokestatic 99, 3) := by decide +kernel
theorem d_MO_hyperperiod_23 : decode b_MO_hyperperiod 23 = .ok (.idiv, 1) := by decide +kernel
theorem d_MO_hyperperiod_24 : decode b_MO_hyperperiod 24 = .ok (.aload_n 0, 1) := by decide +kernel
theorem d_MO_hyperperiod_25 : decode b_MO_hyperperiod 25 = .ok (.getfield 7, 3) := by decide +kernel
theorem d_MO_hyperperiod_28 : decode b_MO_hyperperiod 28 = .ok (.iload_n 2, 1) := by decide +kernel
theorem d_MO_hyperperiod_29 : decode b_MO_hyperperiod 29 = .ok (.iaload, 1) := by decide +kernel
theorem d_MO_hyperperiod_30 : decode b_MO_hyperperiod 30 = .ok (.imul, 1) := by decide +kernel
theorem d_MO_hyperperiod_31 : decode b_MO_hyperperiod 31 = .ok (.istore_n 1, 1) := by decide +kernel
theorem d_MO_hyperperiod_32 : decode b_MO_hyperperiod 32 = .ok (.iinc 2 1, 3) := by decide +kernel
theorem d_MO_hyperperiod_35 : decode b_MO_hyperperiod 35 = .ok (.goto (-31), 3) := by decide +kernel
theorem d_MO_hyperperiod_38 : decode b_MO_hyperperiod 38 = .ok (.iload_n 1, 1) := by decide +kernel
theorem d_MO_hyperperiod_39 : decode b_MO_hyperperiod 39 = .ok (.ireturn, 1) := by decide +kernel
theorem d_MO_hyperperiod : ∀ z ∈ q_MO_hyperperiod, decode b_MO_hyperperiod z.1 = .ok z.2 := List.forall_mem_cons.mpr ⟨d_MO_hyperperiod_0, List.forall_mem_cons.mpr ⟨d_MO_hyperperiod_1, List.forall_mem_cons.mpr ⟨d_MO_hyperperiod_2, List.forall_mem_cons.mpr ⟨d_MO_hyperperiod_3, List.forall_mem_cons.mpr ⟨d_MO_hyperperiod_4, List.forall_mem_cons.mpr ⟨d_MO_hyperperiod_5, List.forall_mem_cons.mpr ⟨d_MO_hyperperiod_6, List.forall_mem_cons.mpr ⟨d_MO_hyperperiod_9, List.forall_mem_cons.mpr ⟨d_MO_hyperperiod_12, List.forall_mem_cons.mpr ⟨d_MO_hyperperiod_13, List.forall_mem_cons.mpr ⟨d_MO_hyperperiod_14, List.forall_mem_cons.mpr ⟨d_MO_hyperperiod_15, List.forall_mem_cons.mpr ⟨d_MO_hyperperiod_18, List.forall_mem_cons.mpr ⟨d_MO_hyperperiod_19, List.forall_mem_cons.mpr ⟨d_MO_hyperperiod_20, List.forall_mem_cons.mpr ⟨d_MO_hyperperiod_23, List.forall_mem_cons.mpr ⟨d_MO_hyperperiod_24, List.forall_mem_cons.mpr ⟨d_MO_hyperperiod_25, List.forall_mem_cons.mpr ⟨d_MO_hyperperiod_28, List.forall_mem_cons.mpr ⟨d_MO_hyperperiod_29, List.forall_mem_cons.mpr ⟨d_MO_hyperperiod_30, List.forall_mem_cons.mpr ⟨d_MO_hyperperiod_31, List.forall_mem_cons.mpr ⟨d_MO_hyperperiod_32, List.forall_mem_cons.mpr ⟨d_MO_hyperperiod_35, List.forall_mem_cons.mpr ⟨d_MO_hyperperiod_38, List.forall_mem_cons.mpr ⟨d_MO_hyperperiod_39, fun _ h => absurd h List.not_mem_nil⟩⟩⟩⟩⟩⟩⟩⟩⟩⟩⟩⟩⟩⟩⟩⟩⟩⟩⟩⟩⟩⟩⟩⟩⟩⟩
theorem i_MO_hyperperiod_ok : ∀ pc i n, i_MO_hyperperiod pc = some (i, n) → decode b_MO_hyperperiod pc = .ok (i, n) := fun pc i n h => d_MO_hyperperiod (pc, i, n) (am_find_mem h)
theorem i_MO_hyperperiod_0 : i_MO_hyperperiod 0 = some (.iconst 1, 1) := rfl
theorem i_MO_hyperperiod_1 : i_MO_hyperperiod 1 = some (.istore_n 1, 1) := rfl
theorem i_MO_hyperperiod_2 : i_MO_hyperperiod 2 = some (.iconst 0, 1) := rfl
theorem i_MO_hyperperiod_3 : i_MO_hyperperiod 3 = some (.istore_n 2, 1) := rfl
theorem i_MO_hyperperiod_4 : i_MO_hyperperiod 4 = some (.iload_n 2, 1) := rfl
theorem i_MO_hyperperiod_5 : i_MO_hyperperiod 5 = some (.aload_n 0, 1) := rfl
theorem i_MO_hyperperiod_6 : i_MO_hyperperiod 6 = some (.getfield 96, 3) := rfl
theorem i_MO_hyperperiod_9 : i_MO_hyperperiod 9 = some (.if_icmp .ge 29, 3) := rfl
theorem i_MO_hyperperiod_12 : i_MO_hyperperiod 12 = some (.iload_n 1, 1) := rfl
theorem i_MO_hyperperiod_13 : i_MO_hyperperiod 13 = some (.iload_n 1, 1) := rfl
theorem i_MO_hyperperiod_14 : i_MO_hyperperiod 14 = some (.aload_n 0, 1) := rfl
theorem i_MO_hyperperiod_15 : i_MO_hyperperiod 15 = some (.getfield 7, 3) := rfl
theorem i_MO_hyperperiod_18 : i_MO_hyperperiod 18 = some (.iload_n 2, 1) := rfl
theorem i_MO_hyperperiod_19 : i_MO_hyperperiod 19 = some (.iaload, 1) := rfl
theorem i_MO_hyperperiod_20 : i_MO_hyperperiod 20 = some (.invokestatic 99, 3) := rfl
theorem i_MO_hyperperiod_23 : i_MO_hyperperiod 23 = some (.idiv, 1) := rfl
theorem i_MO_hyperperiod_24 : i_MO_hyperperiod 24 = some (.aload_n 0, 1) := rfl
theorem i_MO_hyperperiod_25 : i_MO_hyperperiod 25 = some (.getfield 7, 3) := rfl
theorem i_MO_hyperperiod_28 : i_MO_hyperperiod 28 = some (.iload_n 2, 1) := rfl
theorem i_MO_hyperperiod_29 : i_MO_hyperperiod 29 = some (.iaload, 1) := rfl
theorem i_MO_hyperperiod_30 : i_MO_hyperperiod 30 = some (.imul, 1) := rfl
theorem i_MO_hyperperiod_31 : i_MO_hyperperiod 31 = some (.istore_n 1, 1) := rfl
theorem i_MO_hyperperiod_32 : i_MO_hyperperiod 32 = some (.iinc 2 1, 3) := rfl
theorem i_MO_hyperperiod_35 : i_MO_hyperperiod 35 = some (.goto (-31), 3) := rfl
theorem i_MO_hyperperiod_38 : i_MO_hyperperiod 38 = some (.iload_n 1, 1) := rfl
theorem i_MO_hyperperiod_39 : i_MO_hyperperiod 39 = some (.ireturn, 1) := rfl
abbrev w_MO_hyperperiod : List Jvm.Cond := Jvm.Cond.code y_MO_hyperperiod b_MO_hyperperiod 3 (some .int) :: vw_W
theorem c_MO_hyperperiod : Jvm.Cond.code y_MO_hyperperiod b_MO_hyperperiod 3 (some .int) ∈ vw_W := vw_t 956 (by decide +kernel) (by decide +kernel)
abbrev r_MO_hyperperiod : Room := { frames := 1, cells := 0, slots := 0, locals := 24 }
abbrev b_MO_divisor : ByteArray := prog_13_method_4_code
abbrev y_MO_divisor : MethodName := ⟨"ServerDeskModel", "divisor", "(II)I"⟩
def q_MO_divisor : List (Nat × Instr × Nat) := [(0, .iload_n 0, 1), (1, .istore_n 2, 1), (2, .iload_n 1, 1), (3, .istore_n 3, 1), (4, .iload_n 3, 1), (5, .ifCond .le 16, 3), (8, .iload_n 2, 1), (9, .iload_n 3, 1), (10, .irem, 1), (11, .istore 4, 2), (13, .iload_n 3, 1), (14, .istore_n 2, 1), (15, .iload 4, 2), (17, .istore_n 3, 1), (18, .goto (-14), 3), (21, .iload_n 2, 1), (22, .ireturn, 1)]
def i_MO_divisor : Nat → Option (Instr × Nat) := am_find q_MO_divisor
theorem d_MO_divisor_0 : decode b_MO_divisor 0 = .ok (.iload_n 0, 1) := by decide +kernel
theorem d_MO_divisor_1 : decode b_MO_divisor 1 = .ok (.istore_n 2, 1) := by decide +kernel
theorem d_MO_divisor_2 : decode b_MO_divisor 2 = .ok (.iload_n 1, 1) := by decide +kernel
theorem d_MO_divisor_3 : decode b_MO_divisor 3 = .ok (.istore_n 3, 1) := by decide +kernel
theorem d_MO_divisor_4 : decode b_MO_divisor 4 = .ok (.iload_n 3, 1) := by decide +kernel
theorem d_MO_divisor_5 : decode b_MO_divisor 5 = .ok (.ifCond .le 16, 3) := by decide +kernel
theorem d_MO_divisor_8 : decode b_MO_divisor 8 = .ok (.iload_n 2, 1) := by decide +kernel
theorem d_MO_divisor_9 : decode b_MO_divisor 9 = .ok (.iload_n 3, 1) := by decide +kernel
theorem d_MO_divisor_10 : decode b_MO_divisor 10 = .ok (.irem, 1) := by decide +kernel
theorem d_MO_divisor_11 : decode b_MO_divisor 11 = .ok (.istore 4, 2) := by decide +kernel
theorem d_MO_divisor_13 : decode b_MO_divisor 13 = .ok (.iload_n 3, 1) := by decide +kernel
theorem d_MO_divisor_14 : decode b_MO_divisor 14 = .ok (.istore_n 2, 1) := by decide +kernel
theorem d_MO_divisor_15 : decode b_MO_divisor 15 = .ok (.iload 4, 2) := by decide +kernel
theorem d_MO_divisor_17 : decode b_MO_divisor 17 = .ok (.istore_n 3, 1) := by decide +kernel
theorem d_MO_divisor_18 : decode b_MO_divisor 18 = .ok (.goto (-14), 3) := by decide +kernel
theorem d_MO_divisor_21 : decode b_MO_divisor 21 = .ok (.iload_n 2, 1) := by decide +kernel
theorem d_MO_divisor_22 : decode b_MO_divisor 22 = .ok (.ireturn, 1) := by decide +kernel
theorem d_MO_divisor : ∀ z ∈ q_MO_divisor, decode b_MO_divisor z.1 = .ok z.2 := List.forall_mem_cons.mpr ⟨d_MO_divisor_0, List.forall_mem_cons.mpr ⟨d_MO_divisor_1, List.forall_mem_cons.mpr ⟨d_MO_divisor_2, List.forall_mem_cons.mpr ⟨d_MO_divisor_3, List.forall_mem_cons.mpr ⟨d_MO_divisor_4, List.forall_mem_cons.mpr ⟨d_MO_divisor_5, List.forall_mem_cons.mpr ⟨d_MO_divisor_8, List.forall_mem_cons.mpr ⟨d_MO_divisor_9, List.forall_mem_cons.mpr ⟨d_MO_divisor_10, List.forall_mem_cons.mpr ⟨d_MO_divisor_11, List.forall_mem_cons.mpr ⟨d_MO_divisor_13, List.forall_mem_cons.mpr ⟨d_MO_divisor_14, List.forall_mem_cons.mpr ⟨d_MO_divisor_15, List.forall_mem_cons.mpr ⟨d_MO_divisor_17, List.forall_mem_cons.mpr ⟨d_MO_divisor_18, List.forall_mem_cons.mpr ⟨d_MO_divisor_21, List.forall_mem_cons.mpr ⟨d_MO_divisor_22, fun _ h => absurd h List.not_mem_nil⟩⟩⟩⟩⟩⟩⟩⟩⟩⟩⟩⟩⟩⟩⟩⟩⟩
theorem i_MO_divisor_ok : ∀ pc i n, i_MO_divisor pc = some (i, n) → decode b_MO_divisor pc = .ok (i, n) := fun pc i n h => d_MO_divisor (pc, i, n) (am_find_mem h)
theorem i_MO_divisor_0 : i_MO_divisor 0 = some (.iload_n 0, 1) := rfl
theorem i_MO_divisor_1 : i_MO_divisor 1 = some (.istore_n 2, 1) := rfl
theorem i_MO_divisor_2 : i_MO_divisor 2 = some (.iload_n 1, 1) := rfl
theorem i_MO_divisor_3 : i_MO_divisor 3 = some (.istore_n 3, 1) := rfl
theorem i_MO_divisor_4 : i_MO_divisor 4 = some (.iload_n 3, 1) := rfl
theorem i_MO_divisor_5 : i_MO_divisor 5 = some (.ifCond .le 16, 3) := rfl
theorem i_MO_divisor_8 : i_MO_divisor 8 = some (.iload_n 2, 1) := rfl
theorem i_MO_divisor_9 : i_MO_divisor 9 = some (.iload_n 3, 1) := rfl
theorem i_MO_divisor_10 : i_MO_divisor 10 = some (.irem, 1) := rfl
theorem i_MO_divisor_11 : i_MO_divisor 11 = some (.istore 4, 2) := rfl
theorem i_MO_divisor_13 : i_MO_divisor 13 = some (.iload_n 3, 1) := rfl
theorem i_MO_divisor_14 : i_MO_divisor 14 = some (.istore_n 2, 1) := rfl
theorem i_MO_divisor_15 : i_MO_divisor 15 = some (.iload 4, 2) := rfl
theorem i_MO_divisor_17 : i_MO_divisor 17 = some (.istore_n 3, 1) := rfl
theorem i_MO_divisor_18 : i_MO_divisor 18 = some (.goto (-14), 3) := rfl
theorem i_MO_divisor_21 : i_MO_divisor 21 = some (.iload_n 2, 1) := rfl
theorem i_MO_divisor_22 : i_MO_divisor 22 = some (.ireturn, 1) := rfl
abbrev w_MO_divisor : List Jvm.Cond := Jvm.Cond.code y_MO_divisor b_MO_divisor 5 (some .int) :: vw_W
theorem c_MO_divisor : Jvm.Cond.code y_MO_divisor b_MO_divisor 5 (some .int) ∈ vw_W := vw_t 959 (by decide +kernel) (by decide +kernel)
abbrev r_MO_divisor : Room := { frames := 0, cells := 0, slots := 0, locals := 0 }
abbrev b_MO_rule : ByteArray := prog_13_method_10_code
abbrev y_MO_rule : MethodName := ⟨"ServerDeskModel", "rule", "(III)Z"⟩
def q_MO_rule : List (Nat × Instr × Nat) := [(0, .iload_n 1, 1), (1, .iconst 0, 1), (2, .iconst 3, 1), (3, .invokestatic 103, 3), (6, .ifCond .eq 35, 3), (9, .iload_n 1, 1), (10, .ifCond .eq 27, 3), (13, .iload_n 1, 1), (14, .iconst 3, 1), (15, .if_icmp .eq 22, 3), (18, .iload_n 3, 1), (19, .iconst 1, 1), (20, .bipush 60, 2), (22, .invokestatic 103, 3), (25, .ifCond .eq 16, 3), (28, .iload_n 2, 1), (29, .iconst 1, 1), (30, .iload_n 3, 1), (31, .invokestatic 103, 3), (34, .ifCond .eq 7, 3), (37, .iconst 1, 1), (38, .goto 4, 3), (41, .iconst 0, 1), (42, .istore 4, 2), (44, .aload_n 0, 1), (45, .iload 4, 2), (47, .ifCond .ne 7, 3), (50, .iconst 1, 1), (51, .goto 15, 3), (54, .aload_n 0, 1), (55, .getfield 111, 3), (58, .ifCond .eq 7, 3), (61, .iconst 2, 1), (62, .goto 4, 3), (65, .iconst 0, 1), (66, .putfield 92, 3), (69, .aload_n 0, 1), (70, .getfield 92, 3), (73, .ifCond .le 5, 3), (76, .iconst 0, 1), (77, .ireturn, 1), (78, .aload_n 0, 1), (79, .getfield 25, 3), (82, .iload_n 1, 1), (83, .iload_n 2, 1), (84, .iastore, 1), (85, .aload_n 0, 1), (86, .getfield 28, 3), (89, .iload_n 1, 1), (90, .iload_n 3, 1), (91, .iastore, 1), (92, .aload_n 0, 1), (93, .iload_n 1, 1), (94, .invokevirtual 121, 3), (97, .istore 5, 2), (99, .iload 5, 2), (101, .ifCond .eq 8, 3), (104, .aload_n 0, 1), (105, .iload_n 1, 1), (106, .putfield 125, 3), (109, .iload 5, 2), (111, .ireturn, 1)]
def i_MO_rule : Nat → Option (Instr × Nat) := am_find q_MO_rule
theorem d_MO_rule_0 : decode b_MO_rule 0 = .ok (.iload_n 1, 1) := by decide +kernel
theorem d_MO_rule_1 : decode b_MO_rule 1 = .ok (.iconst 0, 1) := by decide +kernel
theorem d_MO_rule_2 : decode b_MO_rule 2 = .ok (.iconst 3, 1) := by decide +kernel
theorem d_MO_rule_3 : decode b_MO_rule 3 = .ok (.invokestatic 103, 3) := by decide +kernel
theorem d_MO_rule_6 : decode b_MO_rule 6 = .ok (.ifCond .eq 35, 3) := by decide +kernel
theorem d_MO_rule_9 : decode b_MO_rule 9 = .ok (.iload_n 1, 1) := by decide +kernel
theorem d_MO_rule_10 : decode b_MO_rule 10 = .ok (.ifCond .eq 27, 3) := by decide +kernel
theorem d_MO_rule_13 : decode b_MO_rule 13 = .ok (.iload_n 1, 1) := by decide +kernel
theorem d_MO_rule_14 : decode b_MO_rule 14 = .ok (.iconst 3, 1) := by decide +kernel
theorem d_MO_rule_15 : decode b_MO_rule 15 = .ok (.if_icmp .eq 22, 3) := by decide +kernel
theorem d_MO_rule_18 : decode b_MO_rule 18 = .ok (.iload_n 3, 1) := by decide +kernel
theorem d_MO_rule_19 : decode b_MO_rule 19 = .ok (.iconst 1, 1) := by decide +kernel
theorem d_MO_rule_20 : decode b_MO_rule 20 = .ok (.bipush 60, 2) := by decide +kernel
theorem d_MO_rule_22 : decode b_MO_rule 22 = .ok (.invokestatic 103, 3) := by decide +kernel
theorem d_MO_rule_25 : decode b_MO_rule 25 = .ok (.ifCond .eq 16, 3) := by decide +kernel
theorem d_MO_rule_28 : decode b_MO_rule 28 = .ok (.iload_n 2, 1) := by decide +kernel
theorem d_MO_rule_29 : decode b_MO_rule 29 = .ok (.iconst 1, 1) := by decide +kernel
theorem d_MO_rule_30 : decode b_MO_rule 30 = .ok (.iload_n 3, 1) := by decide +kernel
theorem d_MO_rule_31 : decode b_MO_rule 31 = .ok (.invokestatic 103, 3) := by decide +kernel
theorem d_MO_rule_34 : decode b_MO_rule 34 = .ok (.ifCond .eq 7, 3) := by decide +kernel
theorem d_MO_rule_37 : decode b_MO_rule 37 = .ok (.iconst 1, 1) := by decide +kernel
theorem d_MO_rule_38 : decode b_MO_rule 38 = .ok (.goto 4, 3) := by decide +kernel
theorem d_MO_rule_41 : decode b_MO_rule 41 = .ok (.iconst 0, 1) := by decide +kernel
theorem d_MO_rule_42 : decode b_MO_rule 42 = .ok (.istore 4, 2) := by decide +kernel
theorem d_MO_rule_44 : decode b_MO_rule 44 = .ok (.aload_n 0, 1) := by decide +kernel
theorem d_MO_rule_45 : decode b_MO_rule 45 = .ok (.iload 4, 2) := by decide +kernel
theorem d_MO_rule_47 : decode b_MO_rule 47 = .ok (.ifCond .ne 7, 3) := by decide +kernel
theorem d_MO_rule_50 : decode b_MO_rule 50 = .ok (.iconst 1, 1) := by decide +kernel
theorem d_MO_rule_51 : decode b_MO_rule 51 = .ok (.goto 15, 3) := by decide +kernel
theorem d_MO_rule_54 : decode b_MO_rule 54 = .ok (.aload_n 0, 1) := by decide +kernel
theorem d_MO_rule_55 : decode b_MO_rule 55 = .ok (.getfield 111, 3) := by decide +kernel
theorem d_MO_rule_58 : decode b_MO_rule 58 = .ok (.ifCond .eq 7, 3) := by decide +kernel
theorem d_MO_rule_61 : decode b_MO_rule 61 = .ok (.iconst 2, 1) := by decide +kernel
theorem d_MO_rule_62 : decode b_MO_rule 62 = .ok (.goto 4, 3) := by decide +kernel
theorem d_MO_rule_65 : decode b_MO_rule 65 = .ok (.iconst 0, 1) := by decide +kernel
theorem d_MO_rule_66 : decode b_MO_rule 66 = .ok (.putfield 92, 3) := by decide +kernel
theorem d_MO_rule_69 : decode b_MO_rule 69 = .ok (.aload_n 0, 1) := by decide +kernel
theorem d_MO_rule_70 : decode b_MO_rule 70 = .ok (.getfield 92, 3) := by decide +kernel
theorem d_MO_rule_73 : decode b_MO_rule 73 = .ok (.ifCond .le 5, 3) := by decide +kernel
theorem d_MO_rule_76 : decode b_MO_rule 76 = .ok (.iconst 0, 1) := by decide +kernel
theorem d_MO_rule_77 : decode b_MO_rule 77 = .ok (.ireturn, 1) := by decide +kernel
theorem d_MO_rule_78 : decode b_MO_rule 78 = .ok (.aload_n 0, 1) := by decide +kernel
theorem d_MO_rule_79 : decode b_MO_rule 79 = .ok (.getfield 25, 3) := by decide +kernel
theorem d_MO_rule_82 : decode b_MO_rule 82 = .ok (.iload_n 1, 1) := by decide +kernel
theorem d_MO_rule_83 : decode b_MO_rule 83 = .ok (.iload_n 2, 1) := by decide +kernel
theorem d_MO_rule_84 : decode b_MO_rule 84 = .ok (.iastore, 1) := by decide +kernel
theorem d_MO_rule_85 : decode b_MO_rule 85 = .ok (.aload_n 0, 1) := by decide +kernel
theorem d_MO_rule_86 : decode b_MO_rule 86 = .ok (.getfield 28, 3) := by decide +kernel
theorem d_MO_rule_89 : decode b_MO_rule 89 = .ok (.iload_n 1, 1) := by decide +kernel
theorem d_MO_rule_90 : decode b_MO_rule 90 = .ok (.iload_n 3, 1) := by decide +kernel
theorem d_MO_rule_91 : decode b_MO_rule 91 = .ok (.iastore, 1) := by decide +kernel
theorem d_MO_rule_92 : decode b_MO_rule 92 = .ok (.aload_n 0, 1) := by decide +kernel
theorem d_MO_rule_93 : decode b_MO_rule 93 = .ok (.iload_n 1, 1) := by decide +kernel
theorem d_MO_rule_94 : decode b_MO_rule 94 = .ok (.invokevirtual 121, 3) := by decide +kernel
theorem d_MO_rule_97 : decode b_MO_rule 97 = .ok (.istore 5, 2) := by decide +kernel
theorem d_MO_rule_99 : decode b_MO_rule 99 = .ok (.iload 5, 2) := by decide +kernel
theorem d_MO_rule_101 : decode b_MO_rule 101 = .ok (.ifCond .eq 8, 3) := by decide +kernel
theorem d_MO_rule_104 : decode b_MO_rule 104 = .ok (.aload_n 0, 1) := by decide +kernel
theorem d_MO_rule_105 : decode b_MO_rule 105 = .ok (.iload_n 1, 1) := by decide +kernel
theorem d_MO_rule_106 : decode b_MO_rule 106 = .ok (.putfield 125, 3) := by decide +kernel
theorem d_MO_rule_109 : decode b_MO_rule 109 = .ok (.iload 5, 2) := by decide +kernel
theorem d_MO_rule_111 : decode b_MO_rule 111 = .ok (.ireturn, 1) := by decide +kernel
theorem d_MO_rule : ∀ z ∈ q_MO_rule, decode b_MO_rule z.1 = .ok z.2 := List.forall_mem_cons.mpr ⟨d_MO_rule_0, List.forall_mem_cons.mpr ⟨d_MO_rule_1, List.forall_mem_cons.mpr ⟨d_MO_rule_2, List.forall_mem_cons.mpr ⟨d_MO_rule_3, List.forall_mem_cons.mpr ⟨d_MO_rule_6, List.forall_mem_cons.mpr ⟨d_MO_rule_9, List.forall_mem_cons.mpr ⟨d_MO_rule_10, List.forall_mem_cons.mpr ⟨d_MO_rule_13, List.forall_mem_cons.mpr ⟨d_MO_rule_14, List.forall_mem_cons.mpr ⟨d_MO_rule_15, List.forall_mem_cons.mpr ⟨d_MO_rule_18, List.forall_mem_cons.mpr ⟨d_MO_rule_19, List.forall_mem_cons.mpr ⟨d_MO_rule_20, List.forall_mem_cons.mpr ⟨d_MO_rule_22, List.forall_mem_cons.mpr ⟨d_MO_rule_25, List.forall_mem_cons.mpr ⟨d_MO_rule_28, List.forall_mem_cons.mpr ⟨d_MO_rule_29, List.forall_mem_cons.mpr ⟨d_MO_rule_30, List.forall_mem_cons.mpr ⟨d_MO_rule_31, List.forall_mem_cons.mpr ⟨d_MO_rule_34, List.forall_mem_cons.mpr ⟨d_MO_rule_37, List.forall_mem_cons.mpr ⟨d_MO_rule_38, List.forall_mem_cons.mpr ⟨d_MO_rule_41, List.forall_mem_cons.mpr ⟨d_MO_rule_42, List.forall_mem_cons.mpr ⟨d_MO_rule_44, List.forall_mem_cons.mpr ⟨d_MO_rule_45, List.forall_mem_cons.mpr ⟨d_MO_rule_47, List.forall_mem_cons.mpr ⟨d_MO_rule_50, List.forall_mem_cons.mpr ⟨d_MO_rule_51, List.forall_mem_cons.mpr ⟨d_MO_rule_54, List.forall_mem_cons.mpr ⟨d_MO_rule_55, List.forall_mem_cons.mpr ⟨d_MO_rule_58, List.forall_mem_cons.mpr ⟨d_MO_rule_61, List.forall_mem_cons.mpr ⟨d_MO_rule_62, List.forall_mem_cons.mpr ⟨d_MO_rule_65, List.forall_mem_cons.mpr ⟨d_MO_rule_66, List.forall_mem_cons.mpr ⟨d_MO_rule_69, List.forall_mem_cons.mpr ⟨d_MO_rule_70, List.forall_mem_cons.mpr ⟨d_MO_rule_73, List.forall_mem_cons.mpr ⟨d_MO_rule_76, List.forall_mem_cons.mpr ⟨d_MO_rule_77, List.forall_mem_cons.mpr ⟨d_MO_rule_78, List.forall_mem_cons.mpr ⟨d_MO_rule_79, List.forall_mem_cons.mpr ⟨d_MO_rule_82, List.forall_mem_cons.mpr ⟨d_MO_rule_83, List.forall_mem_cons.mpr ⟨d_MO_rule_84, List.forall_mem_cons.mpr ⟨d_MO_rule_85, List.forall_mem_cons.mpr ⟨d_MO_rule_86, List.forall_mem_cons.mpr ⟨d_MO_rule_89, List.forall_mem_cons.mpr ⟨d_MO_rule_90, List.forall_mem_cons.mpr ⟨d_MO_rule_91, List.forall_mem_cons.mpr ⟨d_MO_rule_92, List.forall_mem_cons.mpr ⟨d_MO_rule_93, List.forall_mem_cons.mpr ⟨d_MO_rule_94, List.forall_mem_cons.mpr ⟨d_MO_rule_97, List.forall_mem_cons.mpr ⟨d_MO_rule_99, List.forall_mem_cons.mpr ⟨d_MO_rule_101, List.forall_mem_cons.mpr ⟨d_MO_rule_104, List.forall_mem_cons.mpr ⟨d_MO_rule_105, List.forall_mem_cons.mpr ⟨d_MO_rule_106, List.forall_mem_cons.mpr ⟨d_MO_rule_109, List.forall_mem_cons.mpr ⟨d_MO_rule_111, fun _ h => absurd h List.not_mem_nil⟩⟩⟩⟩⟩⟩⟩⟩⟩⟩⟩⟩⟩⟩⟩⟩⟩⟩⟩⟩⟩⟩⟩⟩⟩⟩⟩⟩⟩⟩⟩⟩⟩⟩⟩⟩⟩⟩⟩⟩⟩⟩⟩⟩⟩⟩⟩⟩⟩⟩⟩⟩⟩⟩⟩⟩⟩⟩⟩⟩⟩⟩
theorem i_MO_rule_ok : ∀ pc i n, i_MO_rule pc = some (i, n) → decode b_MO_rule pc = .ok (i, n) := fun pc i n h => d_MO_rule (pc, i, n) (am_find_mem h)
theorem i_MO_rule_0 : i_MO_rule 0 = some (.iload_n 1, 1) := rfl
theorem i_MO_rule_1 : i_MO_rule 1 = some (.iconst 0, 1) := rfl
theorem i_MO_rule_2 : i_MO_rule 2 = some (.iconst 3, 1) := rfl
theorem i_MO_rule_3 : i_MO_rule 3 = some (.invokestatic 103, 3) := rfl
theorem i_MO_rule_6 : i_MO_rule 6 = some (.ifCond .eq 35, 3) := rfl
theorem i_MO_rule_9 : i_MO_rule 9 = some (.iload_n 1, 1) := rfl
theorem i_MO_rule_10 : i_MO_rule 10 = some (.ifCond .eq 27, 3) := rfl
theorem i_MO_rule_13 : i_MO_rule 13 = some (.iload_n 1, 1) := rfl
theorem i_MO_rule_14 : i_MO_rule 14 = some (.iconst 3, 1) := rfl
theorem i_MO_rule_15 : i_MO_rule 15 = some (.if_icmp .eq 22, 3) := rfl
theorem i_MO_rule_18 : i_MO_rule 18 = some (.iload_n 3, 1) := rfl
theorem i_MO_rule_19 : i_MO_rule 19 = some (.iconst 1, 1) := rfl
theorem i_MO_rule_20 : i_MO_rule 20 = some (.bipush 60, 2) := rfl
theorem i_MO_rule_22 : i_MO_rule 22 = some (.invokestatic 103, 3) := rfl
theorem i_MO_rule_25 : i_MO_rule 25 = some (.ifCond .eq 16, 3) := rfl
theorem i_MO_rule_28 : i_MO_rule 28 = some (.iload_n 2, 1) := rfl
theorem i_MO_rule_29 : i_MO_rule 29 = some (.iconst 1, 1) := rfl
theorem i_MO_rule_30 : i_MO_rule 30 = some (.iload_n 3, 1) := rfl
theorem i_MO_rule_31 : i_MO_rule 31 = some (.invokestatic 103, 3) := rfl
theorem i_MO_rule_34 : i_MO_rule 34 = some (.ifCond .eq 7, 3) := rfl
theorem i_MO_rule_37 : i_MO_rule 37 = some (.iconst 1, 1) := rfl
theorem i_MO_rule_38 : i_MO_rule 38 = some (.goto 4, 3) := rfl
theorem i_MO_rule_41 : i_MO_rule 41 = some (.iconst 0, 1) := rfl
theorem i_MO_rule_42 : i_MO_rule 42 = some (.istore 4, 2) := rfl
theorem i_MO_rule_44 : i_MO_rule 44 = some (.aload_n 0, 1) := rfl
theorem i_MO_rule_45 : i_MO_rule 45 = some (.iload 4, 2) := rfl
theorem i_MO_rule_47 : i_MO_rule 47 = some (.ifCond .ne 7, 3) := rfl
theorem i_MO_rule_50 : i_MO_rule 50 = some (.iconst 1, 1) := rfl
theorem i_MO_rule_51 : i_MO_rule 51 = some (.goto 15, 3) := rfl
theorem i_MO_rule_54 : i_MO_rule 54 = some (.aload_n 0, 1) := rfl
theorem i_MO_rule_55 : i_MO_rule 55 = some (.getfield 111, 3) := rfl
theorem i_MO_rule_58 : i_MO_rule 58 = some (.ifCond .eq 7, 3) := rfl
theorem i_MO_rule_61 : i_MO_rule 61 = some (.iconst 2, 1) := rfl
theorem i_MO_rule_62 : i_MO_rule 62 = some (.goto 4, 3) := rfl
theorem i_MO_rule_65 : i_MO_rule 65 = some (.iconst 0, 1) := rfl
theorem i_MO_rule_66 : i_MO_rule 66 = some (.putfield 92, 3) := rfl
theorem i_MO_rule_69 : i_MO_rule 69 = some (.aload_n 0, 1) := rfl
theorem i_MO_rule_70 : i_MO_rule 70 = some (.getfield 92, 3) := rfl
theorem i_MO_rule_73 : i_MO_rule 73 = some (.ifCond .le 5, 3) := rfl
theorem i_MO_rule_76 : i_MO_rule 76 = some (.iconst 0, 1) := rfl
theorem i_MO_rule_77 : i_MO_rule 77 = some (.ireturn, 1) := rfl
theorem i_MO_rule_78 : i_MO_rule 78 = some (.aload_n 0, 1) := rfl
theorem i_MO_rule_79 : i_MO_rule 79 = some (.getfield 25, 3) := rfl
theorem i_MO_rule_82 : i_MO_rule 82 = some (.iload_n 1, 1) := rfl
theorem i_MO_rule_83 : i_MO_rule 83 = some (.iload_n 2, 1) := rfl
theorem i_MO_rule_84 : i_MO_rule 84 = some (.iastore, 1) := rfl
theorem i_MO_rule_85 : i_MO_rule 85 = some (.aload_n 0, 1) := rfl
theorem i_MO_rule_86 : i_MO_rule 86 = some (.getfield 28, 3) := rfl
theorem i_MO_rule_89 : i_MO_rule 89 = some (.iload_n 1, 1) := rfl
theorem i_MO_rule_90 : i_MO_rule 90 = some (.iload_n 3, 1) := rfl
theorem i_MO_rule_91 : i_MO_rule 91 = some (.iastore, 1) := rfl
theorem i_MO_rule_92 : i_MO_rule 92 = some (.aload_n 0, 1) := rfl
theorem i_MO_rule_93 : i_MO_rule 93 = some (.iload_n 1, 1) := rfl
theorem i_MO_rule_94 : i_MO_rule 94 = some (.invokevirtual 121, 3) := rfl
theorem i_MO_rule_97 : i_MO_rule 97 = some (.istore 5, 2) := rfl
theorem i_MO_rule_99 : i_MO_rule 99 = some (.iload 5, 2) := rfl
theorem i_MO_rule_101 : i_MO_rule 101 = some (.ifCond .eq 8, 3) := rfl
theorem i_MO_rule_104 : i_MO_rule 104 = some (.aload_n 0, 1) := rfl
theorem i_MO_rule_105 : i_MO_rule 105 = some (.iload_n 1, 1) := rfl
theorem i_MO_rule_106 : i_MO_rule 106 = some (.putfield 125, 3) := rfl
theorem i_MO_rule_109 : i_MO_rule 109 = some (.iload 5, 2) := rfl
theorem i_MO_rule_111 : i_MO_rule 111 = some (.ireturn, 1) := rfl
abbrev w_MO_rule : List Jvm.Cond := Jvm.Cond.code y_MO_rule b_MO_rule 6 (some .boolean) :: vw_W
theorem c_MO_rule : Jvm.Cond.code y_MO_rule b_MO_rule 6 (some .boolean) ∈ vw_W := vw_t 963 (by decide +kernel) (by decide +kernel)
abbrev r_MO_rule : Room := { frames := 3, cells := 0, slots := 0, locals := 70 }
abbrev b_MO_isAdmitted : ByteArray := prog_13_method_9_code
abbrev y_MO_isAdmitted : MethodName := ⟨"ServerDeskModel", "isAdmitted", "(I)Z"⟩
def q_MO_isAdmitted : List (Nat × Instr × Nat) := [(0, .iconst 0, 1), (1, .istore_n 2, 1), (2, .iload_n 2, 1), (3, .aload_n 0, 1), (4, .getfield 96, 3), (7, .if_icmp .ge 143, 3), (10, .aload_n 0, 1), (11, .getfield 22, 3), (14, .iload_n 2, 1), (15, .iaload, 1), (16, .istore_n 3, 1), (17, .aload_n 0, 1), (18, .getfield 16, 3), (21, .iload_n 3, 1), (22, .iaload, 1), (23, .istore 4, 2), (25, .iconst 1, 1), (26, .istore 5, 2), (28, .iload 5, 2), (30, .ifCond .eq 101, 3), (33, .iload 4, 2), (35, .aload_n 0, 1), (36, .getfield 19, 3), (39, .iload_n 3, 1), (40, .iaload, 1), (41, .if_icmp .gt 90, 3), (44, .aload_n 0, 1), (45, .getfield 16, 3), (48, .iload_n 3, 1), (49, .iaload, 1), (50, .aload_n 0, 1), (51, .iload_n 1, 1), (52, .iload 4, 2), (54, .invokevirtual 118, 3), (57, .iadd, 1), (58, .istore 6, 2), (60, .iconst 0, 1), (61, .istore 7, 2), (63, .iload 7, 2), (65, .iload_n 2, 1), (66, .if_icmp .ge 44, 3), (69, .iload 6, 2), (71, .iload 4, 2), (73, .aload_n 0, 1), (74, .getfield 7, 3), (77, .aload_n 0, 1), (78, .getfield 22, 3), (81, .iload 7, 2), (83, .iaload, 1), (84, .iaload, 1), (85, .invokestatic 115, 3), (88, .aload_n 0, 1), (89, .getfield 16, 3), (92, .aload_n 0, 1), (93, .getfield 22, 3), (96, .iload 7, 2), (98, .iaload, 1), (99, .iaload, 1), (100, .imul, 1), (101, .iadd, 1), (102, .istore 6, 2), (104, .iinc 7 1, 3), (107, .goto (-44), 3), (110, .iload 6, 2), (112, .iload 4, 2), (114, .if_icmp .eq 7, 3), (117, .iconst 1, 1), (118, .goto 4, 3), (121, .iconst 0, 1), (122, .istore 5, 2), (124, .iload 6, 2), (126, .istore 4, 2), (128, .goto (-100), 3), (131, .iload 4, 2), (133, .aload_n 0, 1), (134, .getfield 19, 3), (137, .iload_n 3, 1), (138, .iaload, 1), (139, .if_icmp .le 5, 3), (142, .iconst 0, 1), (143, .ireturn, 1), (144, .iinc 2 1, 3), (147, .goto (-145), 3), (150, .iconst 1, 1), (151, .ireturn, 1)]
def i_MO_isAdmitted : Nat → Option (Instr × Nat) := am_find q_MO_isAdmitted
theorem d_MO_isAdmitted_0 : decode b_MO_isAdmitted 0 = .ok (.iconst 0, 1) := by decide +kernel
theorem d_MO_isAdmitted_1 : decode b_MO_isAdmitted 1 = .ok (.istore_n 2, 1) := by decide +kernel
theorem d_MO_isAdmitted_2 : decode b_MO_isAdmitted 2 = .ok (.iload_n 2, 1) := by decide +kernel
theorem d_MO_isAdmitted_3 : decode b_MO_isAdmitted 3 = .ok (.aload_n 0, 1) := by decide +kernel
theorem d_MO_isAdmitted_4 : decode b_MO_isAdmitted 4 = .ok (.getfield 96, 3) := by decide +kernel
theorem d_MO_isAdmitted_7 : decode b_MO_isAdmitted 7 = .ok (.if_icmp .ge 143, 3) := by decide +kernel
theorem d_MO_isAdmitted_10 : decode b_MO_isAdmitted 10 = .ok (.aload_n 0, 1) := by decide +kernel
theorem d_MO_isAdmitted_11 : decode b_MO_isAdmitted 11 = .ok (.getfield 22, 3) := by decide +kernel
theorem d_MO_isAdmitted_14 : decode b_MO_isAdmitted 14 = .ok (.iload_n 2, 1) := by decide +kernel
theorem d_MO_isAdmitted_15 : decode b_MO_isAdmitted 15 = .ok (.iaload, 1) := by decide +kernel
theorem d_MO_isAdmitted_16 : decode b_MO_isAdmitted 16 = .ok (.istore_n 3, 1) := by decide +kernel
theorem d_MO_isAdmitted_17 : decode b_MO_isAdmitted 17 = .ok (.aload_n 0, 1) := by decide +kernel
theorem d_MO_isAdmitted_18 : decode b_MO_isAdmitted 18 = .ok (.getfield 16, 3) := by decide +kernel
theorem d_MO_isAdmitted_21 : decode b_MO_isAdmitted 21 = .ok (.iload_n 3, 1) := by decide +kernel
theorem d_MO_isAdmitted_22 : decode b_MO_isAdmitted 22 = .ok (.iaload, 1) := by decide +kernel
theorem d_MO_isAdmitted_23 : decode b_MO_isAdmitted 23 = .ok (.istore 4, 2) := by decide +kernel
theorem d_MO_isAdmitted_25 : decode b_MO_isAdmitted 25 = .ok (.iconst 1, 1) := by decide +kernel
theorem d_MO_isAdmitted_26 : decode b_MO_isAdmitted 26 = .ok (.istore 5, 2) := by decide +kernel
theorem d_MO_isAdmitted_28 : decode b_MO_isAdmitted 28 = .ok (.iload 5, 2) := by decide +kernel
theorem d_MO_isAdmitted_30 : decode b_MO_isAdmitted 30 = .ok (.ifCond .eq 101, 3) := by decide +kernel
theorem d_MO_isAdmitted_33 : decode b_MO_isAdmitted 33 = .ok (.iload 4, 2) := by decide +kernel
theorem d_MO_isAdmitted_35 : decode b_MO_isAdmitted 35 = .ok (.aload_n 0, 1) := by decide +kernel
theorem d_MO_isAdmitted_36 : decode b_MO_isAdmitted 36 = .ok (.getfield 19, 3) := by decide +kernel
theorem d_MO_isAdmitted_39 : decode b_MO_isAdmitted 39 = .ok (.iload_n 3, 1) := by decide +kernel
theorem d_MO_isAdmitted_40 : decode b_MO_isAdmitted 40 = .ok (.iaload, 1) := by decide +kernel
theorem d_MO_isAdmitted_41 : decode b_MO_isAdmitted 41 = .ok (.if_icmp .gt 90, 3) := by decide +kernel
theorem d_MO_isAdmitted_44 : decode b_MO_isAdmitted 44 = .ok (.aload_n 0, 1) := by decide +kernel
theorem d_MO_isAdmitted_45 : decode b_MO_isAdmitted 45 = .ok (.getfield 16, 3) := by decide +kernel
theorem d_MO_isAdmitted_48 : decode b_MO_isAdmitted 48 = .ok (.iload_n 3, 1) := by decide +kernel
theorem d_MO_isAdmitted_49 : decode b_MO_isAdmitted 49 = .ok (.iaload, 1) := by decide +kernel
theorem d_MO_isAdmitted_50 : decode b_MO_isAdmitted 50 = .ok (.aload_n 0, 1) := by decide +kernel
theorem d_MO_isAdmitted_51 : decode b_MO_isAdmitted 51 = .ok (.iload_n 1, 1) := by decide +kernel
theorem d_MO_isAdmitted_52 : decode b_MO_isAdmitted 52 = .ok (.iload 4, 2) := by decide +kernel
theorem d_MO_isAdmitted_54 : decode b_MO_isAdmitted 54 = .ok (.invokevirtual 118, 3) := by decide +kernel
theorem d_MO_isAdmitted_57 : decode b_MO_isAdmitted 57 = .ok (.iadd, 1) := by decide +kernel
theorem d_MO_isAdmitted_58 : decode b_MO_isAdmitted 58 = .ok (.istore 6, 2) := by decide +kernel
theorem d_MO_isAdmitted_60 : decode b_MO_isAdmitted 60 = .ok (.iconst 0, 1) := by decide +kernel
theorem d_MO_isAdmitted_61 : decode b_MO_isAdmitted 61 = .ok (.istore 7, 2) := by decide +kernel
theorem d_MO_isAdmitted_63 : decode b_MO_isAdmitted 63 = .ok (.iload 7, 2) := by decide +kernel
theorem d_MO_isAdmitted_65 : decode b_MO_isAdmitted 65 = .ok (.iload_n 2, 1) := by decide +kernel
theorem d_MO_isAdmitted_66 : decode b_MO_isAdmitted 66 = .ok (.if_icmp .ge 44, 3) := by decide +kernel
theorem d_MO_isAdmitted_69 : decode b_MO_isAdmitted 69 = .ok (.iload 6, 2) := by decide +kernel
theorem d_MO_isAdmitted_71 : decode b_MO_isAdmitted 71 = .ok (.iload 4, 2) := by decide +kernel
theorem d_MO_isAdmitted_73 : decode b_MO_isAdmitted 73 = .ok (.aload_n 0, 1) := by decide +kernel
theorem d_MO_isAdmitted_74 : decode b_MO_isAdmitted 74 = .ok (.getfield 7, 3) := by decide +kernel
theorem d_MO_isAdmitted_77 : decode b_MO_isAdmitted 77 = .ok (.aload_n 0, 1) := by decide +kernel
theorem d_MO_isAdmitted_78 : decode b_MO_isAdmitted 78 = .ok (.getfield 22, 3) := by decide +kernel
theorem d_MO_isAdmitted_81 : decode b_MO_isAdmitted 81 = .ok (.iload 7, 2) := by decide +kernel
theorem d_MO_isAdmitted_83 : decode b_MO_isAdmitted 83 = .ok (.iaload, 1) := by decide +kernel
theorem d_MO_isAdmitted_84 : decode b_MO_isAdmitted 84 = .ok (.iaload, 1) := by decide +kernel
theorem d_MO_isAdmitted_85 : decode b_MO_isAdmitted 85 = .ok (.invokestatic 115, 3) := by decide +kernel
theorem d_MO_isAdmitted_88 : decode b_MO_isAdmitted 88 = .ok (.aload_n 0, 1) := by decide +kernel
theorem d_MO_isAdmitted_89 : decode b_MO_isAdmitted 89 = .ok (.getfield 16, 3) := by decide +kernel
theorem d_MO_isAdmitted_92 : decode b_MO_isAdmitted 92 = .ok (.aload_n 0, 1) := by decide +kernel
theorem d_MO_isAdmitted_93 : decode b_MO_isAdmitted 93 = .ok (.getfield 22, 3) := by decide +kernel
theorem d_MO_isAdmitted_96 : decode b_MO_isAdmitted 96 = .ok (.iload 7, 2) := by decide +kernel
theorem d_MO_isAdmitted_98 : decode b_MO_isAdmitted 98 = .ok (.iaload, 1) := by decide +kernel
theorem d_MO_isAdmitted_99 : decode b_MO_isAdmitted 99 = .ok (.iaload, 1) := by decide +kernel
theorem d_MO_isAdmitted_100 : decode b_MO_isAdmitted 100 = .ok (.imul, 1) := by decide +kernel
theorem d_MO_isAdmitted_101 : decode b_MO_isAdmitted 101 = .ok (.iadd, 1) := by decide +kernel
theorem d_MO_isAdmitted_102 : decode b_MO_isAdmitted 102 = .ok (.istore 6, 2) := by decide +kernel
theorem d_MO_isAdmitted_104 : decode b_MO_isAdmitted 104 = .ok (.iinc 7 1, 3) := by decide +kernel
theorem d_MO_isAdmitted_107 : decode b_MO_isAdmitted 107 = .ok (.goto (-44), 3) := by decide +kernel
theorem d_MO_isAdmitted_110 : decode b_MO_isAdmitted 110 = .ok (.iload 6, 2) := by decide +kernel
theorem d_MO_isAdmitted_112 : decode b_MO_isAdmitted 112 = .ok (.iload 4, 2) := by decide +kernel
theorem d_MO_isAdmitted_114 : decode b_MO_isAdmitted 114 = .ok (.if_icmp .eq 7, 3) := by decide +kernel
theorem d_MO_isAdmitted_117 : decode b_MO_isAdmitted 117 = .ok (.iconst 1, 1) := by decide +kernel
theorem d_MO_isAdmitted_118 : decode b_MO_isAdmitted 118 = .ok (.goto 4, 3) := by decide +kernel
theorem d_MO_isAdmitted_121 : decode b_MO_isAdmitted 121 = .ok (.iconst 0, 1) := by decide +kernel
theorem d_MO_isAdmitted_122 : decode b_MO_isAdmitted 122 = .ok (.istore 5, 2) := by decide +kernel
theorem d_MO_isAdmitted_124 : decode b_MO_isAdmitted 124 = .ok (.iload 6, 2) := by decide +kernel
theorem d_MO_isAdmitted_126 : decode b_MO_isAdmitted 126 = .ok (.istore 4, 2) := by decide +kernel
theorem d_MO_isAdmitted_128 : decode b_MO_isAdmitted 128 = .ok (.goto (-100), 3) := by decide +kernel
theorem d_MO_isAdmitted_131 : decode b_MO_isAdmitted 131 = .ok (.iload 4, 2) := by decide +kernel
theorem d_MO_isAdmitted_133 : decode b_MO_isAdmitted 133 = .ok (.aload_n 0, 1) := by decide +kernel
theorem d_MO_isAdmitted_134 : decode b_MO_isAdmitted 134 = .ok (.getfield 19, 3) := by decide +kernel
theorem d_MO_isAdmitted_137 : decode b_MO_isAdmitted 137 = .ok (.iload_n 3, 1) := by decide +kernel
theorem d_MO_isAdmitted_138 : decode b_MO_isAdmitted 138 = .ok (.iaload, 1) := by decide +kernel
theorem d_MO_isAdmitted_139 : decode b_MO_isAdmitted 139 = .ok (.if_icmp .le 5, 3) := by decide +kernel
theorem d_MO_isAdmitted_142 : decode b_MO_isAdmitted 142 = .ok (.iconst 0, 1) := by decide +kernel
theorem d_MO_isAdmitted_143 : decode b_MO_isAdmitted 143 = .ok (.ireturn, 1) := by decide +kernel
theorem d_MO_isAdmitted_144 : decode b_MO_isAdmitted 144 = .ok (.iinc 2 1, 3) := by decide +kernel
theorem d_MO_isAdmitted_147 : decode b_MO_isAdmitted 147 = .ok (.goto (-145), 3) := by decide +kernel
theorem d_MO_isAdmitted_150 : decode b_MO_isAdmitted 150 = .ok (.iconst 1, 1) := by decide +kernel
theorem d_MO_isAdmitted_151 : decode b_MO_isAdmitted 151 = .ok (.ireturn, 1) := by decide +kernel
theorem d_MO_isAdmitted : ∀ z ∈ q_MO_isAdmitted, decode b_MO_isAdmitted z.1 = .ok z.2 := List.forall_mem_cons.mpr ⟨d_MO_isAdmitted_0, List.forall_mem_cons.mpr ⟨d_MO_isAdmitted_1, List.forall_mem_cons.mpr ⟨d_MO_isAdmitted_2, List.forall_mem_cons.mpr ⟨d_MO_isAdmitted_3, List.forall_mem_cons.mpr ⟨d_MO_isAdmitted_4, List.forall_mem_cons.mpr ⟨d_MO_isAdmitted_7, List.forall_mem_cons.mpr ⟨d_MO_isAdmitted_10, List.forall_mem_cons.mpr ⟨d_MO_isAdmitted_11, List.forall_mem_cons.mpr ⟨d_MO_isAdmitted_14, List.forall_mem_cons.mpr ⟨d_MO_isAdmitted_15, List.forall_mem_cons.mpr ⟨d_MO_isAdmitted_16, List.forall_mem_cons.mpr ⟨d_MO_isAdmitted_17, List.forall_mem_cons.mpr ⟨d_MO_isAdmitted_18, List.forall_mem_cons.mpr ⟨d_MO_isAdmitted_21, List.forall_mem_cons.mpr ⟨d_MO_isAdmitted_22, List.forall_mem_cons.mpr ⟨d_MO_isAdmitted_23, List.forall_mem_cons.mpr ⟨d_MO_isAdmitted_25, List.forall_mem_cons.mpr ⟨d_MO_isAdmitted_26, List.forall_mem_cons.mpr ⟨d_MO_isAdmitted_28, List.forall_mem_cons.mpr ⟨d_MO_isAdmitted_30, List.forall_mem_cons.mpr ⟨d_MO_isAdmitted_33, List.forall_mem_cons.mpr ⟨d_MO_isAdmitted_35, List.forall_mem_cons.mpr ⟨d_MO_isAdmitted_36, List.forall_mem_cons.mpr ⟨d_MO_isAdmitted_39, List.forall_mem_cons.mpr ⟨d_MO_isAdmitted_40, List.forall_mem_cons.mpr ⟨d_MO_isAdmitted_41, List.forall_mem_cons.mpr ⟨d_MO_isAdmitted_44, List.forall_mem_cons.mpr ⟨d_MO_isAdmitted_45, List.forall_mem_cons.mpr ⟨d_MO_isAdmitted_48, List.forall_mem_cons.mpr ⟨d_MO_isAdmitted_49, List.forall_mem_cons.mpr ⟨d_MO_isAdmitted_50, List.forall_mem_cons.mpr ⟨d_MO_isAdmitted_51, List.forall_mem_cons.mpr ⟨d_MO_isAdmitted_52, List.forall_mem_cons.mpr ⟨d_MO_isAdmitted_54, List.forall_mem_cons.mpr ⟨d_MO_isAdmitted_57, List.forall_mem_cons.mpr ⟨d_MO_isAdmitted_58, List.forall_mem_cons.mpr ⟨d_MO_isAdmitted_60, List.forall_mem_cons.mpr ⟨d_MO_isAdmitted_61, List.forall_mem_cons.mpr ⟨d_MO_isAdmitted_63, List.forall_mem_cons.mpr ⟨d_MO_isAdmitted_65, List.forall_mem_cons.mpr ⟨d_MO_isAdmitted_66, List.forall_mem_cons.mpr ⟨d_MO_isAdmitted_69, List.forall_mem_cons.mpr ⟨d_MO_isAdmitted_71, List.forall_mem_cons.mpr ⟨d_MO_isAdmitted_73, List.forall_mem_cons.mpr ⟨d_MO_isAdmitted_74, List.forall_mem_cons.mpr ⟨d_MO_isAdmitted_77, List.forall_mem_cons.mpr ⟨d_MO_isAdmitted_78, List.forall_mem_cons.mpr ⟨d_MO_isAdmitted_81, List.forall_mem_cons.mpr ⟨d_MO_isAdmitted_83, List.forall_mem_cons.mpr ⟨d_MO_isAdmitted_84, List.forall_mem_cons.mpr ⟨d_MO_isAdmitted_85, List.forall_mem_cons.mpr ⟨d_MO_isAdmitted_88, List.forall_mem_cons.mpr ⟨d_MO_isAdmitted_89, List.forall_mem_cons.mpr ⟨d_MO_isAdmitted_92, List.forall_mem_cons.mpr ⟨d_MO_isAdmitted_93, List.forall_mem_cons.mpr ⟨d_MO_isAdmitted_96, List.forall_mem_cons.mpr ⟨d_MO_isAdmitted_98, List.forall_mem_cons.mpr ⟨d_MO_isAdmitted_99, List.forall_mem_cons.mpr ⟨d_MO_isAdmitted_100, List.forall_mem_cons.mpr ⟨d_MO_isAdmitted_101, List.forall_mem_cons.mpr ⟨d_MO_isAdmitted_102, List.forall_mem_cons.mpr ⟨d_MO_isAdmitted_104, List.forall_mem_cons.mpr ⟨d_MO_isAdmitted_107, List.forall_mem_cons.mpr ⟨d_MO_isAdmitted_110, List.forall_mem_cons.mpr ⟨d_MO_isAdmitted_112, List.forall_mem_cons.mpr ⟨d_MO_isAdmitted_114, List.forall_mem_cons.mpr ⟨d_MO_isAdmitted_117, List.forall_mem_cons.mpr ⟨d_MO_isAdmitted_118, List.forall_mem_cons.mpr ⟨d_MO_isAdmitted_121, List.forall_mem_cons.mpr ⟨d_MO_isAdmitted_122, List.forall_mem_cons.mpr ⟨d_MO_isAdmitted_124, List.forall_mem_cons.mpr ⟨d_MO_isAdmitted_126, List.forall_mem_cons.mpr ⟨d_MO_isAdmitted_128, List.forall_mem_cons.mpr ⟨d_MO_isAdmitted_131, List.forall_mem_cons.mpr ⟨d_MO_isAdmitted_133, List.forall_mem_cons.mpr ⟨d_MO_isAdmitted_134, List.forall_mem_cons.mpr ⟨d_MO_isAdmitted_137, List.forall_mem_cons.mpr ⟨d_MO_isAdmitted_138, List.forall_mem_cons.mpr ⟨d_MO_isAdmitted_139, List.forall_mem_cons.mpr ⟨d_MO_isAdmitted_142, List.forall_mem_cons.mpr ⟨d_MO_isAdmitted_143, List.forall_mem_cons.mpr ⟨d_MO_isAdmitted_144, List.forall_mem_cons.mpr ⟨d_MO_isAdmitted_147, List.forall_mem_cons.mpr ⟨d_MO_isAdmitted_150, List.forall_mem_cons.mpr ⟨d_MO_isAdmitted_151, fun _ h => absurd h List.not_mem_nil⟩⟩⟩⟩⟩⟩⟩⟩⟩⟩⟩⟩⟩⟩⟩⟩⟩⟩⟩⟩⟩⟩⟩⟩⟩⟩⟩⟩⟩⟩⟩⟩⟩⟩⟩⟩⟩⟩⟩⟩⟩⟩⟩⟩⟩⟩⟩⟩⟩⟩⟩⟩⟩⟩⟩⟩⟩⟩⟩⟩⟩⟩⟩⟩⟩⟩⟩⟩⟩⟩⟩⟩⟩⟩⟩⟩⟩⟩⟩⟩⟩⟩⟩⟩⟩
theorem i_MO_isAdmitted_ok : ∀ pc i n, i_MO_isAdmitted pc = some (i, n) → decode b_MO_isAdmitted pc = .ok (i, n) := fun pc i n h => d_MO_isAdmitted (pc, i, n) (am_find_mem h)
theorem i_MO_isAdmitted_0 : i_MO_isAdmitted 0 = some (.iconst 0, 1) := rfl
theorem i_MO_isAdmitted_1 : i_MO_isAdmitted 1 = some (.istore_n 2, 1) := rfl
theorem i_MO_isAdmitted_2 : i_MO_isAdmitted 2 = some (.iload_n 2, 1) := rfl
theorem i_MO_isAdmitted_3 : i_MO_isAdmitted 3 = some (.aload_n 0, 1) := rfl
theorem i_MO_isAdmitted_4 : i_MO_isAdmitted 4 = some (.getfield 96, 3) := rfl
theorem i_MO_isAdmitted_7 : i_MO_isAdmitted 7 = some (.if_icmp .ge 143, 3) := rfl
theorem i_MO_isAdmitted_10 : i_MO_isAdmitted 10 = some (.aload_n 0, 1) := rfl
theorem i_MO_isAdmitted_11 : i_MO_isAdmitted 11 = some (.getfield 22, 3) := rfl
theorem i_MO_isAdmitted_14 : i_MO_isAdmitted 14 = some (.iload_n 2, 1) := rfl
theorem i_MO_isAdmitted_15 : i_MO_isAdmitted 15 = some (.iaload, 1) := rfl
theorem i_MO_isAdmitted_16 : i_MO_isAdmitted 16 = some (.istore_n 3, 1) := rfl
theorem i_MO_isAdmitted_17 : i_MO_isAdmitted 17 = some (.aload_n 0, 1) := rfl
theorem i_MO_isAdmitted_18 : i_MO_isAdmitted 18 = some (.getfield 16, 3) := rfl
theorem i_MO_isAdmitted_21 : i_MO_isAdmitted 21 = some (.iload_n 3, 1) := rfl
theorem i_MO_isAdmitted_22 : i_MO_isAdmitted 22 = some (.iaload, 1) := rfl
theorem i_MO_isAdmitted_23 : i_MO_isAdmitted 23 = some (.istore 4, 2) := rfl
theorem i_MO_isAdmitted_25 : i_MO_isAdmitted 25 = some (.iconst 1, 1) := rfl
theorem i_MO_isAdmitted_26 : i_MO_isAdmitted 26 = some (.istore 5, 2) := rfl
theorem i_MO_isAdmitted_28 : i_MO_isAdmitted 28 = some (.iload 5, 2) := rfl
theorem i_MO_isAdmitted_30 : i_MO_isAdmitted 30 = some (.ifCond .eq 101, 3) := rfl
theorem i_MO_isAdmitted_33 : i_MO_isAdmitted 33 = some (.iload 4, 2) := rfl
theorem i_MO_isAdmitted_35 : i_MO_isAdmitted 35 = some (.aload_n 0, 1) := rfl
theorem i_MO_isAdmitted_36 : i_MO_isAdmitted 36 = some (.getfield 19, 3) := rfl
theorem i_MO_isAdmitted_39 : i_MO_isAdmitted 39 = some (.iload_n 3, 1) := rfl
theorem i_MO_isAdmitted_40 : i_MO_isAdmitted 40 = some (.iaload, 1) := rfl
theorem i_MO_isAdmitted_41 : i_MO_isAdmitted 41 = some (.if_icmp .gt 90, 3) := rfl
theorem i_MO_isAdmitted_44 : i_MO_isAdmitted 44 = some (.aload_n 0, 1) := rfl
theorem i_MO_isAdmitted_45 : i_MO_isAdmitted 45 = some (.getfield 16, 3) := rfl
theorem i_MO_isAdmitted_48 : i_MO_isAdmitted 48 = some (.iload_n 3, 1) := rfl
theorem i_MO_isAdmitted_49 : i_MO_isAdmitted 49 = some (.iaload, 1) := rfl
theorem i_MO_isAdmitted_50 : i_MO_isAdmitted 50 = some (.aload_n 0, 1) := rfl
theorem i_MO_isAdmitted_51 : i_MO_isAdmitted 51 = some (.iload_n 1, 1) := rfl
theorem i_MO_isAdmitted_52 : i_MO_isAdmitted 52 = some (.iload 4, 2) := rfl
theorem i_MO_isAdmitted_54 : i_MO_isAdmitted 54 = some (.invokevirtual 118, 3) := rfl
theorem i_MO_isAdmitted_57 : i_MO_isAdmitted 57 = some (.iadd, 1) := rfl
theorem i_MO_isAdmitted_58 : i_MO_isAdmitted 58 = some (.istore 6, 2) := rfl
theorem i_MO_isAdmitted_60 : i_MO_isAdmitted 60 = some (.iconst 0, 1) := rfl
theorem i_MO_isAdmitted_61 : i_MO_isAdmitted 61 = some (.istore 7, 2) := rfl
theorem i_MO_isAdmitted_63 : i_MO_isAdmitted 63 = some (.iload 7, 2) := rfl
theorem i_MO_isAdmitted_65 : i_MO_isAdmitted 65 = some (.iload_n 2, 1) := rfl
theorem i_MO_isAdmitted_66 : i_MO_isAdmitted 66 = some (.if_icmp .ge 44, 3) := rfl
theorem i_MO_isAdmitted_69 : i_MO_isAdmitted 69 = some (.iload 6, 2) := rfl
theorem i_MO_isAdmitted_71 : i_MO_isAdmitted 71 = some (.iload 4, 2) := rfl
theorem i_MO_isAdmitted_73 : i_MO_isAdmitted 73 = some (.aload_n 0, 1) := rfl
theorem i_MO_isAdmitted_74 : i_MO_isAdmitted 74 = some (.getfield 7, 3) := rfl
theorem i_MO_isAdmitted_77 : i_MO_isAdmitted 77 = some (.aload_n 0, 1) := rfl
theorem i_MO_isAdmitted_78 : i_MO_isAdmitted 78 = some (.getfield 22, 3) := rfl
theorem i_MO_isAdmitted_81 : i_MO_isAdmitted 81 = some (.iload 7, 2) := rfl
theorem i_MO_isAdmitted_83 : i_MO_isAdmitted 83 = some (.iaload, 1) := rfl
theorem i_MO_isAdmitted_84 : i_MO_isAdmitted 84 = some (.iaload, 1) := rfl
theorem i_MO_isAdmitted_85 : i_MO_isAdmitted 85 = some (.invokestatic 115, 3) := rfl
theorem i_MO_isAdmitted_88 : i_MO_isAdmitted 88 = some (.aload_n 0, 1) := rfl
theorem i_MO_isAdmitted_89 : i_MO_isAdmitted 89 = some (.getfield 16, 3) := rfl
theorem i_MO_isAdmitted_92 : i_MO_isAdmitted 92 = some (.aload_n 0, 1) := rfl
theorem i_MO_isAdmitted_93 : i_MO_isAdmitted 93 = some (.getfield 22, 3) := rfl
theorem i_MO_isAdmitted_96 : i_MO_isAdmitted 96 = some (.iload 7, 2) := rfl
theorem i_MO_isAdmitted_98 : i_MO_isAdmitted 98 = some (.iaload, 1) := rfl
theorem i_MO_isAdmitted_99 : i_MO_isAdmitted 99 = some (.iaload, 1) := rfl
theorem i_MO_isAdmitted_100 : i_MO_isAdmitted 100 = some (.imul, 1) := rfl
theorem i_MO_isAdmitted_101 : i_MO_isAdmitted 101 = some (.iadd, 1) := rfl
theorem i_MO_isAdmitted_102 : i_MO_isAdmitted 102 = some (.istore 6, 2) := rfl
theorem i_MO_isAdmitted_104 : i_MO_isAdmitted 104 = some (.iinc 7 1, 3) := rfl
theorem i_MO_isAdmitted_107 : i_MO_isAdmitted 107 = some (.goto (-44), 3) := rfl
theorem i_MO_isAdmitted_110 : i_MO_isAdmitted 110 = some (.iload 6, 2) := rfl
theorem i_MO_isAdmitted_112 : i_MO_isAdmitted 112 = some (.iload 4, 2) := rfl
theorem i_MO_isAdmitted_114 : i_MO_isAdmitted 114 = some (.if_icmp .eq 7, 3) := rfl
theorem i_MO_isAdmitted_117 : i_MO_isAdmitted 117 = some (.iconst 1, 1) := rfl
theorem i_MO_isAdmitted_118 : i_MO_isAdmitted 118 = some (.goto 4, 3) := rfl
theorem i_MO_isAdmitted_121 : i_MO_isAdmitted 121 = some (.iconst 0, 1) := rfl
theorem i_MO_isAdmitted_122 : i_MO_isAdmitted 122 = some (.istore 5, 2) := rfl
theorem i_MO_isAdmitted_124 : i_MO_isAdmitted 124 = some (.iload 6, 2) := rfl
theorem i_MO_isAdmitted_126 : i_MO_isAdmitted 126 = some (.istore 4, 2) := rfl
theorem i_MO_isAdmitted_128 : i_MO_isAdmitted 128 = some (.goto (-100), 3) := rfl
theorem i_MO_isAdmitted_131 : i_MO_isAdmitted 131 = some (.iload 4, 2) := rfl
theorem i_MO_isAdmitted_133 : i_MO_isAdmitted 133 = some (.aload_n 0, 1) := rfl
theorem i_MO_isAdmitted_134 : i_MO_isAdmitted 134 = some (.getfield 19, 3) := rfl
theorem i_MO_isAdmitted_137 : i_MO_isAdmitted 137 = some (.iload_n 3, 1) := rfl
theorem i_MO_isAdmitted_138 : i_MO_isAdmitted 138 = some (.iaload, 1) := rfl
theorem i_MO_isAdmitted_139 : i_MO_isAdmitted 139 = some (.if_icmp .le 5, 3) := rfl
theorem i_MO_isAdmitted_142 : i_MO_isAdmitted 142 = some (.iconst 0, 1) := rfl
theorem i_MO_isAdmitted_143 : i_MO_isAdmitted 143 = some (.ireturn, 1) := rfl
theorem i_MO_isAdmitted_144 : i_MO_isAdmitted 144 = some (.iinc 2 1, 3) := rfl
theorem i_MO_isAdmitted_147 : i_MO_isAdmitted 147 = some (.goto (-145), 3) := rfl
theorem i_MO_isAdmitted_150 : i_MO_isAdmitted 150 = some (.iconst 1, 1) := rfl
theorem i_MO_isAdmitted_151 : i_MO_isAdmitted 151 = some (.ireturn, 1) := rfl
abbrev w_MO_isAdmitted : List Jvm.Cond := Jvm.Cond.code y_MO_isAdmitted b_MO_isAdmitted 8 (some .boolean) :: vw_W
theorem c_MO_isAdmitted : Jvm.Cond.code y_MO_isAdmitted b_MO_isAdmitted 8 (some .boolean) ∈ vw_W := vw_t 967 (by decide +kernel) (by decide +kernel)
abbrev r_MO_isAdmitted : Room := { frames := 2, cells := 0, slots := 0, locals := 43 }
abbrev b_MO_taken : ByteArray := prog_13_method_8_code
abbrev y_MO_taken : MethodName := ⟨"ServerDeskModel", "taken", "(II)I"⟩
def q_MO_taken : List (Nat × Instr × Nat) := [(0, .iload_n 1, 1), (1, .iconst 1, 1), (2, .if_icmp .ne 44, 3), (5, .iconst 1, 1), (6, .iload_n 2, 1), (7, .aload_n 0, 1), (8, .getfield 25, 3), (11, .iconst 1, 1), (12, .iaload, 1), (13, .if_icmp .le 14, 3), (16, .iload_n 2, 1), (17, .aload_n 0, 1), (18, .getfield 25, 3), (21, .iconst 1, 1), (22, .iaload, 1), (23, .isub, 1), (24, .goto 4, 3), (27, .iconst 0, 1), (28, .aload_n 0, 1), (29, .getfield 28, 3), (32, .iconst 1, 1), (33, .iaload, 1), (34, .invokestatic 115, 3), (37, .iadd, 1), (38, .aload_n 0, 1), (39, .getfield 25, 3), (42, .iconst 1, 1), (43, .iaload, 1), (44, .imul, 1), (45, .ireturn, 1), (46, .iload_n 1, 1), (47, .iconst 2, 1), (48, .if_icmp .ne 23, 3), (51, .iload_n 2, 1), (52, .aload_n 0, 1), (53, .getfield 28, 3), (56, .iconst 2, 1), (57, .iaload, 1), (58, .invokestatic 115, 3), (61, .aload_n 0, 1), (62, .getfield 25, 3), (65, .iconst 2, 1), (66, .iaload, 1), (67, .imul, 1), (68, .goto 4, 3), (71, .iconst 0, 1), (72, .ireturn, 1)]
def i_MO_taken : Nat → Option (Instr × Nat) := am_find q_MO_taken
theorem d_MO_taken_0 : decode b_MO_taken 0 = .ok (.iload_n 1, 1) := by decide +kernel
theorem d_MO_taken_1 : decode b_MO_taken 1 = .ok (.iconst 1, 1) := by decide +kernel
theorem d_MO_taken_2 : decode b_MO_taken 2 = .ok (.if_icmp .ne 44, 3) := by decide +kernel
theorem d_MO_taken_5 : decode b_MO_taken 5 = .ok (.iconst 1, 1) := by decide +kernel
theorem d_MO_taken_6 : decode b_MO_taken 6 = .ok (.iload_n 2, 1) := by decide +kernel
theorem d_MO_taken_7 : decode b_MO_taken 7 = .ok (.aload_n 0, 1) := by decide +kernel
theorem d_MO_taken_8 : decode b_MO_taken 8 = .ok (.getfield 25, 3) := by decide +kernel
theorem d_MO_taken_11 : decode b_MO_taken 11 = .ok (.iconst 1, 1) := by decide +kernel
theorem d_MO_taken_12 : decode b_MO_taken 12 = .ok (.iaload, 1) := by decide +kernel
theorem d_MO_taken_13 : decode b_MO_taken 13 = .ok (.if_icmp .le 14, 3) := by decide +kernel
theorem d_MO_taken_16 : decode b_MO_taken 16 = .ok (.iload_n 2, 1) := by decide +kernel
theorem d_MO_taken_17 : decode b_MO_taken 17 = .ok (.aload_n 0, 1) := by decide +kernel
theorem d_MO_taken_18 : decode b_MO_taken 18 = .ok (.getfield 25, 3) := by decide +kernel
theorem d_MO_taken_21 : decode b_MO_taken 21 = .ok (.iconst 1, 1) := by decide +kernel
theorem d_MO_taken_22 : decode b_MO_taken 22 = .ok (.iaload, 1) := by decide +kernel
theorem d_MO_taken_23 : decode b_MO_taken 23 = .ok (.isub, 1) := by decide +kernel
theorem d_MO_taken_24 : decode b_MO_taken 24 = .ok (.goto 4, 3) := by decide +kernel
theorem d_MO_taken_27 : decode b_MO_taken 27 = .ok (.iconst 0, 1) := by decide +kernel
theorem d_MO_taken_28 : decode b_MO_taken 28 = .ok (.aload_n 0, 1) := by decide +kernel
theorem d_MO_taken_29 : decode b_MO_taken 29 = .ok (.getfield 28, 3) := by decide +kernel
theorem d_MO_taken_32 : decode b_MO_taken 32 = .ok (.iconst 1, 1) := by decide +kernel
theorem d_MO_taken_33 : decode b_MO_taken 33 = .ok (.iaload, 1) := by decide +kernel
theorem d_MO_taken_34 : decode b_MO_taken 34 = .ok (.invokestatic 115, 3) := by decide +kernel
theorem d_MO_taken_37 : decode b_MO_taken 37 = .ok (.iadd, 1) := by decide +kernel
theorem d_MO_taken_38 : decode b_MO_taken 38 = .ok (.aload_n 0, 1) := by decide +kernel
theorem d_MO_taken_39 : decode b_MO_taken 39 = .ok (.getfield 25, 3) := by decide +kernel
theorem d_MO_taken_42 : decode b_MO_taken 42 = .ok (.iconst 1, 1) := by decide +kernel
theorem d_MO_taken_43 : decode b_MO_taken 43 = .ok (.iaload, 1) := by decide +kernel
theorem d_MO_taken_44 : decode b_MO_taken 44 = .ok (.imul, 1) := by decide +kernel
theorem d_MO_taken_45 : decode b_MO_taken 45 = .ok (.ireturn, 1) := by decide +kernel
theorem d_MO_taken_46 : decode b_MO_taken 46 = .ok (.iload_n 1, 1) := by decide +kernel
theorem d_MO_taken_47 : decode b_MO_taken 47 = .ok (.iconst 2, 1) := by decide +kernel
theorem d_MO_taken_48 : decode b_MO_taken 48 = .ok (.if_icmp .ne 23, 3) := by decide +kernel
theorem d_MO_taken_51 : decode b_MO_taken 51 = .ok (.iload_n 2, 1) := by decide +kernel
theorem d_MO_taken_52 : decode b_MO_taken 52 = .ok (.aload_n 0, 1) := by decide +kernel
theorem d_MO_taken_53 : decode b_MO_taken 53 = .ok (.getfield 28, 3) := by decide +kernel
theorem d_MO_taken_56 : decode b_MO_taken 56 = .ok (.iconst 2, 1) := by decide +kernel
theorem d_MO_taken_57 : decode b_MO_taken 57 = .ok (.iaload, 1) := by decide +kernel
theorem d_MO_taken_58 : decode b_MO_taken 58 = .ok (.invokestatic 115, 3) := by decide +kernel
theorem d_MO_taken_61 : decode b_MO_taken 61 = .ok (.aload_n 0, 1) := by decide +kernel
theorem d_MO_taken_62 : decode b_MO_taken 62 = .ok (.getfield 25, 3) := by decide +kernel
theorem d_MO_taken_65 : decode b_MO_taken 65 = .ok (.iconst 2, 1) := by decide +kernel
theorem d_MO_taken_66 : decode b_MO_taken 66 = .ok (.iaload, 1) := by decide +kernel
theorem d_MO_taken_67 : decode b_MO_taken 67 = .ok (.imul, 1) := by decide +kernel
theorem d_MO_taken_68 : decode b_MO_taken 68 = .ok (.goto 4, 3) := by decide +kernel
theorem d_MO_taken_71 : decode b_MO_taken 71 = .ok (.iconst 0, 1) := by decide +kernel
theorem d_MO_taken_72 : decode b_MO_taken 72 = .ok (.ireturn, 1) := by decide +kernel
theorem d_MO_taken : ∀ z ∈ q_MO_taken, decode b_MO_taken z.1 = .ok z.2 := List.forall_mem_cons.mpr ⟨d_MO_taken_0, List.forall_mem_cons.mpr ⟨d_MO_taken_1, List.forall_mem_cons.mpr ⟨d_MO_taken_2, List.forall_mem_cons.mpr ⟨d_MO_taken_5, List.forall_mem_cons.mpr ⟨d_MO_taken_6, List.forall_mem_cons.mpr ⟨d_MO_taken_7, List.forall_mem_cons.mpr ⟨d_MO_taken_8, List.forall_mem_cons.mpr ⟨d_MO_taken_11, List.forall_mem_cons.mpr ⟨d_MO_taken_12, List.forall_mem_cons.mpr ⟨d_MO_taken_13, List.forall_mem_cons.mpr ⟨d_MO_taken_16, List.forall_mem_cons.mpr ⟨d_MO_taken_17, List.forall_mem_cons.mpr ⟨d_MO_taken_18, List.forall_mem_cons.mpr ⟨d_MO_taken_21, List.forall_mem_cons.mpr ⟨d_MO_taken_22, List.forall_mem_cons.mpr ⟨d_MO_taken_23, List.forall_mem_cons.mpr ⟨d_MO_taken_24, List.forall_mem_cons.mpr ⟨d_MO_taken_27, List.forall_mem_cons.mpr ⟨d_MO_taken_28, List.forall_mem_cons.mpr ⟨d_MO_taken_29, List.forall_mem_cons.mpr ⟨d_MO_taken_32, List.forall_mem_cons.mpr ⟨d_MO_taken_33, List.forall_mem_cons.mpr ⟨d_MO_taken_34, List.forall_mem_cons.mpr ⟨d_MO_taken_37, List.forall_mem_cons.mpr ⟨d_MO_taken_38, List.forall_mem_cons.mpr ⟨d_MO_taken_39, List.forall_mem_cons.mpr ⟨d_MO_taken_42, List.forall_mem_cons.mpr ⟨d_MO_taken_43, List.forall_mem_cons.mpr ⟨d_MO_taken_44, List.forall_mem_cons.mpr ⟨d_MO_taken_45, List.forall_mem_cons.mpr ⟨d_MO_taken_46, List.forall_mem_cons.mpr ⟨d_MO_taken_47, List.forall_mem_cons.mpr ⟨d_MO_taken_48, List.forall_mem_cons.mpr ⟨d_MO_taken_51, List.forall_mem_cons.mpr ⟨d_MO_taken_52, List.forall_mem_cons.mpr ⟨d_MO_taken_53, List.forall_mem_cons.mpr ⟨d_MO_taken_56, List.forall_mem_cons.mpr ⟨d_MO_taken_57, List.forall_mem_cons.mpr ⟨d_MO_taken_58, List.forall_mem_cons.mpr ⟨d_MO_taken_61, List.forall_mem_cons.mpr ⟨d_MO_taken_62, List.forall_mem_cons.mpr ⟨d_MO_taken_65, List.forall_mem_cons.mpr ⟨d_MO_taken_66, List.forall_mem_cons.mpr ⟨d_MO_taken_67, List.forall_mem_cons.mpr ⟨d_MO_taken_68, List.forall_mem_cons.mpr ⟨d_MO_taken_71, List.forall_mem_cons.mpr ⟨d_MO_taken_72, fun _ h => absurd h List.not_mem_nil⟩⟩⟩⟩⟩⟩⟩⟩⟩⟩⟩⟩⟩⟩⟩⟩⟩⟩⟩⟩⟩⟩⟩⟩⟩⟩⟩⟩⟩⟩⟩⟩⟩⟩⟩⟩⟩⟩⟩⟩⟩⟩⟩⟩⟩⟩⟩
theorem i_MO_taken_ok : ∀ pc i n, i_MO_taken pc = some (i, n) → decode b_MO_taken pc = .ok (i, n) := fun pc i n h => d_MO_taken (pc, i, n) (am_find_mem h)
theorem i_MO_taken_0 : i_MO_taken 0 = some (.iload_n 1, 1) := rfl
theorem i_MO_taken_1 : i_MO_taken 1 = some (.iconst 1, 1) := rfl
theorem i_MO_taken_2 : i_MO_taken 2 = some (.if_icmp .ne 44, 3) := rfl
theorem i_MO_taken_5 : i_MO_taken 5 = some (.iconst 1, 1) := rfl
theorem i_MO_taken_6 : i_MO_taken 6 = some (.iload_n 2, 1) := rfl
theorem i_MO_taken_7 : i_MO_taken 7 = some (.aload_n 0, 1) := rfl
theorem i_MO_taken_8 : i_MO_taken 8 = some (.getfield 25, 3) := rfl
theorem i_MO_taken_11 : i_MO_taken 11 = some (.iconst 1, 1) := rfl
theorem i_MO_taken_12 : i_MO_taken 12 = some (.iaload, 1) := rfl
theorem i_MO_taken_13 : i_MO_taken 13 = some (.if_icmp .le 14, 3) := rfl
theorem i_MO_taken_16 : i_MO_taken 16 = some (.iload_n 2, 1) := rfl
theorem i_MO_taken_17 : i_MO_taken 17 = some (.aload_n 0, 1) := rfl
theorem i_MO_taken_18 : i_MO_taken 18 = some (.getfield 25, 3) := rfl
theorem i_MO_taken_21 : i_MO_taken 21 = some (.iconst 1, 1) := rfl
theorem i_MO_taken_22 : i_MO_taken 22 = some (.iaload, 1) := rfl
theorem i_MO_taken_23 : i_MO_taken 23 = some (.isub, 1) := rfl
theorem i_MO_taken_24 : i_MO_taken 24 = some (.goto 4, 3) := rfl
theorem i_MO_taken_27 : i_MO_taken 27 = some (.iconst 0, 1) := rfl
theorem i_MO_taken_28 : i_MO_taken 28 = some (.aload_n 0, 1) := rfl
theorem i_MO_taken_29 : i_MO_taken 29 = some (.getfield 28, 3) := rfl
theorem i_MO_taken_32 : i_MO_taken 32 = some (.iconst 1, 1) := rfl
theorem i_MO_taken_33 : i_MO_taken 33 = some (.iaload, 1) := rfl
theorem i_MO_taken_34 : i_MO_taken 34 = some (.invokestatic 115, 3) := rfl
theorem i_MO_taken_37 : i_MO_taken 37 = some (.iadd, 1) := rfl
theorem i_MO_taken_38 : i_MO_taken 38 = some (.aload_n 0, 1) := rfl
theorem i_MO_taken_39 : i_MO_taken 39 = some (.getfield 25, 3) := rfl
theorem i_MO_taken_42 : i_MO_taken 42 = some (.iconst 1, 1) := rfl
theorem i_MO_taken_43 : i_MO_taken 43 = some (.iaload, 1) := rfl
theorem i_MO_taken_44 : i_MO_taken 44 = some (.imul, 1) := rfl
theorem i_MO_taken_45 : i_MO_taken 45 = some (.ireturn, 1) := rfl
theorem i_MO_taken_46 : i_MO_taken 46 = some (.iload_n 1, 1) := rfl
theorem i_MO_taken_47 : i_MO_taken 47 = some (.iconst 2, 1) := rfl
theorem i_MO_taken_48 : i_MO_taken 48 = some (.if_icmp .ne 23, 3) := rfl
theorem i_MO_taken_51 : i_MO_taken 51 = some (.iload_n 2, 1) := rfl
theorem i_MO_taken_52 : i_MO_taken 52 = some (.aload_n 0, 1) := rfl
theorem i_MO_taken_53 : i_MO_taken 53 = some (.getfield 28, 3) := rfl
theorem i_MO_taken_56 : i_MO_taken 56 = some (.iconst 2, 1) := rfl
theorem i_MO_taken_57 : i_MO_taken 57 = some (.iaload, 1) := rfl
theorem i_MO_taken_58 : i_MO_taken 58 = some (.invokestatic 115, 3) := rfl
theorem i_MO_taken_61 : i_MO_taken 61 = some (.aload_n 0, 1) := rfl
theorem i_MO_taken_62 : i_MO_taken 62 = some (.getfield 25, 3) := rfl
theorem i_MO_taken_65 : i_MO_taken 65 = some (.iconst 2, 1) := rfl
theorem i_MO_taken_66 : i_MO_taken 66 = some (.iaload, 1) := rfl
theorem i_MO_taken_67 : i_MO_taken 67 = some (.imul, 1) := rfl
theorem i_MO_taken_68 : i_MO_taken 68 = some (.goto 4, 3) := rfl
theorem i_MO_taken_71 : i_MO_taken 71 = some (.iconst 0, 1) := rfl
theorem i_MO_taken_72 : i_MO_taken 72 = some (.ireturn, 1) := rfl
abbrev w_MO_taken : List Jvm.Cond := Jvm.Cond.code y_MO_taken b_MO_taken 3 (some .int) :: vw_W
theorem c_MO_taken : Jvm.Cond.code y_MO_taken b_MO_taken 3 (some .int) ∈ vw_W := vw_t 971 (by decide +kernel) (by decide +kernel)
abbrev r_MO_taken : Room := { frames := 1, cells := 0, slots := 0, locals := 21 }
abbrev b_MO_times : ByteArray := prog_13_method_7_code
abbrev y_MO_times : MethodName := ⟨"ServerDeskModel", "times", "(II)I"⟩
def q_MO_times : List (Nat × Instr × Nat) := [(0, .iload_n 0, 1), (1, .iload_n 1, 1), (2, .iadd, 1), (3, .iconst 1, 1), (4, .isub, 1), (5, .iload_n 1, 1), (6, .idiv, 1), (7, .ireturn, 1)]
def i_MO_times : Nat → Option (Instr × Nat) := am_find q_MO_times
theorem d_MO_times_0 : decode b_MO_times 0 = .ok (.iload_n 0, 1) := by decide +kernel
theorem d_MO_times_1 : decode b_MO_times 1 = .ok (.iload_n 1, 1) := by decide +kernel
theorem d_MO_times_2 : decode b_MO_times 2 = .ok (.iadd, 1) := by decide +kernel
theorem d_MO_times_3 : decode b_MO_times 3 = .ok (.iconst 1, 1) := by decide +kernel
theorem d_MO_times_4 : decode b_MO_times 4 = .ok (.isub, 1) := by decide +kernel
theorem d_MO_times_5 : decode b_MO_times 5 = .ok (.iload_n 1, 1) := by decide +kernel
theorem d_MO_times_6 : decode b_MO_times 6 = .ok (.idiv, 1) := by decide +kernel
theorem d_MO_times_7 : decode b_MO_times 7 = .ok (.ireturn, 1) := by decide +kernel
theorem d_MO_times : ∀ z ∈ q_MO_times, decode b_MO_times z.1 = .ok z.2 := List.forall_mem_cons.mpr ⟨d_MO_times_0, List.forall_mem_cons.mpr ⟨d_MO_times_1, List.forall_mem_cons.mpr ⟨d_MO_times_2, List.forall_mem_cons.mpr ⟨d_MO_times_3, List.forall_mem_cons.mpr ⟨d_MO_times_4, List.forall_mem_cons.mpr ⟨d_MO_times_5, List.forall_mem_cons.mpr ⟨d_MO_times_6, List.forall_mem_cons.mpr ⟨d_MO_times_7, fun _ h => absurd h List.not_mem_nil⟩⟩⟩⟩⟩⟩⟩⟩
theorem i_MO_times_ok : ∀ pc i n, i_MO_times pc = some (i, n) → decode b_MO_times pc = .ok (i, n) := fun pc i n h => d_MO_times (pc, i, n) (am_find_mem h)
theorem i_MO_times_0 : i_MO_times 0 = some (.iload_n 0, 1) := rfl
theorem i_MO_times_1 : i_MO_times 1 = some (.iload_n 1, 1) := rfl
theorem i_MO_times_2 : i_MO_times 2 = some (.iadd, 1) := rfl
theorem i_MO_times_3 : i_MO_times 3 = some (.iconst 1, 1) := rfl
theorem i_MO_times_4 : i_MO_times 4 = some (.isub, 1) := rfl
theorem i_MO_times_5 : i_MO_times 5 = some (.iload_n 1, 1) := rfl
theorem i_MO_times_6 : i_MO_times 6 = some (.idiv, 1) := rfl
theorem i_MO_times_7 : i_MO_times 7 = some (.ireturn, 1) := rfl
abbrev w_MO_times : List Jvm.Cond := Jvm.Cond.code y_MO_times b_MO_times 2 (some .int) :: vw_W
theorem c_MO_times : Jvm.Cond.code y_MO_times b_MO_times 2 (some .int) ∈ vw_W := vw_t 974 (by decide +kernel) (by decide +kernel)
abbrev r_MO_times : Room := { frames := 0, cells := 0, slots := 0, locals := 0 }
abbrev b_MO_start : ByteArray := prog_13_method_11_code
abbrev y_MO_start : MethodName := ⟨"ServerDeskModel", "start", "()V"⟩
def q_MO_start : List (Nat × Instr × Nat) := [(0, .aload_n 0, 1), (1, .aload_n 0, 1), (2, .getfield 111, 3), (5, .ifCond .ne 14, 3), (8, .aload_n 0, 1), (9, .aload_n 0, 1), (10, .getfield 125, 3), (13, .invokevirtual 121, 3), (16, .ifCond .ne 7, 3), (19, .iconst 1, 1), (20, .goto 4, 3), (23, .iconst 0, 1), (24, .putfield 92, 3), (27, .aload_n 0, 1), (28, .getfield 92, 3), (31, .ifCond .le 4, 3), (34, .return_, 1), (35, .aload_n 0, 1), (36, .iconst 1, 1), (37, .putfield 111, 3), (40, .aload_n 0, 1), (41, .aload_n 0, 1), (42, .getfield 125, 3), (45, .invokevirtual 128, 3), (48, .return_, 1)]
def i_MO_start : Nat → Option (Instr × Nat) := am_find q_MO_start
theorem d_MO_start_0 : decode b_MO_start 0 = .ok (.aload_n 0, 1) := by decide +kernel
theorem d_MO_start_1 : decode b_MO_start 1 = .ok (.aload_n 0, 1) := by decide +kernel
theorem d_MO_start_2 : decode b_MO_start 2 = .ok (.getfield 111, 3) := by decide +kernel
theorem d_MO_start_5 : decode b_MO_start 5 = .ok (.ifCond .ne 14, 3) := by decide +kernel
theorem d_MO_start_8 : decode b_MO_start 8 = .ok (.aload_n 0, 1) := by decide +kernel
theorem d_MO_start_9 : decode b_MO_start 9 = .ok (.aload_n 0, 1) := by decide +kernel
theorem d_MO_start_10 : decode b_MO_start 10 = .ok (.getfield 125, 3) := by decide +kernel
theorem d_MO_start_13 : decode b_MO_start 13 = .ok (.invokevirtual 121, 3) := by decide +kernel
theorem d_MO_start_16 : decode b_MO_start 16 = .ok (.ifCond .ne 7, 3) := by decide +kernel
theorem d_MO_start_19 : decode b_MO_start 19 = .ok (.iconst 1, 1) := by decide +kernel
theorem d_MO_start_20 : decode b_MO_start 20 = .ok (.goto 4, 3) := by decide +kernel
theorem d_MO_start_23 : decode b_MO_start 23 = .ok (.iconst 0, 1) := by decide +kernel
theorem d_MO_start_24 : decode b_MO_start 24 = .ok (.putfield 92, 3) := by decide +kernel
theorem d_MO_start_27 : decode b_MO_start 27 = .ok (.aload_n 0, 1) := by decide +kernel
theorem d_MO_start_28 : decode b_MO_start 28 = .ok (.getfield 92, 3) := by decide +kernel
theorem d_MO_start_31 : decode b_MO_start 31 = .ok (.ifCond .le 4, 3) := by decide +kernel
theorem d_MO_start_34 : decode b_MO_start 34 = .ok (.return_, 1) := by decide +kernel
theorem d_MO_start_35 : decode b_MO_start 35 = .ok (.aload_n 0, 1) := by decide +kernel
theorem d_MO_start_36 : decode b_MO_start 36 = .ok (.iconst 1, 1) := by decide +kernel
theorem d_MO_start_37 : decode b_MO_start 37 = .ok (.putfield 111, 3) := by decide +kernel
theorem d_MO_start_40 : decode b_MO_start 40 = .ok (.aload_n 0, 1) := by decide +kernel
theorem d_MO_start_41 : decode b_MO_start 41 = .ok (.aload_n 0, 1) := by decide +kernel
theorem d_MO_start_42 : decode b_MO_start 42 = .ok (.getfield 125, 3) := by decide +kernel
theorem d_MO_start_45 : decode b_MO_start 45 = .ok (.invokevirtual 128, 3) := by decide +kernel
theorem d_MO_start_48 : decode b_MO_start 48 = .ok (.return_, 1) := by decide +kernel
theorem d_MO_start : ∀ z ∈ q_MO_start, decode b_MO_start z.1 = .ok z.2 := List.forall_mem_cons.mpr ⟨d_MO_start_0, List.forall_mem_cons.mpr ⟨d_MO_start_1, List.forall_mem_cons.mpr ⟨d_MO_start_2, List.forall_mem_cons.mpr ⟨d_MO_start_5, List.forall_mem_cons.mpr ⟨d_MO_start_8, List.forall_mem_cons.mpr ⟨d_MO_start_9, List.forall_mem_cons.mpr ⟨d_MO_start_10, List.forall_mem_cons.mpr ⟨d_MO_start_13, List.forall_mem_cons.mpr ⟨d_MO_start_16, List.forall_mem_cons.mpr ⟨d_MO_start_19, List.forall_mem_cons.mpr ⟨d_MO_start_20, List.forall_mem_cons.mpr ⟨d_MO_start_23, List.forall_mem_cons.mpr ⟨d_MO_start_24, List.forall_mem_cons.mpr ⟨d_MO_start_27, List.forall_mem_cons.mpr ⟨d_MO_start_28, List.forall_mem_cons.mpr ⟨d_MO_start_31, List.forall_mem_cons.mpr ⟨d_MO_start_34, List.forall_mem_cons.mpr ⟨d_MO_start_35, List.forall_mem_cons.mpr ⟨d_MO_start_36, List.forall_mem_cons.mpr ⟨d_MO_start_37, List.forall_mem_cons.mpr ⟨d_MO_start_40, List.forall_mem_cons.mpr ⟨d_MO_start_41, List.forall_mem_cons.mpr ⟨d_MO_start_42, List.forall_mem_cons.mpr ⟨d_MO_start_45, List.forall_mem_cons.mpr ⟨d_MO_start_48, fun _ h => absurd h List.not_mem_nil⟩⟩⟩⟩⟩⟩⟩⟩⟩⟩⟩⟩⟩⟩⟩⟩⟩⟩⟩⟩⟩⟩⟩⟩⟩
theorem i_MO_start_ok : ∀ pc i n, i_MO_start pc = some (i, n) → decode b_MO_start pc = .ok (i, n) := fun pc i n h => d_MO_start (pc, i, n) (am_find_mem h)
theorem i_MO_start_0 : i_MO_start 0 = some (.aload_n 0, 1) := rfl
theorem i_MO_start_1 : i_MO_start 1 = some (.aload_n 0, 1) := rfl
theorem i_MO_start_2 : i_MO_start 2 = some (.getfield 111, 3) := rfl
theorem i_MO_start_5 : i_MO_start 5 = some (.ifCond .ne 14, 3) := rfl
theorem i_MO_start_8 : i_MO_start 8 = some (.aload_n 0, 1) := rfl
theorem i_MO_start_9 : i_MO_start 9 = some (.aload_n 0, 1) := rfl
theorem i_MO_start_10 : i_MO_start 10 = some (.getfield 125, 3) := rfl
theorem i_MO_start_13 : i_MO_start 13 = some (.invokevirtual 121, 3) := rfl
theorem i_MO_start_16 : i_MO_start 16 = some (.ifCond .ne 7, 3) := rfl
theorem i_MO_start_19 : i_MO_start 19 = some (.iconst 1, 1) := rfl
theorem i_MO_start_20 : i_MO_start 20 = some (.goto 4, 3) := rfl
theorem i_MO_start_23 : i_MO_start 23 = some (.iconst 0, 1) := rfl
theorem i_MO_start_24 : i_MO_start 24 = some (.putfield 92, 3) := rfl
theorem i_MO_start_27 : i_MO_start 27 = some (.aload_n 0, 1) := rfl
theorem i_MO_start_28 : i_MO_start 28 = some (.getfield 92, 3) := rfl
theorem i_MO_start_31 : i_MO_start 31 = some (.ifCond .le 4, 3) := rfl
theorem i_MO_start_34 : i_MO_start 34 = some (.return_, 1) := rfl
theorem i_MO_start_35 : i_MO_start 35 = some (.aload_n 0, 1) := rfl
theorem i_MO_start_36 : i_MO_start 36 = some (.iconst 1, 1) := rfl
theorem i_MO_start_37 : i_MO_start 37 = some (.putfield 111, 3) := rfl
theorem i_MO_start_40 : i_MO_start 40 = some (.aload_n 0, 1) := rfl
theorem i_MO_start_41 : i_MO_start 41 = some (.aload_n 0, 1) := rfl
theorem i_MO_start_42 : i_MO_start 42 = some (.getfield 125, 3) := rfl
theorem i_MO_start_45 : i_MO_start 45 = some (.invokevirtual 128, 3) := rfl
theorem i_MO_start_48 : i_MO_start 48 = some (.return_, 1) := rfl
abbrev w_MO_start : List Jvm.Cond := Jvm.Cond.code y_MO_start b_MO_start 1 none :: vw_W
theorem c_MO_start : Jvm.Cond.code y_MO_start b_MO_start 1 none ∈ vw_W := vw_t 978 (by decide +kernel) (by decide +kernel)
abbrev r_MO_start : Room := { frames := 3, cells := 0, slots := 0, locals := 70 }
abbrev b_MO_begin : ByteArray := prog_13_method_12_code
abbrev y_MO_begin : MethodName := ⟨"ServerDeskModel", "begin", "(I)V"⟩
def q_MO_begin : List (Nat × Instr × Nat) := [(0, .aload_n 0, 1), (1, .iconst 0, 1), (2, .putfield 132, 3), (5, .aload_n 0, 1), (6, .iload_n 1, 1), (7, .putfield 135, 3), (10, .iconst 0, 1), (11, .istore_n 2, 1), (12, .iload_n 2, 1), (13, .iconst 5, 1), (14, .if_icmp .ge 30, 3), (17, .aload_n 0, 1), (18, .getfield 50, 3), (21, .iload_n 2, 1), (22, .iconst 0, 1), (23, .iastore, 1), (24, .aload_n 0, 1), (25, .getfield 53, 3), (28, .iload_n 2, 1), (29, .iconst 0, 1), (30, .iastore, 1), (31, .aload_n 0, 1), (32, .getfield 56, 3), (35, .iload_n 2, 1), (36, .iconst 0, 1), (37, .iastore, 1), (38, .iinc 2 1, 3), (41, .goto (-29), 3), (44, .aload_n 0, 1), (45, .iload_n 1, 1), (46, .iconst 1, 1), (47, .if_icmp .eq 8, 3), (50, .iload_n 1, 1), (51, .iconst 2, 1), (52, .if_icmp .ne 12, 3), (55, .aload_n 0, 1), (56, .getfield 25, 3), (59, .iload_n 1, 1), (60, .iaload, 1), (61, .goto 4, 3), (64, .iconst 0, 1), (65, .putfield 138, 3), (68, .iconst 0, 1), (69, .istore_n 2, 1), (70, .iload_n 2, 1), (71, .sipush 2000, 3), (74, .if_icmp .gt 16, 3), (77, .aload_n 0, 1), (78, .getfield 59, 3), (81, .iload_n 2, 1), (82, .iconst 0, 1), (83, .iastore, 1), (84, .iinc 2 1, 3), (87, .goto (-17), 3), (90, .aload_n 0, 1), (91, .iconst 0, 1), (92, .putfield 141, 3), (95, .aload_n 0, 1), (96, .iconst 0, 1), (97, .putfield 144, 3), (100, .return_, 1)]
def i_MO_begin : Nat → Option (Instr × Nat) := am_find q_MO_begin
theorem d_MO_begin_0 : decode b_MO_begin 0 = .ok (.aload_n 0, 1) := by decide +kernel
theorem d_MO_begin_1 : decode b_MO_begin 1 = .ok (.iconst 0, 1) := by decide +kernel
theorem d_MO_begin_2 : decode b_MO_begin 2 = .ok (.putfield 132, 3) := by decide +kernel
theorem d_MO_begin_5 : decode b_MO_begin 5 = .ok (.aload_n 0, 1) := by decide +kernel
theorem d_MO_begin_6 : decode b_MO_begin 6 = .ok (.iload_n 1, 1) := by decide +kernel
theorem d_MO_begin_7 : decode b_MO_begin 7 = .ok (.putfield 135, 3) := by decide +kernel
theorem d_MO_begin_10 : decode b_MO_begin 10 = .ok (.iconst 0, 1) := by decide +kernel
theorem d_MO_begin_11 : decode b_MO_begin 11 = .ok (.istore_n 2, 1) := by decide +kernel
theorem d_MO_begin_12 : decode b_MO_begin 12 = .ok (.iload_n 2, 1) := by decide +kernel
theorem d_MO_begin_13 : decode b_MO_begin 13 = .ok (.iconst 5, 1) := by decide +kernel
theorem d_MO_begin_14 : decode b_MO_begin 14 = .ok (.if_icmp .ge 30, 3) := by decide +kernel
theorem d_MO_begin_17 : decode b_MO_begin 17 = .ok (.aload_n 0, 1) := by decide +kernel
theorem d_MO_begin_18 : decode b_MO_begin 18 = .ok (.getfield 50, 3) := by decide +kernel
theorem d_MO_begin_21 : decode b_MO_begin 21 = .ok (.iload_n 2, 1) := by decide +kernel
theorem d_MO_begin_22 : decode b_MO_begin 22 = .ok (.iconst 0, 1) := by decide +kernel
theorem d_MO_begin_23 : decode b_MO_begin 23 = .ok (.iastore, 1) := by decide +kernel
theorem d_MO_begin_24 : decode b_MO_begin 24 = .ok (.aload_n 0, 1) := by decide +kernel
theorem d_MO_begin_25 : decode b_MO_begin 25 = .ok (.getfield 53, 3) := by decide +kernel
theorem d_MO_begin_28 : decode b_MO_begin 28 = .ok (.iload_n 2, 1) := by decide +kernel
theorem d_MO_begin_29 : decode b_MO_begin 29 = .ok (.iconst 0, 1) := by decide +kernel
theorem d_MO_begin_30 : decode b_MO_begin 30 = .ok (.iastore, 1) := by decide +kernel
theorem d_MO_begin_31 : decode b_MO_begin 31 = .ok (.aload_n 0, 1) := by decide +kernel
theorem d_MO_begin_32 : decode b_MO_begin 32 = .ok (.getfield 56, 3) := by decide +kernel
theorem d_MO_begin_35 : decode b_MO_begin 35 = .ok (.iload_n 2, 1) := by decide +kernel
theorem d_MO_begin_36 : decode b_MO_begin 36 = .ok (.iconst 0, 1) := by decide +kernel
theorem d_MO_begin_37 : decode b_MO_begin 37 = .ok (.iastore, 1) := by decide +kernel
theorem d_MO_begin_38 : decode b_MO_begin 38 = .ok (.iinc 2 1, 3) := by decide +kernel
theorem d_MO_begin_41 : decode b_MO_begin 41 = .ok (.goto (-29), 3) := by decide +kernel
theorem d_MO_begin_44 : decode b_MO_begin 44 = .ok (.aload_n 0, 1) := by decide +kernel
theorem d_MO_begin_45 : decode b_MO_begin 45 = .ok (.iload_n 1, 1) := by decide +kernel
theorem d_MO_begin_46 : decode b_MO_begin 46 = .ok (.iconst 1, 1) := by decide +kernel
theorem d_MO_begin_47 : decode b_MO_begin 47 = .ok (.if_icmp .eq 8, 3) := by decide +kernel
theorem d_MO_begin_50 : decode b_MO_begin 50 = .ok (.iload_n 1, 1) := by decide +kernel
theorem d_MO_begin_51 : decode b_MO_begin 51 = .ok (.iconst 2, 1) := by decide +kernel
theorem d_MO_begin_52 : decode b_MO_begin 52 = .ok (.if_icmp .ne 12, 3) := by decide +kernel
theorem d_MO_begin_55 : decode b_MO_begin 55 = .ok (.aload_n 0, 1) := by decide +kernel
theorem d_MO_begin_56 : decode b_MO_begin 56 = .ok (.getfield 25, 3) := by decide +kernel
theorem d_MO_begin_59 : decode b_MO_begin 59 = .ok (.iload_n 1, 1) := by decide +kernel
theorem d_MO_begin_60 : decode b_MO_begin 60 = .ok (.iaload, 1) := by decide +kernel
theorem d_MO_begin_61 : decode b_MO_begin 61 = .ok (.goto 4, 3) := by decide +kernel
theorem d_MO_begin_64 : decode b_MO_begin 64 = .ok (.iconst 0, 1) := by decide +kernel
theorem d_MO_begin_65 : decode b_MO_begin 65 = .ok (.putfield 138, 3) := by decide +kernel
theorem d_MO_begin_68 : decode b_MO_begin 68 = .ok (.iconst 0, 1) := by decide +kernel
theorem d_MO_begin_69 : decode b_MO_begin 69 = .ok (.istore_n 2, 1) := by decide +kernel
theorem d_MO_begin_70 : decode b_MO_begin 70 = .ok (.iload_n 2, 1) := by decide +kernel
theorem d_MO_begin_71 : decode b_MO_begin 71 = .ok (.sipush 2000, 3) := by decide +kernel
theorem d_MO_begin_74 : decode b_MO_begin 74 = .ok (.if_icmp .gt 16, 3) := by decide +kernel
theorem d_MO_begin_77 : decode b_MO_begin 77 = .ok (.aload_n 0, 1) := by decide +kernel
theorem d_MO_begin_78 : decode b_MO_begin 78 = .ok (.getfield 59, 3) := by decide +kernel
theorem d_MO_begin_81 : decode b_MO_begin 81 = .ok (.iload_n 2, 1) := by decide +kernel
theorem d_MO_begin_82 : decode b_MO_begin 82 = .ok (.iconst 0, 1) := by decide +kernel
theorem d_MO_begin_83 : decode b_MO_begin 83 = .ok (.iastore, 1) := by decide +kernel
theorem d_MO_begin_84 : decode b_MO_begin 84 = .ok (.iinc 2 1, 3) := by decide +kernel
theorem d_MO_begin_87 : decode b_MO_begin 87 = .ok (.goto (-17), 3) := by decide +kernel
theorem d_MO_begin_90 : decode b_MO_begin 90 = .ok (.aload_n 0, 1) := by decide +kernel
theorem d_MO_begin_91 : decode b_MO_begin 91 = .ok (.iconst 0, 1) := by decide +kernel
theorem d_MO_begin_92 : decode b_MO_begin 92 = .ok (.putfield 141, 3) := by decide +kernel
theorem d_MO_begin_95 : decode b_MO_begin 95 = .ok (.aload_n 0, 1) := by decide +kernel
theorem d_MO_begin_96 : decode b_MO_begin 96 = .ok (.iconst 0, 1) := by decide +kernel
theorem d_MO_begin_97 : decode b_MO_begin 97 = .ok (.putfield 144, 3) := by decide +kernel
theorem d_MO_begin_100 : decode b_MO_begin 100 = .ok (.return_, 1) := by decide +kernel
theorem d_MO_begin : ∀ z ∈ q_MO_begin, decode b_MO_begin z.1 = .ok z.2 := List.forall_mem_cons.mpr ⟨d_MO_begin_0, List.forall_mem_cons.mpr ⟨d_MO_begin_1, List.forall_mem_cons.mpr ⟨d_MO_begin_2, List.forall_mem_cons.mpr ⟨d_MO_begin_5, List.forall_mem_cons.mpr ⟨d_MO_begin_6, List.forall_mem_cons.mpr ⟨d_MO_begin_7, List.forall_mem_cons.mpr ⟨d_MO_begin_10, List.forall_mem_cons.mpr ⟨d_MO_begin_11, List.forall_mem_cons.mpr ⟨d_MO_begin_12, List.forall_mem_cons.mpr ⟨d_MO_begin_13, List.forall_mem_cons.mpr ⟨d_MO_begin_14, List.forall_mem_cons.mpr ⟨d_MO_begin_17, List.forall_mem_cons.mpr ⟨d_MO_begin_18, List.forall_mem_cons.mpr ⟨d_MO_begin_21, List.forall_mem_cons.mpr ⟨d_MO_begin_22, List.forall_mem_cons.mpr ⟨d_MO_begin_23, List.forall_mem_cons.mpr ⟨d_MO_begin_24, List.forall_mem_cons.mpr ⟨d_MO_begin_25, List.forall_mem_cons.mpr ⟨d_MO_begin_28, List.forall_mem_cons.mpr ⟨d_MO_begin_29, List.forall_mem_cons.mpr ⟨d_MO_begin_30, List.forall_mem_cons.mpr ⟨d_MO_begin_31, List.forall_mem_cons.mpr ⟨d_MO_begin_32, List.forall_mem_cons.mpr ⟨d_MO_begin_35, List.forall_mem_cons.mpr ⟨d_MO_begin_36, List.forall_mem_cons.mpr ⟨d_MO_begin_37, List.forall_mem_cons.mpr ⟨d_MO_begin_38, List.forall_mem_cons.mpr ⟨d_MO_begin_41, List.forall_mem_cons.mpr ⟨d_MO_begin_44, List.forall_mem_cons.mpr ⟨d_MO_begin_45, List.forall_mem_cons.mpr ⟨d_MO_begin_46, List.forall_mem_cons.mpr ⟨d_MO_begin_47, List.forall_mem_cons.mpr ⟨d_MO_begin_50, List.forall_mem_cons.mpr ⟨d_MO_begin_51, List.forall_mem_cons.mpr ⟨d_MO_begin_52, List.forall_mem_cons.mpr ⟨d_MO_begin_55, List.forall_mem_cons.mpr ⟨d_MO_begin_56, List.forall_mem_cons.mpr ⟨d_MO_begin_59, List.forall_mem_cons.mpr ⟨d_MO_begin_60, List.forall_mem_cons.mpr ⟨d_MO_begin_61, List.forall_mem_cons.mpr ⟨d_MO_begin_64, List.forall_mem_cons.mpr ⟨d_MO_begin_65, List.forall_mem_cons.mpr ⟨d_MO_begin_68, List.forall_mem_cons.mpr ⟨d_MO_begin_69, List.forall_mem_cons.mpr ⟨d_MO_begin_70, List.forall_mem_cons.mpr ⟨d_MO_begin_71, List.forall_mem_cons.mpr ⟨d_MO_begin_74, List.forall_mem_cons.mpr ⟨d_MO_begin_77, List.forall_mem_cons.mpr ⟨d_MO_begin_78, List.forall_mem_cons.mpr ⟨d_MO_begin_81, List.forall_mem_cons.mpr ⟨d_MO_begin_82, List.forall_mem_cons.mpr ⟨d_MO_begin_83, List.forall_mem_cons.mpr ⟨d_MO_begin_84, List.forall_mem_cons.mpr ⟨d_MO_begin_87, List.forall_mem_cons.mpr ⟨d_MO_begin_90, List.forall_mem_cons.mpr ⟨d_MO_begin_91, List.forall_mem_cons.mpr ⟨d_MO_begin_92, List.forall_mem_cons.mpr ⟨d_MO_begin_95, List.forall_mem_cons.mpr ⟨d_MO_begin_96, List.forall_mem_cons.mpr ⟨d_MO_begin_97, List.forall_mem_cons.mpr ⟨d_MO_begin_100, fun _ h => absurd h List.not_mem_nil⟩⟩⟩⟩⟩⟩⟩⟩⟩⟩⟩⟩⟩⟩⟩⟩⟩⟩⟩⟩⟩⟩⟩⟩⟩⟩⟩⟩⟩⟩⟩⟩⟩⟩⟩⟩⟩⟩⟩⟩⟩⟩⟩⟩⟩⟩⟩⟩⟩⟩⟩⟩⟩⟩⟩⟩⟩⟩⟩⟩⟩
theorem i_MO_begin_ok : ∀ pc i n, i_MO_begin pc = some (i, n) → decode b_MO_begin pc = .ok (i, n) := fun pc i n h => d_MO_begin (pc, i, n) (am_find_mem h)
theorem i_MO_begin_0 : i_MO_begin 0 = some (.aload_n 0, 1) := rfl
theorem i_MO_begin_1 : i_MO_begin 1 = some (.iconst 0, 1) := rfl
theorem i_MO_begin_2 : i_MO_begin 2 = some (.putfield 132, 3) := rfl
theorem i_MO_begin_5 : i_MO_begin 5 = some (.aload_n 0, 1) := rfl
theorem i_MO_begin_6 : i_MO_begin 6 = some (.iload_n 1, 1) := rfl
theorem i_MO_begin_7 : i_MO_begin 7 = some (.putfield 135, 3) := rfl
theorem i_MO_begin_10 : i_MO_begin 10 = some (.iconst 0, 1) := rfl
theorem i_MO_begin_11 : i_MO_begin 11 = some (.istore_n 2, 1) := rfl
theorem i_MO_begin_12 : i_MO_begin 12 = some (.iload_n 2, 1) := rfl
theorem i_MO_begin_13 : i_MO_begin 13 = some (.iconst 5, 1) := rfl
theorem i_MO_begin_14 : i_MO_begin 14 = some (.if_icmp .ge 30, 3) := rfl
theorem i_MO_begin_17 : i_MO_begin 17 = some (.aload_n 0, 1) := rfl
theorem i_MO_begin_18 : i_MO_begin 18 = some (.getfield 50, 3) := rfl
theorem i_MO_begin_21 : i_MO_begin 21 = some (.iload_n 2, 1) := rfl
theorem i_MO_begin_22 : i_MO_begin 22 = some (.iconst 0, 1) := rfl
theorem i_MO_begin_23 : i_MO_begin 23 = some (.iastore, 1) := rfl
theorem i_MO_begin_24 : i_MO_begin 24 = some (.aload_n 0, 1) := rfl
theorem i_MO_begin_25 : i_MO_begin 25 = some (.getfield 53, 3) := rfl
theorem i_MO_begin_28 : i_MO_begin 28 = some (.iload_n 2, 1) := rfl
theorem i_MO_begin_29 : i_MO_begin 29 = some (.iconst 0, 1) := rfl
theorem i_MO_begin_30 : i_MO_begin 30 = some (.iastore, 1) := rfl
theorem i_MO_begin_31 : i_MO_begin 31 = some (.aload_n 0, 1) := rfl
theorem i_MO_begin_32 : i_MO_begin 32 = some (.getfield 56, 3) := rfl
theorem i_MO_begin_35 : i_MO_begin 35 = some (.iload_n 2, 1) := rfl
theorem i_MO_begin_36 : i_MO_begin 36 = some (.iconst 0, 1) := rfl
theorem i_MO_begin_37 : i_MO_begin 37 = some (.iastore, 1) := rfl
theorem i_MO_begin_38 : i_MO_begin 38 = some (.iinc 2 1, 3) := rfl
theorem i_MO_begin_41 : i_MO_begin 41 = some (.goto (-29), 3) := rfl
theorem i_MO_begin_44 : i_MO_begin 44 = some (.aload_n 0, 1) := rfl
theorem i_MO_begin_45 : i_MO_begin 45 = some (.iload_n 1, 1) := rfl
theorem i_MO_begin_46 : i_MO_begin 46 = some (.iconst 1, 1) := rfl
theorem i_MO_begin_47 : i_MO_begin 47 = some (.if_icmp .eq 8, 3) := rfl
theorem i_MO_begin_50 : i_MO_begin 50 = some (.iload_n 1, 1) := rfl
theorem i_MO_begin_51 : i_MO_begin 51 = some (.iconst 2, 1) := rfl
theorem i_MO_begin_52 : i_MO_begin 52 = some (.if_icmp .ne 12, 3) := rfl
theorem i_MO_begin_55 : i_MO_begin 55 = some (.aload_n 0, 1) := rfl
theorem i_MO_begin_56 : i_MO_begin 56 = some (.getfield 25, 3) := rfl
theorem i_MO_begin_59 : i_MO_begin 59 = some (.iload_n 1, 1) := rfl
theorem i_MO_begin_60 : i_MO_begin 60 = some (.iaload, 1) := rfl
theorem i_MO_begin_61 : i_MO_begin 61 = some (.goto 4, 3) := rfl
theorem i_MO_begin_64 : i_MO_begin 64 = some (.iconst 0, 1) := rfl
theorem i_MO_begin_65 : i_MO_begin 65 = some (.putfield 138, 3) := rfl
theorem i_MO_begin_68 : i_MO_begin 68 = some (.iconst 0, 1) := rfl
theorem i_MO_begin_69 : i_MO_begin 69 = some (.istore_n 2, 1) := rfl
theorem i_MO_begin_70 : i_MO_begin 70 = some (.iload_n 2, 1) := rfl
theorem i_MO_begin_71 : i_MO_begin 71 = some (.sipush 2000, 3) := rfl
theorem i_MO_begin_74 : i_MO_begin 74 = some (.if_icmp .gt 16, 3) := rfl
theorem i_MO_begin_77 : i_MO_begin 77 = some (.aload_n 0, 1) := rfl
theorem i_MO_begin_78 : i_MO_begin 78 = some (.getfield 59, 3) := rfl
theorem i_MO_begin_81 : i_MO_begin 81 = some (.iload_n 2, 1) := rfl
theorem i_MO_begin_82 : i_MO_begin 82 = some (.iconst 0, 1) := rfl
theorem i_MO_begin_83 : i_MO_begin 83 = some (.iastore, 1) := rfl
theorem i_MO_begin_84 : i_MO_begin 84 = some (.iinc 2 1, 3) := rfl
theorem i_MO_begin_87 : i_MO_begin 87 = some (.goto (-17), 3) := rfl
theorem i_MO_begin_90 : i_MO_begin 90 = some (.aload_n 0, 1) := rfl
theorem i_MO_begin_91 : i_MO_begin 91 = some (.iconst 0, 1) := rfl
theorem i_MO_begin_92 : i_MO_begin 92 = some (.putfield 141, 3) := rfl
theorem i_MO_begin_95 : i_MO_begin 95 = some (.aload_n 0, 1) := rfl
theorem i_MO_begin_96 : i_MO_begin 96 = some (.iconst 0, 1) := rfl
theorem i_MO_begin_97 : i_MO_begin 97 = some (.putfield 144, 3) := rfl
theorem i_MO_begin_100 : i_MO_begin 100 = some (.return_, 1) := rfl
abbrev w_MO_begin : List Jvm.Cond := Jvm.Cond.code y_MO_begin b_MO_begin 3 none :: vw_W
theorem c_MO_begin : Jvm.Cond.code y_MO_begin b_MO_begin 3 none ∈ vw_W := vw_t 982 (by decide +kernel) (by decide +kernel)
abbrev r_MO_begin : Room := { frames := 0, cells := 0, slots := 0, locals := 0 }
abbrev b_MO_tick : ByteArray := prog_13_method_24_code
abbrev y_MO_tick : MethodName := ⟨"ServerDeskModel", "tick", "(I)I"⟩
def q_MO_tick : List (Nat × Instr × Nat) := [(0, .aload_n 0, 1), (1, .iload_n 1, 1), (2, .iconst 1, 1), (3, .bipush 100, 2), (5, .invokestatic 103, 3), (8, .ifCond .ne 7, 3), (11, .iconst 1, 1), (12, .goto 27, 3), (15, .aload_n 0, 1), (16, .getfield 111, 3), (19, .ifCond .eq 15, 3), (22, .aload_n 0, 1), (23, .getfield 132, 3), (26, .iload_n 1, 1), (27, .iadd, 1), (28, .sipush 2000, 3), (31, .if_icmp .le 7, 3), (34, .iconst 2, 1), (35, .goto 4, 3), (38, .iconst 0, 1), (39, .putfield 92, 3), (42, .aload_n 0, 1), (43, .getfield 92, 3), (46, .ifCond .le 5, 3), (49, .iconst 0, 1), (50, .ireturn, 1), (51, .iconst 0, 1), (52, .istore_n 2, 1), (53, .iconst 0, 1), (54, .istore_n 3, 1), (55, .iload_n 3, 1), (56, .iload_n 1, 1), (57, .if_icmp .ge 14, 3), (60, .aload_n 0, 1), (61, .invokevirtual 182, 3), (64, .istore_n 2, 1), (65, .iinc 3 1, 3), (68, .goto (-13), 3), (71, .iload_n 2, 1), (72, .ireturn, 1)]
def i_MO_tick : Nat → Option (Instr × Nat) := am_find q_MO_tick
theorem d_MO_tick_0 : decode b_MO_tick 0 = .ok (.aload_n 0, 1) := by decide +kernel
theorem d_MO_tick_1 : decode b_MO_tick 1 = .ok (.iload_n 1, 1) := by decide +kernel
theorem d_MO_tick_2 : decode b_MO_tick 2 = .ok (.iconst 1, 1) := by decide +kernel
theorem d_MO_tick_3 : decode b_MO_tick 3 = .ok (.bipush 100, 2) := by decide +kernel
theorem d_MO_tick_5 : decode b_MO_tick 5 = .ok (.invokestatic 103, 3) := by decide +kernel
theorem d_MO_tick_8 : decode b_MO_tick 8 = .ok (.ifCond .ne 7, 3) := by decide +kernel
theorem d_MO_tick_11 : decode b_MO_tick 11 = .ok (.iconst 1, 1) := by decide +kernel
theorem d_MO_tick_12 : decode b_MO_tick 12 = .ok (.goto 27, 3) := by decide +kernel
theorem d_MO_tick_15 : decode b_MO_tick 15 = .ok (.aload_n 0, 1) := by decide +kernel
theorem d_MO_tick_16 : decode b_MO_tick 16 = .ok (.getfield 111, 3) := by decide +kernel
theorem d_MO_tick_19 : decode b_MO_tick 19 = .ok (.ifCond .eq 15, 3) := by decide +kernel
theorem d_MO_tick_22 : decode b_MO_tick 22 = .ok (.aload_n 0, 1) := by decide +kernel
theorem d_MO_tick_23 : decode b_MO_tick 23 = .ok (.getfield 132, 3) := by decide +kernel
theorem d_MO_tick_26 : decode b_MO_tick 26 = .ok (.iload_n 1, 1) := by decide +kernel
theorem d_MO_tick_27 : decode b_MO_tick 27 = .ok (.iadd, 1) := by decide +kernel
theorem d_MO_tick_28 : decode b_MO_tick 28 = .ok (.sipush 2000, 3) := by decide +kernel
theorem d_MO_tick_31 : decode b_MO_tick 31 = .ok (.if_icmp .le 7, 3) := by decide +kernel
theorem d_MO_tick_34 : decode b_MO_tick 34 = .ok (.iconst 2, 1) := by decide +kernel
theorem d_MO_tick_35 : decode b_MO_tick 35 = .ok (.goto 4, 3) := by decide +kernel
theorem d_MO_tick_38 : decode b_MO_tick 38 = .ok (.iconst 0, 1) := by decide +kernel
theorem d_MO_tick_39 : decode b_MO_tick 39 = .ok (.putfield 92, 3) := by decide +kernel
theorem d_MO_tick_42 : decode b_MO_tick 42 = .ok (.aload_n 0, 1) := by decide +kernel
theorem d_MO_tick_43 : decode b_MO_tick 43 = .ok (.getfield 92, 3) := by decide +kernel
theorem d_MO_tick_46 : decode b_MO_tick 46 = .ok (.ifCond .le 5, 3) := by decide +kernel
theorem d_MO_tick_49 : decode b_MO_tick 49 = .ok (.iconst 0, 1) := by decide +kernel
theorem d_MO_tick_50 : decode b_MO_tick 50 = .ok (.ireturn, 1) := by decide +kernel
theorem d_MO_tick_51 : decode b_MO_tick 51 = .ok (.iconst 0, 1) := by decide +kernel
theorem d_MO_tick_52 : decode b_MO_tick 52 = .ok (.istore_n 2, 1) := by decide +kernel
theorem d_MO_tick_53 : decode b_MO_tick 53 = .ok (.iconst 0, 1) := by decide +kernel
theorem d_MO_tick_54 : decode b_MO_tick 54 = .ok (.istore_n 3, 1) := by decide +kernel
theorem d_MO_tick_55 : decode b_MO_tick 55 = .ok (.iload_n 3, 1) := by decide +kernel
theorem d_MO_tick_56 : decode b_MO_tick 56 = .ok (.iload_n 1, 1) := by decide +kernel
theorem d_MO_tick_57 : decode b_MO_tick 57 = .ok (.if_icmp .ge 14, 3) := by decide +kernel
theorem d_MO_tick_60 : decode b_MO_tick 60 = .ok (.aload_n 0, 1) := by decide +kernel
theorem d_MO_tick_61 : decode b_MO_tick 61 = .ok (.invokevirtual 182, 3) := by decide +kernel
theorem d_MO_tick_64 : decode b_MO_tick 64 = .ok (.istore_n 2, 1) := by decide +kernel
theorem d_MO_tick_65 : decode b_MO_tick 65 = .ok (.iinc 3 1, 3) := by decide +kernel
theorem d_MO_tick_68 : decode b_MO_tick 68 = .ok (.goto (-13), 3) := by decide +kernel
theorem d_MO_tick_71 : decode b_MO_tick 71 = .ok (.iload_n 2, 1) := by decide +kernel
theorem d_MO_tick_72 : decode b_MO_tick 72 = .ok (.ireturn, 1) := by decide +kernel
theorem d_MO_tick : ∀ z ∈ q_MO_tick, decode b_MO_tick z.1 = .ok z.2 := List.forall_mem_cons.mpr ⟨d_MO_tick_0, List.forall_mem_cons.mpr ⟨d_MO_tick_1, List.forall_mem_cons.mpr ⟨d_MO_tick_2, List.forall_mem_cons.mpr ⟨d_MO_tick_3, List.forall_mem_cons.mpr ⟨d_MO_tick_5, List.forall_mem_cons.mpr ⟨d_MO_tick_8, List.forall_mem_cons.mpr ⟨d_MO_tick_11, List.forall_mem_cons.mpr ⟨d_MO_tick_12, List.forall_mem_cons.mpr ⟨d_MO_tick_15, List.forall_mem_cons.mpr ⟨d_MO_tick_16, List.forall_mem_cons.mpr ⟨d_MO_tick_19, List.forall_mem_cons.mpr ⟨d_MO_tick_22, List.forall_mem_cons.mpr ⟨d_MO_tick_23, List.forall_mem_cons.mpr ⟨d_MO_tick_26, List.forall_mem_cons.mpr ⟨d_MO_tick_27, List.forall_mem_cons.mpr ⟨d_MO_tick_28, List.forall_mem_cons.mpr ⟨d_MO_tick_31, List.forall_mem_cons.mpr ⟨d_MO_tick_34, List.forall_mem_cons.mpr ⟨d_MO_tick_35, List.forall_mem_cons.mpr ⟨d_MO_tick_38, List.forall_mem_cons.mpr ⟨d_MO_tick_39, List.forall_mem_cons.mpr ⟨d_MO_tick_42, List.forall_mem_cons.mpr ⟨d_MO_tick_43, List.forall_mem_cons.mpr ⟨d_MO_tick_46, List.forall_mem_cons.mpr ⟨d_MO_tick_49, List.forall_mem_cons.mpr ⟨d_MO_tick_50, List.forall_mem_cons.mpr ⟨d_MO_tick_51, List.forall_mem_cons.mpr ⟨d_MO_tick_52, List.forall_mem_cons.mpr ⟨d_MO_tick_53, List.forall_mem_cons.mpr ⟨d_MO_tick_54, List.forall_mem_cons.mpr ⟨d_MO_tick_55, List.forall_mem_cons.mpr ⟨d_MO_tick_56, List.forall_mem_cons.mpr ⟨d_MO_tick_57, List.forall_mem_cons.mpr ⟨d_MO_tick_60, List.forall_mem_cons.mpr ⟨d_MO_tick_61, List.forall_mem_cons.mpr ⟨d_MO_tick_64, List.forall_mem_cons.mpr ⟨d_MO_tick_65, List.forall_mem_cons.mpr ⟨d_MO_tick_68, List.forall_mem_cons.mpr ⟨d_MO_tick_71, List.forall_mem_cons.mpr ⟨d_MO_tick_72, fun _ h => absurd h List.not_mem_nil⟩⟩⟩⟩⟩⟩⟩⟩⟩⟩⟩⟩⟩⟩⟩⟩⟩⟩⟩⟩⟩⟩⟩⟩⟩⟩⟩⟩⟩⟩⟩⟩⟩⟩⟩⟩⟩⟩⟩⟩
theorem i_MO_tick_ok : ∀ pc i n, i_MO_tick pc = some (i, n) → decode b_MO_tick pc = .ok (i, n) := fun pc i n h => d_MO_tick (pc, i, n) (am_find_mem h)
theorem i_MO_tick_0 : i_MO_tick 0 = some (.aload_n 0, 1) := rfl
theorem i_MO_tick_1 : i_MO_tick 1 = some (.iload_n 1, 1) := rfl
theorem i_MO_tick_2 : i_MO_tick 2 = some (.iconst 1, 1) := rfl
theorem i_MO_tick_3 : i_MO_tick 3 = some (.bipush 100, 2) := rfl
theorem i_MO_tick_5 : i_MO_tick 5 = some (.invokestatic 103, 3) := rfl
theorem i_MO_tick_8 : i_MO_tick 8 = some (.ifCond .ne 7, 3) := rfl
theorem i_MO_tick_11 : i_MO_tick 11 = some (.iconst 1, 1) := rfl
theorem i_MO_tick_12 : i_MO_tick 12 = some (.goto 27, 3) := rfl
theorem i_MO_tick_15 : i_MO_tick 15 = some (.aload_n 0, 1) := rfl
theorem i_MO_tick_16 : i_MO_tick 16 = some (.getfield 111, 3) := rfl
theorem i_MO_tick_19 : i_MO_tick 19 = some (.ifCond .eq 15, 3) := rfl
theorem i_MO_tick_22 : i_MO_tick 22 = some (.aload_n 0, 1) := rfl
theorem i_MO_tick_23 : i_MO_tick 23 = some (.getfield 132, 3) := rfl
theorem i_MO_tick_26 : i_MO_tick 26 = some (.iload_n 1, 1) := rfl
theorem i_MO_tick_27 : i_MO_tick 27 = some (.iadd, 1) := rfl
theorem i_MO_tick_28 : i_MO_tick 28 = some (.sipush 2000, 3) := rfl
theorem i_MO_tick_31 : i_MO_tick 31 = some (.if_icmp .le 7, 3) := rfl
theorem i_MO_tick_34 : i_MO_tick 34 = some (.iconst 2, 1) := rfl
theorem i_MO_tick_35 : i_MO_tick 35 = some (.goto 4, 3) := rfl
theorem i_MO_tick_38 : i_MO_tick 38 = some (.iconst 0, 1) := rfl
theorem i_MO_tick_39 : i_MO_tick 39 = some (.putfield 92, 3) := rfl
theorem i_MO_tick_42 : i_MO_tick 42 = some (.aload_n 0, 1) := rfl
theorem i_MO_tick_43 : i_MO_tick 43 = some (.getfield 92, 3) := rfl
theorem i_MO_tick_46 : i_MO_tick 46 = some (.ifCond .le 5, 3) := rfl
theorem i_MO_tick_49 : i_MO_tick 49 = some (.iconst 0, 1) := rfl
theorem i_MO_tick_50 : i_MO_tick 50 = some (.ireturn, 1) := rfl
theorem i_MO_tick_51 : i_MO_tick 51 = some (.iconst 0, 1) := rfl
theorem i_MO_tick_52 : i_MO_tick 52 = some (.istore_n 2, 1) := rfl
theorem i_MO_tick_53 : i_MO_tick 53 = some (.iconst 0, 1) := rfl
theorem i_MO_tick_54 : i_MO_tick 54 = some (.istore_n 3, 1) := rfl
theorem i_MO_tick_55 : i_MO_tick 55 = some (.iload_n 3, 1) := rfl
theorem i_MO_tick_56 : i_MO_tick 56 = some (.iload_n 1, 1) := rfl
theorem i_MO_tick_57 : i_MO_tick 57 = some (.if_icmp .ge 14, 3) := rfl
theorem i_MO_tick_60 : i_MO_tick 60 = some (.aload_n 0, 1) := rfl
theorem i_MO_tick_61 : i_MO_tick 61 = some (.invokevirtual 182, 3) := rfl
theorem i_MO_tick_64 : i_MO_tick 64 = some (.istore_n 2, 1) := rfl
theorem i_MO_tick_65 : i_MO_tick 65 = some (.iinc 3 1, 3) := rfl
theorem i_MO_tick_68 : i_MO_tick 68 = some (.goto (-13), 3) := rfl
theorem i_MO_tick_71 : i_MO_tick 71 = some (.iload_n 2, 1) := rfl
theorem i_MO_tick_72 : i_MO_tick 72 = some (.ireturn, 1) := rfl
abbrev w_MO_tick : List Jvm.Cond := Jvm.Cond.code y_MO_tick b_MO_tick 4 (some .int) :: vw_W
theorem c_MO_tick : Jvm.Cond.code y_MO_tick b_MO_tick 4 (some .int) ∈ vw_W := vw_t 986 (by decide +kernel) (by decide +kernel)
abbrev r_MO_tick : Room := { frames := 7, cells := 0, slots := 0, locals := 164 }
abbrev b_MO_tickOne : ByteArray := prog_13_method_23_code
abbrev y_MO_tickOne : MethodName := ⟨"ServerDeskModel", "tickOne", "()I"⟩
def q_MO_tickOne : List (Nat × Instr × Nat) := [(0, .aload_n 0, 1), (1, .invokevirtual 166, 3), (4, .aload_n 0, 1), (5, .invokevirtual 169, 3), (8, .aload_n 0, 1), (9, .invokevirtual 172, 3), (12, .istore_n 1, 1), (13, .aload_n 0, 1), (14, .invokevirtual 175, 3), (17, .istore_n 2, 1), (18, .iload_n 1, 1), (19, .iconst (-1), 1), (20, .if_icmp .eq 14, 3), (23, .aload_n 0, 1), (24, .invokevirtual 178, 3), (27, .ifCond .eq 7, 3), (30, .iconst 1, 1), (31, .goto 4, 3), (34, .iconst 0, 1), (35, .istore_n 3, 1), (36, .iconst 0, 1), (37, .istore 4, 2), (39, .iload_n 1, 1), (40, .iconst (-1), 1), (41, .if_icmp .eq 86, 3), (44, .iload_n 3, 1), (45, .ifCond .ne 8, 3), (48, .iload_n 2, 1), (49, .iconst (-1), 1), (50, .if_icmp .ne 77, 3), (53, .iconst (-1), 1), (54, .iload_n 1, 1), (55, .isub, 1), (56, .istore 4, 2), (58, .aload_n 0, 1), (59, .getfield 62, 3), (62, .iload_n 1, 1), (63, .dup2, 1), (64, .iaload, 1), (65, .iconst 1, 1), (66, .isub, 1), (67, .iastore, 1), (68, .aload_n 0, 1), (69, .getfield 62, 3), (72, .iload_n 1, 1), (73, .iaload, 1), (74, .ifCond .ne 15, 3), (77, .aload_n 0, 1), (78, .getfield 65, 3), (81, .iload_n 1, 1), (82, .aload_n 0, 1), (83, .getfield 132, 3), (86, .iconst 1, 1), (87, .iadd, 1), (88, .iastore, 1), (89, .iload_n 3, 1), (90, .ifCond .eq 57, 3), (93, .aload_n 0, 1), (94, .getfield 135, 3), (97, .iconst 3, 1), (98, .if_icmp .eq 49, 3), (101, .aload_n 0, 1), (102, .dup, 1), (103, .getfield 138, 3), (106, .iconst 1, 1), (107, .isub, 1), (108, .putfield 138, 3), (111, .aload_n 0, 1), (112, .getfield 59, 3), (115, .aload_n 0, 1), (116, .getfield 132, 3), (119, .dup2, 1), (120, .iaload, 1), (121, .iconst 1, 1), (122, .iadd, 1), (123, .iastore, 1), (124, .goto 23, 3), (127, .iload_n 2, 1), (128, .iconst (-1), 1), (129, .if_icmp .eq 18, 3), (132, .iload_n 2, 1), (133, .iconst 1, 1), (134, .iadd, 1), (135, .istore 4, 2), (137, .aload_n 0, 1), (138, .getfield 50, 3), (141, .iload_n 2, 1), (142, .dup2, 1), (143, .iaload, 1), (144, .iconst 1, 1), (145, .isub, 1), (146, .iastore, 1), (147, .aload_n 0, 1), (148, .getfield 68, 3), (151, .aload_n 0, 1), (152, .getfield 132, 3), (155, .iload 4, 2), (157, .iastore, 1), (158, .aload_n 0, 1), (159, .dup, 1), (160, .getfield 132, 3), (163, .iconst 1, 1), (164, .iadd, 1), (165, .putfield 132, 3), (168, .iload 4, 2), (170, .ireturn, 1)]
def i_MO_tickOne : Nat → Option (Instr × Nat) := am_find q_MO_tickOne
theorem d_MO_tickOne_0 : decode b_MO_tickOne 0 = .ok (.aload_n 0, 1) := by decide +kernel
theorem d_MO_tickOne_1 : decode b_MO_tickOne 1 = .ok (.invokevirtual 166, 3) := by decide +kernel
theorem d_MO_tickOne_4 : decode b_MO_tickOne 4 = .ok (.aload_n 0, 1) := by decide +kernel
theorem d_MO_tickOne_5 : decode b_MO_tickOne 5 = .ok (.invokevirtual 169, 3) := by decide +kernel
theorem d_MO_tickOne_8 : decode b_MO_tickOne 8 = .ok (.aload_n 0, 1) := by decide +kernel
theorem d_MO_tickOne_9 : decode b_MO_tickOne 9 = .ok (.invokevirtual 172, 3) := by decide +kernel
theorem d_MO_tickOne_12 : decode b_MO_tickOne 12 = .ok (.istore_n 1, 1) := by decide +kernel
theorem d_MO_tickOne_13 : decode b_MO_tickOne 13 = .ok (.aload_n 0, 1) := by decide +kernel
theorem d_MO_tickOne_14 : decode b_MO_tickOne 14 = .ok (.invokevirtual 175, 3) := by decide +kernel
theorem d_MO_tickOne_17 : decode b_MO_tickOne 17 = .ok (.istore_n 2, 1) := by decide +kernel
theorem d_MO_tickOne_18 : decode b_MO_tickOne 18 = .ok (.iload_n 1, 1) := by decide +kernel
theorem d_MO_tickOne_19 : decode b_MO_tickOne 19 = .ok (.iconst (-1), 1) := by decide +kernel
theorem d_MO_tickOne_20 : decode b_MO_tickOne 20 = .ok (.if_icmp .eq 14, 3) := by decide +kernel
theorem d_MO_tickOne_23 : decode b_MO_tickOne 23 = .ok (.aload_n 0, 1) := by decide +kernel
theorem d_MO_tickOne_24 : decode b_MO_tickOne 24 = .ok (.invokevirtual 178, 3) := by decide +kernel
theorem d_MO_tickOne_27 : decode b_MO_tickOne 27 = .ok (.ifCond .eq 7, 3) := by decide +kernel
theorem d_MO_tickOne_30 : decode b_MO_tickOne 30 = .ok (.iconst 1, 1) := by decide +kernel
theorem d_MO_tickOne_31 : decode b_MO_tickOne 31 = .ok (.goto 4, 3) := by decide +kernel
theorem d_MO_tickOne_34 : decode b_MO_tickOne 34 = .ok (.iconst 0, 1) := by decide +kernel
theorem d_MO_tickOne_35 : decode b_MO_tickOne 35 = .ok (.istore_n 3, 1) := by decide +kernel
theorem d_MO_tickOne_36 : decode b_MO_tickOne 36 = .ok (.iconst 0, 1) := by decide +kernel
theorem d_MO_tickOne_37 : decode b_MO_tickOne 37 = .ok (.istore 4, 2) := by decide +kernel
theorem d_MO_tickOne_39 : decode b_MO_tickOne 39 = .ok (.iload_n 1, 1) := by decide +kernel
theorem d_MO_tickOne_40 : decode b_MO_tickOne 40 = .ok (.iconst (-1), 1) := by decide +kernel
theorem d_MO_tickOne_41 : decode b_MO_tickOne 41 = .ok (.if_icmp .eq 86, 3) := by decide +kernel
theorem d_MO_tickOne_44 : decode b_MO_tickOne 44 = .ok (.iload_n 3, 1) := by decide +kernel
theorem d_MO_tickOne_45 : decode b_MO_tickOne 45 = .ok (.ifCond .ne 8, 3) := by decide +kernel
theorem d_MO_tickOne_48 : decode b_MO_tickOne 48 = .ok (.iload_n 2, 1) := by decide +kernel
theorem d_MO_tickOne_49 : decode b_MO_tickOne 49 = .ok (.iconst (-1), 1) := by decide +kernel
theorem d_MO_tickOne_50 : decode b_MO_tickOne 50 = .ok (.if_icmp .ne 77, 3) := by decide +kernel
theorem d_MO_tickOne_53 : decode b_MO_tickOne 53 = .ok (.iconst (-1), 1) := by decide +kernel
theorem d_MO_tickOne_54 : decode b_MO_tickOne 54 = .ok (.iload_n 1, 1) := by decide +kernel
theorem d_MO_tickOne_55 : decode b_MO_tickOne 55 = .ok (.isub, 1) := by decide +kernel
theorem d_MO_tickOne_56 : decode b_MO_tickOne 56 = .ok (.istore 4, 2) := by decide +kernel
theorem d_MO_tickOne_58 : decode b_MO_tickOne 58 = .ok (.aload_n 0, 1) := by decide +kernel
theorem d_MO_tickOne_59 : decode b_MO_tickOne 59 = .ok (.getfield 62, 3) := by decide +kernel
theorem d_MO_tickOne_62 : decode b_MO_tickOne 62 = .ok (.iload_n 1, 1) := by decide +kernel
theorem d_MO_tickOne_63 : decode b_MO_tickOne 63 = .ok (.dup2, 1) := by decide +kernel
theorem d_MO_tickOne_64 : decode b_MO_tickOne 64 = .ok (.iaload, 1) := by decide +kernel
theorem d_MO_tickOne_65 : decode b_MO_tickOne 65 = .ok (.iconst 1, 1) := by decide +kernel
theorem d_MO_tickOne_66 : decode b_MO_tickOne 66 = .ok (.isub, 1) := by decide +kernel
theorem d_MO_tickOne_67 : decode b_MO_tickOne 67 = .ok (.iastore, 1) := by decide +kernel
theorem d_MO_tickOne_68 : decode b_MO_tickOne 68 = .ok (.aload_n 0, 1) := by decide +kernel
theorem d_MO_tickOne_69 : decode b_MO_tickOne 69 = .ok (.getfield 62, 3) := by decide +kernel
theorem d_MO_tickOne_72 : decode b_MO_tickOne 72 = .ok (.iload_n 1, 1) := by decide +kernel
theorem d_MO_tickOne_73 : decode b_MO_tickOne 73 = .ok (.iaload, 1) := by decide +kernel
theorem d_MO_tickOne_74 : decode b_MO_tickOne 74 = .ok (.ifCond .ne 15, 3) := by decide +kernel
theorem d_MO_tickOne_77 : decode b_MO_tickOne 77 = .ok (.aload_n 0, 1) := by decide +kernel
theorem d_MO_tickOne_78 : decode b_MO_tickOne 78 = .ok (.getfield 65, 3) := by decide +kernel
theorem d_MO_tickOne_81 : decode b_MO_tickOne 81 = .ok (.iload_n 1, 1) := by decide +kernel
theorem d_MO_tickOne_82 : decode b_MO_tickOne 82 = .ok (.aload_n 0, 1) := by decide +kernel
theorem d_MO_tickOne_83 : decode b_MO_tickOne 83 = .ok (.getfield 132, 3) := by decide +kernel
theorem d_MO_tickOne_86 : decode b_MO_tickOne 86 = .ok (.iconst 1, 1) := by decide +kernel
theorem d_MO_tickOne_87 : decode b_MO_tickOne 87 = .ok (.iadd, 1) := by decide +kernel
theorem d_MO_tickOne_88 : decode b_MO_tickOne 88 = .ok (.iastore, 1) := by decide +kernel
theorem d_MO_tickOne_89 : decode b_MO_tickOne 89 = .ok (.iload_n 3, 1) := by decide +kernel
theorem d_MO_tickOne_90 : decode b_MO_tickOne 90 = .ok (.ifCond .eq 57, 3) := by decide +kernel
theorem d_MO_tickOne_93 : decode b_MO_tickOne 93 = .ok (.aload_n 0, 1) := by decide +kernel
theorem d_MO_tickOne_94 : decode b_MO_tickOne 94 = .ok (.getfield 135, 3) := by decide +kernel
theorem d_MO_tickOne_97 : decode b_MO_tickOne 97 = .ok (.iconst 3, 1) := by decide +kernel
theorem d_MO_tickOne_98 : decode b_MO_tickOne 98 = .ok (.if_icmp .eq 49, 3) := by decide +kernel
theorem d_MO_tickOne_101 : decode b_MO_tickOne 101 = .ok (.aload_n 0, 1) := by decide +kernel
theorem d_MO_tickOne_102 : decode b_MO_tickOne 102 = .ok (.dup, 1) := by decide +kernel
theorem d_MO_tickOne_103 : decode b_MO_tickOne 103 = .ok (.getfield 138, 3) := by decide +kernel
theorem d_MO_tickOne_106 : decode b_MO_tickOne 106 = .ok (.iconst 1, 1) := by decide +kernel
theorem d_MO_tickOne_107 : decode b_MO_tickOne 107 = .ok (.isub, 1) := by decide +kernel
theorem d_MO_tickOne_108 : decode b_MO_tickOne 108 = .ok (.putfield 138, 3) := by decide +kernel
theorem d_MO_tickOne_111 : decode b_MO_tickOne 111 = .ok (.aload_n 0, 1) := by decide +kernel
theorem d_MO_tickOne_112 : decode b_MO_tickOne 112 = .ok (.getfield 59, 3) := by decide +kernel
theorem d_MO_tickOne_115 : decode b_MO_tickOne 115 = .ok (.aload_n 0, 1) := by decide +kernel
theorem d_MO_tickOne_116 : decode b_MO_tickOne 116 = .ok (.getfield 132, 3) := by decide +kernel
theorem d_MO_tickOne_119 : decode b_MO_tickOne 119 = .ok (.dup2, 1) := by decide +kernel
theorem d_MO_tickOne_120 : decode b_MO_tickOne 120 = .ok (.iaload, 1) := by decide +kernel
theorem d_MO_tickOne_121 : decode b_MO_tickOne 121 = .ok (.iconst 1, 1) := by decide +kernel
theorem d_MO_tickOne_122 : decode b_MO_tickOne 122 = .ok (.iadd, 1) := by decide +kernel
theorem d_MO_tickOne_123 : decode b_MO_tickOne 123 = .ok (.iastore, 1) := by decide +kernel
theorem d_MO_tickOne_124 : decode b_MO_tickOne 124 = .ok (.goto 23, 3) := by decide +kernel
theorem d_MO_tickOne_127 : decode b_MO_tickOne 127 = .ok (.iload_n 2, 1) := by decide +kernel
theorem d_MO_tickOne_128 : decode b_MO_tickOne 128 = .ok (.iconst (-1), 1) := by decide +kernel
theorem d_MO_tickOne_129 : decode b_MO_tickOne 129 = .ok (.if_icmp .eq 18, 3) := by decide +kernel
theorem d_MO_tickOne_132 : decode b_MO_tickOne 132 = .ok (.iload_n 2, 1) := by decide +kernel
theorem d_MO_tickOne_133 : decode b_MO_tickOne 133 = .ok (.iconst 1, 1) := by decide +kernel
theorem d_MO_tickOne_134 : decode b_MO_tickOne 134 = .ok (.iadd, 1) := by decide +kernel
theorem d_MO_tickOne_135 : decode b_MO_tickOne 135 = .ok (.istore 4, 2) := by decide +kernel
theorem d_MO_tickOne_137 : decode b_MO_tickOne 137 = .ok (.aload_n 0, 1) := by decide +kernel
theorem d_MO_tickOne_138 : decode b_MO_tickOne 138 = .ok (.getfield 50, 3) := by decide +kernel
theorem d_MO_tickOne_141 : decode b_MO_tickOne 141 = .ok (.iload_n 2, 1) := by decide +kernel
theorem d_MO_tickOne_142 : decode b_MO_tickOne 142 = .ok (.dup2, 1) := by decide +kernel
theorem d_MO_tickOne_143 : decode b_MO_tickOne 143 = .ok (.iaload, 1) := by decide +kernel
theorem d_MO_tickOne_144 : decode b_MO_tickOne 144 = .ok (.iconst 1, 1) := by decide +kernel
theorem d_MO_tickOne_145 : decode b_MO_tickOne 145 = .ok (.isub, 1) := by decide +kernel
theorem d_MO_tickOne_146 : decode b_MO_tickOne 146 = .ok (.iastore, 1) := by decide +kernel
theorem d_MO_tickOne_147 : decode b_MO_tickOne 147 = .ok (.aload_n 0, 1) := by decide +kernel
theorem d_MO_tickOne_148 : decode b_MO_tickOne 148 = .ok (.getfield 68, 3) := by decide +kernel
theorem d_MO_tickOne_151 : decode b_MO_tickOne 151 = .ok (.aload_n 0, 1) := by decide +kernel
theorem d_MO_tickOne_152 : decode b_MO_tickOne 152 = .ok (.getfield 132, 3) := by decide +kernel
theorem d_MO_tickOne_155 : decode b_MO_tickOne 155 = .ok (.iload 4, 2) := by decide +kernel
theorem d_MO_tickOne_157 : decode b_MO_tickOne 157 = .ok (.iastore, 1) := by decide +kernel
theorem d_MO_tickOne_158 : decode b_MO_tickOne 158 = .ok (.aload_n 0, 1) := by decide +kernel
theorem d_MO_tickOne_159 : decode b_MO_tickOne 159 = .ok (.dup, 1) := by decide +kernel
theorem d_MO_tickOne_160 : decode b_MO_tickOne 160 = .ok (.getfield 132, 3) := by decide +kernel
theorem d_MO_tickOne_163 : decode b_MO_tickOne 163 = .ok (.iconst 1, 1) := by decide +kernel
theorem d_MO_tickOne_164 : decode b_MO_tickOne 164 = .ok (.iadd, 1) := by decide +kernel
theorem d_MO_tickOne_165 : decode b_MO_tickOne 165 = .ok (.putfield 132, 3) := by decide +kernel
theorem d_MO_tickOne_168 : decode b_MO_tickOne 168 = .ok (.iload 4, 2) := by decide +kernel
theorem d_MO_tickOne_170 : decode b_MO_tickOne 170 = .ok (.ireturn, 1) := by decide +kernel
theorem d_MO_tickOne : ∀ z ∈ q_MO_tickOne, decode b_MO_tickOne z.1 = .ok z.2 := List.forall_mem_cons.mpr ⟨d_MO_tickOne_0, List.forall_mem_cons.mpr ⟨d_MO_tickOne_1, List.forall_mem_cons.mpr ⟨d_MO_tickOne_4, List.forall_mem_cons.mpr ⟨d_MO_tickOne_5, List.forall_mem_cons.mpr ⟨d_MO_tickOne_8, List.forall_mem_cons.mpr ⟨d_MO_tickOne_9, List.forall_mem_cons.mpr ⟨d_MO_tickOne_12, List.forall_mem_cons.mpr ⟨d_MO_tickOne_13, List.forall_mem_cons.mpr ⟨d_MO_tickOne_14, List.forall_mem_cons.mpr ⟨d_MO_tickOne_17, List.forall_mem_cons.mpr ⟨d_MO_tickOne_18, List.forall_mem_cons.mpr ⟨d_MO_tickOne_19, List.forall_mem_cons.mpr ⟨d_MO_tickOne_20, List.forall_mem_cons.mpr ⟨d_MO_tickOne_23, List.forall_mem_cons.mpr ⟨d_MO_tickOne_24, List.forall_mem_cons.mpr ⟨d_MO_tickOne_27, List.forall_mem_cons.mpr ⟨d_MO_tickOne_30, List.forall_mem_cons.mpr ⟨d_MO_tickOne_31, List.forall_mem_cons.mpr ⟨d_MO_tickOne_34, List.forall_mem_cons.mpr ⟨d_MO_tickOne_35, List.forall_mem_cons.mpr ⟨d_MO_tickOne_36, List.forall_mem_cons.mpr ⟨d_MO_tickOne_37, List.forall_mem_cons.mpr ⟨d_MO_tickOne_39, List.forall_mem_cons.mpr ⟨d_MO_tickOne_40, List.forall_mem_cons.mpr ⟨d_MO_tickOne_41, List.forall_mem_cons.mpr ⟨d_MO_tickOne_44, List.forall_mem_cons.mpr ⟨d_MO_tickOne_45, List.forall_mem_cons.mpr ⟨d_MO_tickOne_48, List.forall_mem_cons.mpr ⟨d_MO_tickOne_49, List.forall_mem_cons.mpr ⟨d_MO_tickOne_50, List.forall_mem_cons.mpr ⟨d_MO_tickOne_53, List.forall_mem_cons.mpr ⟨d_MO_tickOne_54, List.forall_mem_cons.mpr ⟨d_MO_tickOne_55, List.forall_mem_cons.mpr ⟨d_MO_tickOne_56, List.forall_mem_cons.mpr ⟨d_MO_tickOne_58, List.forall_mem_cons.mpr ⟨d_MO_tickOne_59, List.forall_mem_cons.mpr ⟨d_MO_tickOne_62, List.forall_mem_cons.mpr ⟨d_MO_tickOne_63, List.forall_mem_cons.mpr ⟨d_MO_tickOne_64, List.forall_mem_cons.mpr ⟨d_MO_tickOne_65, List.forall_mem_cons.mpr ⟨d_MO_tickOne_66, List.forall_mem_cons.mpr ⟨d_MO_tickOne_67, List.forall_mem_cons.mpr ⟨d_MO_tickOne_68, List.forall_mem_cons.mpr ⟨d_MO_tickOne_69, List.forall_mem_cons.mpr ⟨d_MO_tickOne_72, List.forall_mem_cons.mpr ⟨d_MO_tickOne_73, List.forall_mem_cons.mpr ⟨d_MO_tickOne_74, List.forall_mem_cons.mpr ⟨d_MO_tickOne_77, List.forall_mem_cons.mpr ⟨d_MO_tickOne_78, List.forall_mem_cons.mpr ⟨d_MO_tickOne_81, List.forall_mem_cons.mpr ⟨d_MO_tickOne_82, List.forall_mem_cons.mpr ⟨d_MO_tickOne_83, List.forall_mem_cons.mpr ⟨d_MO_tickOne_86, List.forall_mem_cons.mpr ⟨d_MO_tickOne_87, List.forall_mem_cons.mpr ⟨d_MO_tickOne_88, List.forall_mem_cons.mpr ⟨d_MO_tickOne_89, List.forall_mem_cons.mpr ⟨d_MO_tickOne_90, List.forall_mem_cons.mpr ⟨d_MO_tickOne_93, List.forall_mem_cons.mpr ⟨d_MO_tickOne_94, List.forall_mem_cons.mpr ⟨d_MO_tickOne_97, List.forall_mem_cons.mpr ⟨d_MO_tickOne_98, List.forall_mem_cons.mpr ⟨d_MO_tickOne_101, List.forall_mem_cons.mpr ⟨d_MO_tickOne_102, List.forall_mem_cons.mpr ⟨d_MO_tickOne_103, List.forall_mem_cons.mpr ⟨d_MO_tickOne_106, List.forall_mem_cons.mpr ⟨d_MO_tickOne_107, List.forall_mem_cons.mpr ⟨d_MO_tickOne_108, List.forall_mem_cons.mpr ⟨d_MO_tickOne_111, List.forall_mem_cons.mpr ⟨d_MO_tickOne_112, List.forall_mem_cons.mpr ⟨d_MO_tickOne_115, List.forall_mem_cons.mpr ⟨d_MO_tickOne_116, List.forall_mem_cons.mpr ⟨d_MO_tickOne_119, List.forall_mem_cons.mpr ⟨d_MO_tickOne_120, List.forall_mem_cons.mpr ⟨d_MO_tickOne_121, List.forall_mem_cons.mpr ⟨d_MO_tickOne_122, List.forall_mem_cons.mpr ⟨d_MO_tickOne_123, List.forall_mem_cons.mpr ⟨d_MO_tickOne_124, List.forall_mem_cons.mpr ⟨d_MO_tickOne_127, List.forall_mem_cons.mpr ⟨d_MO_tickOne_128, List.forall_mem_cons.mpr ⟨d_MO_tickOne_129, List.forall_mem_cons.mpr ⟨d_MO_tickOne_132, List.forall_mem_cons.mpr ⟨d_MO_tickOne_133, List.forall_mem_cons.mpr ⟨d_MO_tickOne_134, List.forall_mem_cons.mpr ⟨d_MO_tickOne_135, List.forall_mem_cons.mpr ⟨d_MO_tickOne_137, List.forall_mem_cons.mpr ⟨d_MO_tickOne_138, List.forall_mem_cons.mpr ⟨d_MO_tickOne_141, List.forall_mem_cons.mpr ⟨d_MO_tickOne_142, List.forall_mem_cons.mpr ⟨d_MO_tickOne_143, List.forall_mem_cons.mpr ⟨d_MO_tickOne_144, List.forall_mem_cons.mpr ⟨d_MO_tickOne_145, List.forall_mem_cons.mpr ⟨d_MO_tickOne_146, List.forall_mem_cons.mpr ⟨d_MO_tickOne_147, List.forall_mem_cons.mpr ⟨d_MO_tickOne_148, List.forall_mem_cons.mpr ⟨d_MO_tickOne_151, List.forall_mem_cons.mpr ⟨d_MO_tickOne_152, List.forall_mem_cons.mpr ⟨d_MO_tickOne_155, List.forall_mem_cons.mpr ⟨d_MO_tickOne_157, List.forall_mem_cons.mpr ⟨d_MO_tickOne_158, List.forall_mem_cons.mpr ⟨d_MO_tickOne_159, List.forall_mem_cons.mpr ⟨d_MO_tickOne_160, List.forall_mem_cons.mpr ⟨d_MO_tickOne_163, List.forall_mem_cons.mpr ⟨d_MO_tickOne_164, List.forall_mem_cons.mpr ⟨d_MO_tickOne_165, List.forall_mem_cons.mpr ⟨d_MO_tickOne_168, List.forall_mem_cons.mpr ⟨d_MO_tickOne_170, fun _ h => absurd h List.not_mem_nil⟩⟩⟩⟩⟩⟩⟩⟩⟩⟩⟩⟩⟩⟩⟩⟩⟩⟩⟩⟩⟩⟩⟩⟩⟩⟩⟩⟩⟩⟩⟩⟩⟩⟩⟩⟩⟩⟩⟩⟩⟩⟩⟩⟩⟩⟩⟩⟩⟩⟩⟩⟩⟩⟩⟩⟩⟩⟩⟩⟩⟩⟩⟩⟩⟩⟩⟩⟩⟩⟩⟩⟩⟩⟩⟩⟩⟩⟩⟩⟩⟩⟩⟩⟩⟩⟩⟩⟩⟩⟩⟩⟩⟩⟩⟩⟩⟩⟩⟩⟩⟩⟩⟩⟩⟩⟩
theorem i_MO_tickOne_ok : ∀ pc i n, i_MO_tickOne pc = some (i, n) → decode b_MO_tickOne pc = .ok (i, n) := fun pc i n h => d_MO_tickOne (pc, i, n) (am_find_mem h)
theorem i_MO_tickOne_0 : i_MO_tickOne 0 = some (.aload_n 0, 1) := rfl
theorem i_MO_tickOne_1 : i_MO_tickOne 1 = some (.invokevirtual 166, 3) := rfl
theorem i_MO_tickOne_4 : i_MO_tickOne 4 = some (.aload_n 0, 1) := rfl
theorem i_MO_tickOne_5 : i_MO_tickOne 5 = some (.invokevirtual 169, 3) := rfl
theorem i_MO_tickOne_8 : i_MO_tickOne 8 = some (.aload_n 0, 1) := rfl
theorem i_MO_tickOne_9 : i_MO_tickOne 9 = some (.invokevirtual 172, 3) := rfl
theorem i_MO_tickOne_12 : i_MO_tickOne 12 = some (.istore_n 1, 1) := rfl
theorem i_MO_tickOne_13 : i_MO_tickOne 13 = some (.aload_n 0, 1) := rfl
theorem i_MO_tickOne_14 : i_MO_tickOne 14 = some (.invokevirtual 175, 3) := rfl
theorem i_MO_tickOne_17 : i_MO_tickOne 17 = some (.istore_n 2, 1) := rfl
theorem i_MO_tickOne_18 : i_MO_tickOne 18 = some (.iload_n 1, 1) := rfl
theorem i_MO_tickOne_19 : i_MO_tickOne 19 = some (.iconst (-1), 1) := rfl
theorem i_MO_tickOne_20 : i_MO_tickOne 20 = some (.if_icmp .eq 14, 3) := rfl
theorem i_MO_tickOne_23 : i_MO_tickOne 23 = some (.aload_n 0, 1) := rfl
theorem i_MO_tickOne_24 : i_MO_tickOne 24 = some (.invokevirtual 178, 3) := rfl
theorem i_MO_tickOne_27 : i_MO_tickOne 27 = some (.ifCond .eq 7, 3) := rfl
theorem i_MO_tickOne_30 : i_MO_tickOne 30 = some (.iconst 1, 1) := rfl
theorem i_MO_tickOne_31 : i_MO_tickOne 31 = some (.goto 4, 3) := rfl
theorem i_MO_tickOne_34 : i_MO_tickOne 34 = some (.iconst 0, 1) := rfl
theorem i_MO_tickOne_35 : i_MO_tickOne 35 = some (.istore_n 3, 1) := rfl
theorem i_MO_tickOne_36 : i_MO_tickOne 36 = some (.iconst 0, 1) := rfl
theorem i_MO_tickOne_37 : i_MO_tickOne 37 = some (.istore 4, 2) := rfl
theorem i_MO_tickOne_39 : i_MO_tickOne 39 = some (.iload_n 1, 1) := rfl
theorem i_MO_tickOne_40 : i_MO_tickOne 40 = some (.iconst (-1), 1) := rfl
theorem i_MO_tickOne_41 : i_MO_tickOne 41 = some (.if_icmp .eq 86, 3) := rfl
theorem i_MO_tickOne_44 : i_MO_tickOne 44 = some (.iload_n 3, 1) := rfl
theorem i_MO_tickOne_45 : i_MO_tickOne 45 = some (.ifCond .ne 8, 3) := rfl
theorem i_MO_tickOne_48 : i_MO_tickOne 48 = some (.iload_n 2, 1) := rfl
theorem i_MO_tickOne_49 : i_MO_tickOne 49 = some (.iconst (-1), 1) := rfl
theorem i_MO_tickOne_50 : i_MO_tickOne 50 = some (.if_icmp .ne 77, 3) := rfl
theorem i_MO_tickOne_53 : i_MO_tickOne 53 = some (.iconst (-1), 1) := rfl
theorem i_MO_tickOne_54 : i_MO_tickOne 54 = some (.iload_n 1, 1) := rfl
theorem i_MO_tickOne_55 : i_MO_tickOne 55 = some (.isub, 1) := rfl
theorem i_MO_tickOne_56 : i_MO_tickOne 56 = some (.istore 4, 2) := rfl
theorem i_MO_tickOne_58 : i_MO_tickOne 58 = some (.aload_n 0, 1) := rfl
theorem i_MO_tickOne_59 : i_MO_tickOne 59 = some (.getfield 62, 3) := rfl
theorem i_MO_tickOne_62 : i_MO_tickOne 62 = some (.iload_n 1, 1) := rfl
theorem i_MO_tickOne_63 : i_MO_tickOne 63 = some (.dup2, 1) := rfl
theorem i_MO_tickOne_64 : i_MO_tickOne 64 = some (.iaload, 1) := rfl
theorem i_MO_tickOne_65 : i_MO_tickOne 65 = some (.iconst 1, 1) := rfl
theorem i_MO_tickOne_66 : i_MO_tickOne 66 = some (.isub, 1) := rfl
theorem i_MO_tickOne_67 : i_MO_tickOne 67 = some (.iastore, 1) := rfl
theorem i_MO_tickOne_68 : i_MO_tickOne 68 = some (.aload_n 0, 1) := rfl
theorem i_MO_tickOne_69 : i_MO_tickOne 69 = some (.getfield 62, 3) := rfl
theorem i_MO_tickOne_72 : i_MO_tickOne 72 = some (.iload_n 1, 1) := rfl
theorem i_MO_tickOne_73 : i_MO_tickOne 73 = some (.iaload, 1) := rfl
theorem i_MO_tickOne_74 : i_MO_tickOne 74 = some (.ifCond .ne 15, 3) := rfl
theorem i_MO_tickOne_77 : i_MO_tickOne 77 = some (.aload_n 0, 1) := rfl
theorem i_MO_tickOne_78 : i_MO_tickOne 78 = some (.getfield 65, 3) := rfl
theorem i_MO_tickOne_81 : i_MO_tickOne 81 = some (.iload_n 1, 1) := rfl
theorem i_MO_tickOne_82 : i_MO_tickOne 82 = some (.aload_n 0, 1) := rfl
theorem i_MO_tickOne_83 : i_MO_tickOne 83 = some (.getfield 132, 3) := rfl
theorem i_MO_tickOne_86 : i_MO_tickOne 86 = some (.iconst 1, 1) := rfl
theorem i_MO_tickOne_87 : i_MO_tickOne 87 = some (.iadd, 1) := rfl
theorem i_MO_tickOne_88 : i_MO_tickOne 88 = some (.iastore, 1) := rfl
theorem i_MO_tickOne_89 : i_MO_tickOne 89 = some (.iload_n 3, 1) := rfl
theorem i_MO_tickOne_90 : i_MO_tickOne 90 = some (.ifCond .eq 57, 3) := rfl
theorem i_MO_tickOne_93 : i_MO_tickOne 93 = some (.aload_n 0, 1) := rfl
theorem i_MO_tickOne_94 : i_MO_tickOne 94 = some (.getfield 135, 3) := rfl
theorem i_MO_tickOne_97 : i_MO_tickOne 97 = some (.iconst 3, 1) := rfl
theorem i_MO_tickOne_98 : i_MO_tickOne 98 = some (.if_icmp .eq 49, 3) := rfl
theorem i_MO_tickOne_101 : i_MO_tickOne 101 = some (.aload_n 0, 1) := rfl
theorem i_MO_tickOne_102 : i_MO_tickOne 102 = some (.dup, 1) := rfl
theorem i_MO_tickOne_103 : i_MO_tickOne 103 = some (.getfield 138, 3) := rfl
theorem i_MO_tickOne_106 : i_MO_tickOne 106 = some (.iconst 1, 1) := rfl
theorem i_MO_tickOne_107 : i_MO_tickOne 107 = some (.isub, 1) := rfl
theorem i_MO_tickOne_108 : i_MO_tickOne 108 = some (.putfield 138, 3) := rfl
theorem i_MO_tickOne_111 : i_MO_tickOne 111 = some (.aload_n 0, 1) := rfl
theorem i_MO_tickOne_112 : i_MO_tickOne 112 = some (.getfield 59, 3) := rfl
theorem i_MO_tickOne_115 : i_MO_tickOne 115 = some (.aload_n 0, 1) := rfl
theorem i_MO_tickOne_116 : i_MO_tickOne 116 = some (.getfield 132, 3) := rfl
theorem i_MO_tickOne_119 : i_MO_tickOne 119 = some (.dup2, 1) := rfl
theorem i_MO_tickOne_120 : i_MO_tickOne 120 = some (.iaload, 1) := rfl
theorem i_MO_tickOne_121 : i_MO_tickOne 121 = some (.iconst 1, 1) := rfl
theorem i_MO_tickOne_122 : i_MO_tickOne 122 = some (.iadd, 1) := rfl
theorem i_MO_tickOne_123 : i_MO_tickOne 123 = some (.iastore, 1) := rfl
theorem i_MO_tickOne_124 : i_MO_tickOne 124 = some (.goto 23, 3) := rfl
theorem i_MO_tickOne_127 : i_MO_tickOne 127 = some (.iload_n 2, 1) := rfl
theorem i_MO_tickOne_128 : i_MO_tickOne 128 = some (.iconst (-1), 1) := rfl
theorem i_MO_tickOne_129 : i_MO_tickOne 129 = some (.if_icmp .eq 18, 3) := rfl
theorem i_MO_tickOne_132 : i_MO_tickOne 132 = some (.iload_n 2, 1) := rfl
theorem i_MO_tickOne_133 : i_MO_tickOne 133 = some (.iconst 1, 1) := rfl
theorem i_MO_tickOne_134 : i_MO_tickOne 134 = some (.iadd, 1) := rfl
theorem i_MO_tickOne_135 : i_MO_tickOne 135 = some (.istore 4, 2) := rfl
theorem i_MO_tickOne_137 : i_MO_tickOne 137 = some (.aload_n 0, 1) := rfl
theorem i_MO_tickOne_138 : i_MO_tickOne 138 = some (.getfield 50, 3) := rfl
theorem i_MO_tickOne_141 : i_MO_tickOne 141 = some (.iload_n 2, 1) := rfl
theorem i_MO_tickOne_142 : i_MO_tickOne 142 = some (.dup2, 1) := rfl
theorem i_MO_tickOne_143 : i_MO_tickOne 143 = some (.iaload, 1) := rfl
theorem i_MO_tickOne_144 : i_MO_tickOne 144 = some (.iconst 1, 1) := rfl
theorem i_MO_tickOne_145 : i_MO_tickOne 145 = some (.isub, 1) := rfl
set_option maxRecDepth 100000 in
theorem i_MO_tickOne_146 : i_MO_tickOne 146 = some (.iastore, 1) := rfl
set_option maxRecDepth 100000 in
theorem i_MO_tickOne_147 : i_MO_tickOne 147 = some (.aload_n 0, 1) := rfl
set_option maxRecDepth 100000 in
theorem i_MO_tickOne_148 : i_MO_tickOne 148 = some (.getfield 68, 3) := rfl
set_option maxRecDepth 100000 in
theorem i_MO_tickOne_151 : i_MO_tickOne 151 = some (.aload_n 0, 1) := rfl
set_option maxRecDepth 100000 in
theorem i_MO_tickOne_152 : i_MO_tickOne 152 = some (.getfield 132, 3) := rfl
set_option maxRecDepth 100000 in
theorem i_MO_tickOne_155 : i_MO_tickOne 155 = some (.iload 4, 2) := rfl
set_option maxRecDepth 100000 in
theorem i_MO_tickOne_157 : i_MO_tickOne 157 = some (.iastore, 1) := rfl
set_option maxRecDepth 100000 in
theorem i_MO_tickOne_158 : i_MO_tickOne 158 = some (.aload_n 0, 1) := rfl
set_option maxRecDepth 100000 in
theorem i_MO_tickOne_159 : i_MO_tickOne 159 = some (.dup, 1) := rfl
set_option maxRecDepth 100000 in
theorem i_MO_tickOne_160 : i_MO_tickOne 160 = some (.getfield 132, 3) := rfl
set_option maxRecDepth 100000 in
theorem i_MO_tickOne_163 : i_MO_tickOne 163 = some (.iconst 1, 1) := rfl
set_option maxRecDepth 100000 in
theorem i_MO_tickOne_164 : i_MO_tickOne 164 = some (.iadd, 1) := rfl
set_option maxRecDepth 100000 in
theorem i_MO_tickOne_165 : i_MO_tickOne 165 = some (.putfield 132, 3) := rfl
set_option maxRecDepth 100000 in
theorem i_MO_tickOne_168 : i_MO_tickOne 168 = some (.iload 4, 2) := rfl
set_option maxRecDepth 100000 in
theorem i_MO_tickOne_170 : i_MO_tickOne 170 = some (.ireturn, 1) := rfl
abbrev w_MO_tickOne : List Jvm.Cond := Jvm.Cond.code y_MO_tickOne b_MO_tickOne 5 (some .int) :: vw_W
theorem c_MO_tickOne : Jvm.Cond.code y_MO_tickOne b_MO_tickOne 5 (some .int) ∈ vw_W := vw_t 990 (by decide +kernel) (by decide +kernel)
abbrev r_MO_tickOne : Room := { frames := 6, cells := 0, slots := 0, locals := 140 }
abbrev b_MO_comeBack : ByteArray := prog_13_method_13_code
abbrev y_MO_comeBack : MethodName := ⟨"ServerDeskModel", "comeBack", "()V"⟩
def q_MO_comeBack : List (Nat × Instr × Nat) := [(0, .aload_n 0, 1), (1, .getfield 135, 3), (4, .iconst 1, 1), (5, .if_icmp .ne 27, 3), (8, .aload_n 0, 1), (9, .getfield 132, 3), (12, .aload_n 0, 1), (13, .getfield 28, 3), (16, .iconst 1, 1), (17, .iaload, 1), (18, .irem, 1), (19, .ifCond .ne 13, 3), (22, .aload_n 0, 1), (23, .aload_n 0, 1), (24, .getfield 25, 3), (27, .iconst 1, 1), (28, .iaload, 1), (29, .putfield 138, 3), (32, .aload_n 0, 1), (33, .getfield 135, 3), (36, .iconst 2, 1), (37, .if_icmp .ne 41, 3), (40, .aload_n 0, 1), (41, .getfield 132, 3), (44, .aload_n 0, 1), (45, .getfield 28, 3), (48, .iconst 2, 1), (49, .iaload, 1), (50, .if_icmp .lt 28, 3), (53, .aload_n 0, 1), (54, .dup, 1), (55, .getfield 138, 3), (58, .aload_n 0, 1), (59, .getfield 59, 3), (62, .aload_n 0, 1), (63, .getfield 132, 3), (66, .aload_n 0, 1), (67, .getfield 28, 3), (70, .iconst 2, 1), (71, .iaload, 1), (72, .isub, 1), (73, .iaload, 1), (74, .iadd, 1), (75, .putfield 138, 3), (78, .return_, 1)]
def i_MO_comeBack : Nat → Option (Instr × Nat) := am_find q_MO_comeBack
theorem d_MO_comeBack_0 : decode b_MO_comeBack 0 = .ok (.aload_n 0, 1) := by decide +kernel
theorem d_MO_comeBack_1 : decode b_MO_comeBack 1 = .ok (.getfield 135, 3) := by decide +kernel
theorem d_MO_comeBack_4 : decode b_MO_comeBack 4 = .ok (.iconst 1, 1) := by decide +kernel
theorem d_MO_comeBack_5 : decode b_MO_comeBack 5 = .ok (.if_icmp .ne 27, 3) := by decide +kernel
theorem d_MO_comeBack_8 : decode b_MO_comeBack 8 = .ok (.aload_n 0, 1) := by decide +kernel
theorem d_MO_comeBack_9 : decode b_MO_comeBack 9 = .ok (.getfield 132, 3) := by decide +kernel
theorem d_MO_comeBack_12 : decode b_MO_comeBack 12 = .ok (.aload_n 0, 1) := by decide +kernel
theorem d_MO_comeBack_13 : decode b_MO_comeBack 13 = .ok (.getfield 28, 3) := by decide +kernel
theorem d_MO_comeBack_16 : decode b_MO_comeBack 16 = .ok (.iconst 1, 1) := by decide +kernel
theorem d_MO_comeBack_17 : decode b_MO_comeBack 17 = .ok (.iaload, 1) := by decide +kernel
theorem d_MO_comeBack_18 : decode b_MO_comeBack 18 = .ok (.irem, 1) := by decide +kernel
theorem d_MO_comeBack_19 : decode b_MO_comeBack 19 = .ok (.ifCond .ne 13, 3) := by decide +kernel
theorem d_MO_comeBack_22 : decode b_MO_comeBack 22 = .ok (.aload_n 0, 1) := by decide +kernel
theorem d_MO_comeBack_23 : decode b_MO_comeBack 23 = .ok (.aload_n 0, 1) := by decide +kernel
theorem d_MO_comeBack_24 : decode b_MO_comeBack 24 = .ok (.getfield 25, 3) := by decide +kernel
theorem d_MO_comeBack_27 : decode b_MO_comeBack 27 = .ok (.iconst 1, 1) := by decide +kernel
theorem d_MO_comeBack_28 : decode b_MO_comeBack 28 = .ok (.iaload, 1) := by decide +kernel
theorem d_MO_comeBack_29 : decode b_MO_comeBack 29 = .ok (.putfield 138, 3) := by decide +kernel
theorem d_MO_comeBack_32 : decode b_MO_comeBack 32 = .ok (.aload_n 0, 1) := by decide +kernel
theorem d_MO_comeBack_33 : decode b_MO_comeBack 33 = .ok (.getfield 135, 3) := by decide +kernel
theorem d_MO_comeBack_36 : decode b_MO_comeBack 36 = .ok (.iconst 2, 1) := by decide +kernel
theorem d_MO_comeBack_37 : decode b_MO_comeBack 37 = .ok (.if_icmp .ne 41, 3) := by decide +kernel
theorem d_MO_comeBack_40 : decode b_MO_comeBack 40 = .ok (.aload_n 0, 1) := by decide +kernel
theorem d_MO_comeBack_41 : decode b_MO_comeBack 41 = .ok (.getfield 132, 3) := by decide +kernel
theorem d_MO_comeBack_44 : decode b_MO_comeBack 44 = .ok (.aload_n 0, 1) := by decide +kernel
theorem d_MO_comeBack_45 : decode b_MO_comeBack 45 = .ok (.getfield 28, 3) := by decide +kernel
theorem d_MO_comeBack_48 : decode b_MO_comeBack 48 = .ok (.iconst 2, 1) := by decide +kernel
theorem d_MO_comeBack_49 : decode b_MO_comeBack 49 = .ok (.iaload, 1) := by decide +kernel
theorem d_MO_comeBack_50 : decode b_MO_comeBack 50 = .ok (.if_icmp .lt 28, 3) := by decide +kernel
theorem d_MO_comeBack_53 : decode b_MO_comeBack 53 = .ok (.aload_n 0, 1) := by decide +kernel
theorem d_MO_comeBack_54 : decode b_MO_comeBack 54 = .ok (.dup, 1) := by decide +kernel
theorem d_MO_comeBack_55 : decode b_MO_comeBack 55 = .ok (.getfield 138, 3) := by decide +kernel
theorem d_MO_comeBack_58 : decode b_MO_comeBack 58 = .ok (.aload_n 0, 1) := by decide +kernel
theorem d_MO_comeBack_59 : decode b_MO_comeBack 59 = .ok (.getfield 59, 3) := by decide +kernel
theorem d_MO_comeBack_62 : decode b_MO_comeBack 62 = .ok (.aload_n 0, 1) := by decide +kernel
theorem d_MO_comeBack_63 : decode b_MO_comeBack 63 = .ok (.getfield 132, 3) := by decide +kernel
theorem d_MO_comeBack_66 : decode b_MO_comeBack 66 = .ok (.aload_n 0, 1) := by decide +kernel
theorem d_MO_comeBack_67 : decode b_MO_comeBack 67 = .ok (.getfield 28, 3) := by decide +kernel
theorem d_MO_comeBack_70 : decode b_MO_comeBack 70 = .ok (.iconst 2, 1) := by decide +kernel
theorem d_MO_comeBack_71 : decode b_MO_comeBack 71 = .ok (.iaload, 1) := by decide +kernel
theorem d_MO_comeBack_72 : decode b_MO_comeBack 72 = .ok (.isub, 1) := by decide +kernel
theorem d_MO_comeBack_73 : decode b_MO_comeBack 73 = .ok (.iaload, 1) := by decide +kernel
theorem d_MO_comeBack_74 : decode b_MO_comeBack 74 = .ok (.iadd, 1) := by decide +kernel
theorem d_MO_comeBack_75 : decode b_MO_comeBack 75 = .ok (.putfield 138, 3) := by decide +kernel
theorem d_MO_comeBack_78 : decode b_MO_comeBack 78 = .ok (.return_, 1) := by decide +kernel
theorem d_MO_comeBack : ∀ z ∈ q_MO_comeBack, decode b_MO_comeBack z.1 = .ok z.2 := List.forall_mem_cons.mpr ⟨d_MO_comeBack_0, List.forall_mem_cons.mpr ⟨d_MO_comeBack_1, List.forall_mem_cons.mpr ⟨d_MO_comeBack_4, List.forall_mem_cons.mpr ⟨d_MO_comeBack_5, List.forall_mem_cons.mpr ⟨d_MO_comeBack_8, List.forall_mem_cons.mpr ⟨d_MO_comeBack_9, List.forall_mem_cons.mpr ⟨d_MO_comeBack_12, List.forall_mem_cons.mpr ⟨d_MO_comeBack_13, List.forall_mem_cons.mpr ⟨d_MO_comeBack_16, List.forall_mem_cons.mpr ⟨d_MO_comeBack_17, List.forall_mem_cons.mpr ⟨d_MO_comeBack_18, List.forall_mem_cons.mpr ⟨d_MO_comeBack_19, List.forall_mem_cons.mpr ⟨d_MO_comeBack_22, List.forall_mem_cons.mpr ⟨d_MO_comeBack_23, List.forall_mem_cons.mpr ⟨d_MO_comeBack_24, List.forall_mem_cons.mpr ⟨d_MO_comeBack_27, List.forall_mem_cons.mpr ⟨d_MO_comeBack_28, List.forall_mem_cons.mpr ⟨d_MO_comeBack_29, List.forall_mem_cons.mpr ⟨d_MO_comeBack_32, List.forall_mem_cons.mpr ⟨d_MO_comeBack_33, List.forall_mem_cons.mpr ⟨d_MO_comeBack_36, List.forall_mem_cons.mpr ⟨d_MO_comeBack_37, List.forall_mem_cons.mpr ⟨d_MO_comeBack_40, List.forall_mem_cons.mpr ⟨d_MO_comeBack_41, List.forall_mem_cons.mpr ⟨d_MO_comeBack_44, List.forall_mem_cons.mpr ⟨d_MO_comeBack_45, List.forall_mem_cons.mpr ⟨d_MO_comeBack_48, List.forall_mem_cons.mpr ⟨d_MO_comeBack_49, List.forall_mem_cons.mpr ⟨d_MO_comeBack_50, List.forall_mem_cons.mpr ⟨d_MO_comeBack_53, List.forall_mem_cons.mpr ⟨d_MO_comeBack_54, List.forall_mem_cons.mpr ⟨d_MO_comeBack_55, List.forall_mem_cons.mpr ⟨d_MO_comeBack_58, List.forall_mem_cons.mpr ⟨d_MO_comeBack_59, List.forall_mem_cons.mpr ⟨d_MO_comeBack_62, List.forall_mem_cons.mpr ⟨d_MO_comeBack_63, List.forall_mem_cons.mpr ⟨d_MO_comeBack_66, List.forall_mem_cons.mpr ⟨d_MO_comeBack_67, List.forall_mem_cons.mpr ⟨d_MO_comeBack_70, List.forall_mem_cons.mpr ⟨d_MO_comeBack_71, List.forall_mem_cons.mpr ⟨d_MO_comeBack_72, List.forall_mem_cons.mpr ⟨d_MO_comeBack_73, List.forall_mem_cons.mpr ⟨d_MO_comeBack_74, List.forall_mem_cons.mpr ⟨d_MO_comeBack_75, List.forall_mem_cons.mpr ⟨d_MO_comeBack_78, fun _ h => absurd h List.not_mem_nil⟩⟩⟩⟩⟩⟩⟩⟩⟩⟩⟩⟩⟩⟩⟩⟩⟩⟩⟩⟩⟩⟩⟩⟩⟩⟩⟩⟩⟩⟩⟩⟩⟩⟩⟩⟩⟩⟩⟩⟩⟩⟩⟩⟩⟩
theorem i_MO_comeBack_ok : ∀ pc i n, i_MO_comeBack pc = some (i, n) → decode b_MO_comeBack pc = .ok (i, n) := fun pc i n h => d_MO_comeBack (pc, i, n) (am_find_mem h)
theorem i_MO_comeBack_0 : i_MO_comeBack 0 = some (.aload_n 0, 1) := rfl
theorem i_MO_comeBack_1 : i_MO_comeBack 1 = some (.getfield 135, 3) := rfl
theorem i_MO_comeBack_4 : i_MO_comeBack 4 = some (.iconst 1, 1) := rfl
theorem i_MO_comeBack_5 : i_MO_comeBack 5 = some (.if_icmp .ne 27, 3) := rfl
theorem i_MO_comeBack_8 : i_MO_comeBack 8 = some (.aload_n 0, 1) := rfl
theorem i_MO_comeBack_9 : i_MO_comeBack 9 = some (.getfield 132, 3) := rfl
theorem i_MO_comeBack_12 : i_MO_comeBack 12 = some (.aload_n 0, 1) := rfl
theorem i_MO_comeBack_13 : i_MO_comeBack 13 = some (.getfield 28, 3) := rfl
theorem i_MO_comeBack_16 : i_MO_comeBack 16 = some (.iconst 1, 1) := rfl
theorem i_MO_comeBack_17 : i_MO_comeBack 17 = some (.iaload, 1) := rfl
theorem i_MO_comeBack_18 : i_MO_comeBack 18 = some (.irem, 1) := rfl
theorem i_MO_comeBack_19 : i_MO_comeBack 19 = some (.ifCond .ne 13, 3) := rfl
theorem i_MO_comeBack_22 : i_MO_comeBack 22 = some (.aload_n 0, 1) := rfl
theorem i_MO_comeBack_23 : i_MO_comeBack 23 = some (.aload_n 0, 1) := rfl
theorem i_MO_comeBack_24 : i_MO_comeBack 24 = some (.getfield 25, 3) := rfl
theorem i_MO_comeBack_27 : i_MO_comeBack 27 = some (.iconst 1, 1) := rfl
theorem i_MO_comeBack_28 : i_MO_comeBack 28 = some (.iaload, 1) := rfl
theorem i_MO_comeBack_29 : i_MO_comeBack 29 = some (.putfield 138, 3) := rfl
theorem i_MO_comeBack_32 : i_MO_comeBack 32 = some (.aload_n 0, 1) := rfl
theorem i_MO_comeBack_33 : i_MO_comeBack 33 = some (.getfield 135, 3) := rfl
theorem i_MO_comeBack_36 : i_MO_comeBack 36 = some (.iconst 2, 1) := rfl
theorem i_MO_comeBack_37 : i_MO_comeBack 37 = some (.if_icmp .ne 41, 3) := rfl
theorem i_MO_comeBack_40 : i_MO_comeBack 40 = some (.aload_n 0, 1) := rfl
theorem i_MO_comeBack_41 : i_MO_comeBack 41 = some (.getfield 132, 3) := rfl
theorem i_MO_comeBack_44 : i_MO_comeBack 44 = some (.aload_n 0, 1) := rfl
theorem i_MO_comeBack_45 : i_MO_comeBack 45 = some (.getfield 28, 3) := rfl
theorem i_MO_comeBack_48 : i_MO_comeBack 48 = some (.iconst 2, 1) := rfl
theorem i_MO_comeBack_49 : i_MO_comeBack 49 = some (.iaload, 1) := rfl
theorem i_MO_comeBack_50 : i_MO_comeBack 50 = some (.if_icmp .lt 28, 3) := rfl
theorem i_MO_comeBack_53 : i_MO_comeBack 53 = some (.aload_n 0, 1) := rfl
theorem i_MO_comeBack_54 : i_MO_comeBack 54 = some (.dup, 1) := rfl
theorem i_MO_comeBack_55 : i_MO_comeBack 55 = some (.getfield 138, 3) := rfl
theorem i_MO_comeBack_58 : i_MO_comeBack 58 = some (.aload_n 0, 1) := rfl
theorem i_MO_comeBack_59 : i_MO_comeBack 59 = some (.getfield 59, 3) := rfl
theorem i_MO_comeBack_62 : i_MO_comeBack 62 = some (.aload_n 0, 1) := rfl
theorem i_MO_comeBack_63 : i_MO_comeBack 63 = some (.getfield 132, 3) := rfl
theorem i_MO_comeBack_66 : i_MO_comeBack 66 = some (.aload_n 0, 1) := rfl
theorem i_MO_comeBack_67 : i_MO_comeBack 67 = some (.getfield 28, 3) := rfl
theorem i_MO_comeBack_70 : i_MO_comeBack 70 = some (.iconst 2, 1) := rfl
theorem i_MO_comeBack_71 : i_MO_comeBack 71 = some (.iaload, 1) := rfl
theorem i_MO_comeBack_72 : i_MO_comeBack 72 = some (.isub, 1) := rfl
theorem i_MO_comeBack_73 : i_MO_comeBack 73 = some (.iaload, 1) := rfl
theorem i_MO_comeBack_74 : i_MO_comeBack 74 = some (.iadd, 1) := rfl
theorem i_MO_comeBack_75 : i_MO_comeBack 75 = some (.putfield 138, 3) := rfl
theorem i_MO_comeBack_78 : i_MO_comeBack 78 = some (.return_, 1) := rfl
abbrev w_MO_comeBack : List Jvm.Cond := Jvm.Cond.code y_MO_comeBack b_MO_comeBack 1 none :: vw_W
theorem c_MO_comeBack : Jvm.Cond.code y_MO_comeBack b_MO_comeBack 1 none ∈ vw_W := vw_t 994 (by decide +kernel) (by decide +kernel)
abbrev r_MO_comeBack : Room := { frames := 0, cells := 0, slots := 0, locals := 0 }
abbrev b_MO_getReady : ByteArray := prog_13_method_15_code
abbrev y_MO_getReady : MethodName := ⟨"ServerDeskModel", "getReady", "()V"⟩
def q_MO_getReady : List (Nat × Instr × Nat) := [(0, .iconst 0, 1), (1, .istore_n 1, 1), (2, .iload_n 1, 1), (3, .aload_n 0, 1), (4, .getfield 96, 3), (7, .if_icmp .ge 113, 3), (10, .aload_n 0, 1), (11, .getfield 50, 3), (14, .iload_n 1, 1), (15, .iaload, 1), (16, .ifCond .le 26, 3), (19, .aload_n 0, 1), (20, .getfield 53, 3), (23, .iload_n 1, 1), (24, .iaload, 1), (25, .aload_n 0, 1), (26, .getfield 132, 3), (29, .if_icmp .ne 13, 3), (32, .aload_n 0, 1), (33, .dup, 1), (34, .getfield 144, 3), (37, .iconst 1, 1), (38, .iadd, 1), (39, .putfield 144, 3), (42, .aload_n 0, 1), (43, .iload_n 1, 1), (44, .aload_n 0, 1), (45, .getfield 132, 3), (48, .invokevirtual 147, 3), (51, .ifCond .ne 6, 3), (54, .goto 60, 3), (57, .aload_n 0, 1), (58, .getfield 50, 3), (61, .iload_n 1, 1), (62, .dup2, 1), (63, .iaload, 1), (64, .aload_n 0, 1), (65, .getfield 56, 3), (68, .iload_n 1, 1), (69, .iaload, 1), (70, .ifCond .le 12, 3), (73, .aload_n 0, 1), (74, .getfield 56, 3), (77, .iload_n 1, 1), (78, .iaload, 1), (79, .goto 9, 3), (82, .aload_n 0, 1), (83, .getfield 16, 3), (86, .iload_n 1, 1), (87, .iaload, 1), (88, .iadd, 1), (89, .iastore, 1), (90, .aload_n 0, 1), (91, .getfield 56, 3), (94, .iload_n 1, 1), (95, .iconst 0, 1), (96, .iastore, 1), (97, .aload_n 0, 1), (98, .getfield 53, 3), (101, .iload_n 1, 1), (102, .aload_n 0, 1), (103, .getfield 132, 3), (106, .aload_n 0, 1), (107, .getfield 19, 3), (110, .iload_n 1, 1), (111, .iaload, 1), (112, .iadd, 1), (113, .iastore, 1), (114, .iinc 1 1, 3), (117, .goto (-115), 3), (120, .return_, 1)]
def i_MO_getReady : Nat → Option (Instr × Nat) := am_find q_MO_getReady
theorem d_MO_getReady_0 : decode b_MO_getReady 0 = .ok (.iconst 0, 1) := by decide +kernel
theorem d_MO_getReady_1 : decode b_MO_getReady 1 = .ok (.istore_n 1, 1) := by decide +kernel
theorem d_MO_getReady_2 : decode b_MO_getReady 2 = .ok (.iload_n 1, 1) := by decide +kernel
theorem d_MO_getReady_3 : decode b_MO_getReady 3 = .ok (.aload_n 0, 1) := by decide +kernel
theorem d_MO_getReady_4 : decode b_MO_getReady 4 = .ok (.getfield 96, 3) := by decide +kernel
theorem d_MO_getReady_7 : decode b_MO_getReady 7 = .ok (.if_icmp .ge 113, 3) := by decide +kernel
theorem d_MO_getReady_10 : decode b_MO_getReady 10 = .ok (.aload_n 0, 1) := by decide +kernel
theorem d_MO_getReady_11 : decode b_MO_getReady 11 = .ok (.getfield 50, 3) := by decide +kernel
theorem d_MO_getReady_14 : decode b_MO_getReady 14 = .ok (.iload_n 1, 1) := by decide +kernel
theorem d_MO_getReady_15 : decode b_MO_getReady 15 = .ok (.iaload, 1) := by decide +kernel
theorem d_MO_getReady_16 : decode b_MO_getReady 16 = .ok (.ifCond .le 26, 3) := by decide +kernel
theorem d_MO_getReady_19 : decode b_MO_getReady 19 = .ok (.aload_n 0, 1) := by decide +kernel
theorem d_MO_getReady_20 : decode b_MO_getReady 20 = .ok (.getfield 53, 3) := by decide +kernel
theorem d_MO_getReady_23 : decode b_MO_getReady 23 = .ok (.iload_n 1, 1) := by decide +kernel
theorem d_MO_getReady_24 : decode b_MO_getReady 24 = .ok (.iaload, 1) := by decide +kernel
theorem d_MO_getReady_25 : decode b_MO_getReady 25 = .ok (.aload_n 0, 1) := by decide +kernel
theorem d_MO_getReady_26 : decode b_MO_getReady 26 = .ok (.getfield 132, 3) := by decide +kernel
theorem d_MO_getReady_29 : decode b_MO_getReady 29 = .ok (.if_icmp .ne 13, 3) := by decide +kernel
theorem d_MO_getReady_32 : decode b_MO_getReady 32 = .ok (.aload_n 0, 1) := by decide +kernel
theorem d_MO_getReady_33 : decode b_MO_getReady 33 = .ok (.dup, 1) := by decide +kernel
theorem d_MO_getReady_34 : decode b_MO_getReady 34 = .ok (.getfield 144, 3) := by decide +kernel
theorem d_MO_getReady_37 : decode b_MO_getReady 37 = .ok (.iconst 1, 1) := by decide +kernel
theorem d_MO_getReady_38 : decode b_MO_getReady 38 = .ok (.iadd, 1) := by decide +kernel
theorem d_MO_getReady_39 : decode b_MO_getReady 39 = .ok (.putfield 144, 3) := by decide +kernel
theorem d_MO_getReady_42 : decode b_MO_getReady 42 = .ok (.aload_n 0, 1) := by decide +kernel
theorem d_MO_getReady_43 : decode b_MO_getReady 43 = .ok (.iload_n 1, 1) := by decide +kernel
theorem d_MO_getReady_44 : decode b_MO_getReady 44 = .ok (.aload_n 0, 1) := by decide +kernel
theorem d_MO_getReady_45 : decode b_MO_getReady 45 = .ok (.getfield 132, 3) := by decide +kernel
theorem d_MO_getReady_48 : decode b_MO_getReady 48 = .ok (.invokevirtual 147, 3) := by decide +kernel
theorem d_MO_getReady_51 : decode b_MO_getReady 51 = .ok (.ifCond .ne 6, 3) := by decide +kernel
theorem d_MO_getReady_54 : decode b_MO_getReady 54 = .ok (.goto 60, 3) := by decide +kernel
theorem d_MO_getReady_57 : decode b_MO_getReady 57 = .ok (.aload_n 0, 1) := by decide +kernel
theorem d_MO_getReady_58 : decode b_MO_getReady 58 = .ok (.getfield 50, 3) := by decide +kernel
theorem d_MO_getReady_61 : decode b_MO_getReady 61 = .ok (.iload_n 1, 1) := by decide +kernel
theorem d_MO_getReady_62 : decode b_MO_getReady 62 = .ok (.dup2, 1) := by decide +kernel
theorem d_MO_getReady_63 : decode b_MO_getReady 63 = .ok (.iaload, 1) := by decide +kernel
theorem d_MO_getReady_64 : decode b_MO_getReady 64 = .ok (.aload_n 0, 1) := by decide +kernel
theorem d_MO_getReady_65 : decode b_MO_getReady 65 = .ok (.getfield 56, 3) := by decide +kernel
theorem d_MO_getReady_68 : decode b_MO_getReady 68 = .ok (.iload_n 1, 1) := by decide +kernel
theorem d_MO_getReady_69 : decode b_MO_getReady 69 = .ok (.iaload, 1) := by decide +kernel
theorem d_MO_getReady_70 : decode b_MO_getReady 70 = .ok (.ifCond .le 12, 3) := by decide +kernel
theorem d_MO_getReady_73 : decode b_MO_getReady 73 = .ok (.aload_n 0, 1) := by decide +kernel
theorem d_MO_getReady_74 : decode b_MO_getReady 74 = .ok (.getfield 56, 3) := by decide +kernel
theorem d_MO_getReady_77 : decode b_MO_getReady 77 = .ok (.iload_n 1, 1) := by decide +kernel
theorem d_MO_getReady_78 : decode b_MO_getReady 78 = .ok (.iaload, 1) := by decide +kernel
theorem d_MO_getReady_79 : decode b_MO_getReady 79 = .ok (.goto 9, 3) := by decide +kernel
theorem d_MO_getReady_82 : decode b_MO_getReady 82 = .ok (.aload_n 0, 1) := by decide +kernel
theorem d_MO_getReady_83 : decode b_MO_getReady 83 = .ok (.getfield 16, 3) := by decide +kernel
theorem d_MO_getReady_86 : decode b_MO_getReady 86 = .ok (.iload_n 1, 1) := by decide +kernel
theorem d_MO_getReady_87 : decode b_MO_getReady 87 = .ok (.iaload, 1) := by decide +kernel
theorem d_MO_getReady_88 : decode b_MO_getReady 88 = .ok (.iadd, 1) := by decide +kernel
theorem d_MO_getReady_89 : decode b_MO_getReady 89 = .ok (.iastore, 1) := by decide +kernel
theorem d_MO_getReady_90 : decode b_MO_getReady 90 = .ok (.aload_n 0, 1) := by decide +kernel
theorem d_MO_getReady_91 : decode b_MO_getReady 91 = .ok (.getfield 56, 3) := by decide +kernel
theorem d_MO_getReady_94 : decode b_MO_getReady 94 = .ok (.iload_n 1, 1) := by decide +kernel
theorem d_MO_getReady_95 : decode b_MO_getReady 95 = .ok (.iconst 0, 1) := by decide +kernel
theorem d_MO_getReady_96 : decode b_MO_getReady 96 = .ok (.iastore, 1) := by decide +kernel
theorem d_MO_getReady_97 : decode b_MO_getReady 97 = .ok (.aload_n 0, 1) := by decide +kernel
theorem d_MO_getReady_98 : decode b_MO_getReady 98 = .ok (.getfield 53, 3) := by decide +kernel
theorem d_MO_getReady_101 : decode b_MO_getReady 101 = .ok (.iload_n 1, 1) := by decide +kernel
theorem d_MO_getReady_102 : decode b_MO_getReady 102 = .ok (.aload_n 0, 1) := by decide +kernel
theorem d_MO_getReady_103 : decode b_MO_getReady 103 = .ok (.getfield 132, 3) := by decide +kernel
theorem d_MO_getReady_106 : decode b_MO_getReady 106 = .ok (.aload_n 0, 1) := by decide +kernel
theorem d_MO_getReady_107 : decode b_MO_getReady 107 = .ok (.getfield 19, 3) := by decide +kernel
theorem d_MO_getReady_110 : decode b_MO_getReady 110 = .ok (.iload_n 1, 1) := by decide +kernel
theorem d_MO_getReady_111 : decode b_MO_getReady 111 = .ok (.iaload, 1) := by decide +kernel
theorem d_MO_getReady_112 : decode b_MO_getReady 112 = .ok (.iadd, 1) := by decide +kernel
theorem d_MO_getReady_113 : decode b_MO_getReady 113 = .ok (.iastore, 1) := by decide +kernel
theorem d_MO_getReady_114 : decode b_MO_getReady 114 = .ok (.iinc 1 1, 3) := by decide +kernel
theorem d_MO_getReady_117 : decode b_MO_getReady 117 = .ok (.goto (-115), 3) := by decide +kernel
theorem d_MO_getReady_120 : decode b_MO_getReady 120 = .ok (.return_, 1) := by decide +kernel
theorem d_MO_getReady : ∀ z ∈ q_MO_getReady, decode b_MO_getReady z.1 = .ok z.2 := List.forall_mem_cons.mpr ⟨d_MO_getReady_0, List.forall_mem_cons.mpr ⟨d_MO_getReady_1, List.forall_mem_cons.mpr ⟨d_MO_getReady_2, List.forall_mem_cons.mpr ⟨d_MO_getReady_3, List.forall_mem_cons.mpr ⟨d_MO_getReady_4, List.forall_mem_cons.mpr ⟨d_MO_getReady_7, List.forall_mem_cons.mpr ⟨d_MO_getReady_10, List.forall_mem_cons.mpr ⟨d_MO_getReady_11, List.forall_mem_cons.mpr ⟨d_MO_getReady_14, List.forall_mem_cons.mpr ⟨d_MO_getReady_15, List.forall_mem_cons.mpr ⟨d_MO_getReady_16, List.forall_mem_cons.mpr ⟨d_MO_getReady_19, List.forall_mem_cons.mpr ⟨d_MO_getReady_20, List.forall_mem_cons.mpr ⟨d_MO_getReady_23, List.forall_mem_cons.mpr ⟨d_MO_getReady_24, List.forall_mem_cons.mpr ⟨d_MO_getReady_25, List.forall_mem_cons.mpr ⟨d_MO_getReady_26, List.forall_mem_cons.mpr ⟨d_MO_getReady_29, List.forall_mem_cons.mpr ⟨d_MO_getReady_32, List.forall_mem_cons.mpr ⟨d_MO_getReady_33, List.forall_mem_cons.mpr ⟨d_MO_getReady_34, List.forall_mem_cons.mpr ⟨d_MO_getReady_37, List.forall_mem_cons.mpr ⟨d_MO_getReady_38, List.forall_mem_cons.mpr ⟨d_MO_getReady_39, List.forall_mem_cons.mpr ⟨d_MO_getReady_42, List.forall_mem_cons.mpr ⟨d_MO_getReady_43, List.forall_mem_cons.mpr ⟨d_MO_getReady_44, List.forall_mem_cons.mpr ⟨d_MO_getReady_45, List.forall_mem_cons.mpr ⟨d_MO_getReady_48, List.forall_mem_cons.mpr ⟨d_MO_getReady_51, List.forall_mem_cons.mpr ⟨d_MO_getReady_54, List.forall_mem_cons.mpr ⟨d_MO_getReady_57, List.forall_mem_cons.mpr ⟨d_MO_getReady_58, List.forall_mem_cons.mpr ⟨d_MO_getReady_61, List.forall_mem_cons.mpr ⟨d_MO_getReady_62, List.forall_mem_cons.mpr ⟨d_MO_getReady_63, List.forall_mem_cons.mpr ⟨d_MO_getReady_64, List.forall_mem_cons.mpr ⟨d_MO_getReady_65, List.forall_mem_cons.mpr ⟨d_MO_getReady_68, List.forall_mem_cons.mpr ⟨d_MO_getReady_69, List.forall_mem_cons.mpr ⟨d_MO_getReady_70, List.forall_mem_cons.mpr ⟨d_MO_getReady_73, List.forall_mem_cons.mpr ⟨d_MO_getReady_74, List.forall_mem_cons.mpr ⟨d_MO_getReady_77, List.forall_mem_cons.mpr ⟨d_MO_getReady_78, List.forall_mem_cons.mpr ⟨d_MO_getReady_79, List.forall_mem_cons.mpr ⟨d_MO_getReady_82, List.forall_mem_cons.mpr ⟨d_MO_getReady_83, List.forall_mem_cons.mpr ⟨d_MO_getReady_86, List.forall_mem_cons.mpr ⟨d_MO_getReady_87, List.forall_mem_cons.mpr ⟨d_MO_getReady_88, List.forall_mem_cons.mpr ⟨d_MO_getReady_89, List.forall_mem_cons.mpr ⟨d_MO_getReady_90, List.forall_mem_cons.mpr ⟨d_MO_getReady_91, List.forall_mem_cons.mpr ⟨d_MO_getReady_94, List.forall_mem_cons.mpr ⟨d_MO_getReady_95, List.forall_mem_cons.mpr ⟨d_MO_getReady_96, List.forall_mem_cons.mpr ⟨d_MO_getReady_97, List.forall_mem_cons.mpr ⟨d_MO_getReady_98, List.forall_mem_cons.mpr ⟨d_MO_getReady_101, List.forall_mem_cons.mpr ⟨d_MO_getReady_102, List.forall_mem_cons.mpr ⟨d_MO_getReady_103, List.forall_mem_cons.mpr ⟨d_MO_getReady_106, List.forall_mem_cons.mpr ⟨d_MO_getReady_107, List.forall_mem_cons.mpr ⟨d_MO_getReady_110, List.forall_mem_cons.mpr ⟨d_MO_getReady_111, List.forall_mem_cons.mpr ⟨d_MO_getReady_112, List.forall_mem_cons.mpr ⟨d_MO_getReady_113, List.forall_mem_cons.mpr ⟨d_MO_getReady_114, List.forall_mem_cons.mpr ⟨d_MO_getReady_117, List.forall_mem_cons.mpr ⟨d_MO_getReady_120, fun _ h => absurd h List.not_mem_nil⟩⟩⟩⟩⟩⟩⟩⟩⟩⟩⟩⟩⟩⟩⟩⟩⟩⟩⟩⟩⟩⟩⟩⟩⟩⟩⟩⟩⟩⟩⟩⟩⟩⟩⟩⟩⟩⟩⟩⟩⟩⟩⟩⟩⟩⟩⟩⟩⟩⟩⟩⟩⟩⟩⟩⟩⟩⟩⟩⟩⟩⟩⟩⟩⟩⟩⟩⟩⟩⟩⟩
theorem i_MO_getReady_ok : ∀ pc i n, i_MO_getReady pc = some (i, n) → decode b_MO_getReady pc = .ok (i, n) := fun pc i n h => d_MO_getReady (pc, i, n) (am_find_mem h)
theorem i_MO_getReady_0 : i_MO_getReady 0 = some (.iconst 0, 1) := rfl
theorem i_MO_getReady_1 : i_MO_getReady 1 = some (.istore_n 1, 1) := rfl
theorem i_MO_getReady_2 : i_MO_getReady 2 = some (.iload_n 1, 1) := rfl
theorem i_MO_getReady_3 : i_MO_getReady 3 = some (.aload_n 0, 1) := rfl
theorem i_MO_getReady_4 : i_MO_getReady 4 = some (.getfield 96, 3) := rfl
theorem i_MO_getReady_7 : i_MO_getReady 7 = some (.if_icmp .ge 113, 3) := rfl
theorem i_MO_getReady_10 : i_MO_getReady 10 = some (.aload_n 0, 1) := rfl
theorem i_MO_getReady_11 : i_MO_getReady 11 = some (.getfield 50, 3) := rfl
theorem i_MO_getReady_14 : i_MO_getReady 14 = some (.iload_n 1, 1) := rfl
theorem i_MO_getReady_15 : i_MO_getReady 15 = some (.iaload, 1) := rfl
theorem i_MO_getReady_16 : i_MO_getReady 16 = some (.ifCond .le 26, 3) := rfl
theorem i_MO_getReady_19 : i_MO_getReady 19 = some (.aload_n 0, 1) := rfl
theorem i_MO_getReady_20 : i_MO_getReady 20 = some (.getfield 53, 3) := rfl
theorem i_MO_getReady_23 : i_MO_getReady 23 = some (.iload_n 1, 1) := rfl
theorem i_MO_getReady_24 : i_MO_getReady 24 = some (.iaload, 1) := rfl
theorem i_MO_getReady_25 : i_MO_getReady 25 = some (.aload_n 0, 1) := rfl
theorem i_MO_getReady_26 : i_MO_getReady 26 = some (.getfield 132, 3) := rfl
theorem i_MO_getReady_29 : i_MO_getReady 29 = some (.if_icmp .ne 13, 3) := rfl
theorem i_MO_getReady_32 : i_MO_getReady 32 = some (.aload_n 0, 1) := rfl
theorem i_MO_getReady_33 : i_MO_getReady 33 = some (.dup, 1) := rfl
theorem i_MO_getReady_34 : i_MO_getReady 34 = some (.getfield 144, 3) := rfl
theorem i_MO_getReady_37 : i_MO_getReady 37 = some (.iconst 1, 1) := rfl
theorem i_MO_getReady_38 : i_MO_getReady 38 = some (.iadd, 1) := rfl
theorem i_MO_getReady_39 : i_MO_getReady 39 = some (.putfield 144, 3) := rfl
theorem i_MO_getReady_42 : i_MO_getReady 42 = some (.aload_n 0, 1) := rfl
theorem i_MO_getReady_43 : i_MO_getReady 43 = some (.iload_n 1, 1) := rfl
theorem i_MO_getReady_44 : i_MO_getReady 44 = some (.aload_n 0, 1) := rfl
theorem i_MO_getReady_45 : i_MO_getReady 45 = some (.getfield 132, 3) := rfl
theorem i_MO_getReady_48 : i_MO_getReady 48 = some (.invokevirtual 147, 3) := rfl
theorem i_MO_getReady_51 : i_MO_getReady 51 = some (.ifCond .ne 6, 3) := rfl
theorem i_MO_getReady_54 : i_MO_getReady 54 = some (.goto 60, 3) := rfl
theorem i_MO_getReady_57 : i_MO_getReady 57 = some (.aload_n 0, 1) := rfl
theorem i_MO_getReady_58 : i_MO_getReady 58 = some (.getfield 50, 3) := rfl
theorem i_MO_getReady_61 : i_MO_getReady 61 = some (.iload_n 1, 1) := rfl
theorem i_MO_getReady_62 : i_MO_getReady 62 = some (.dup2, 1) := rfl
theorem i_MO_getReady_63 : i_MO_getReady 63 = some (.iaload, 1) := rfl
theorem i_MO_getReady_64 : i_MO_getReady 64 = some (.aload_n 0, 1) := rfl
theorem i_MO_getReady_65 : i_MO_getReady 65 = some (.getfield 56, 3) := rfl
theorem i_MO_getReady_68 : i_MO_getReady 68 = some (.iload_n 1, 1) := rfl
theorem i_MO_getReady_69 : i_MO_getReady 69 = some (.iaload, 1) := rfl
theorem i_MO_getReady_70 : i_MO_getReady 70 = some (.ifCond .le 12, 3) := rfl
theorem i_MO_getReady_73 : i_MO_getReady 73 = some (.aload_n 0, 1) := rfl
theorem i_MO_getReady_74 : i_MO_getReady 74 = some (.getfield 56, 3) := rfl
theorem i_MO_getReady_77 : i_MO_getReady 77 = some (.iload_n 1, 1) := rfl
theorem i_MO_getReady_78 : i_MO_getReady 78 = some (.iaload, 1) := rfl
theorem i_MO_getReady_79 : i_MO_getReady 79 = some (.goto 9, 3) := rfl
theorem i_MO_getReady_82 : i_MO_getReady 82 = some (.aload_n 0, 1) := rfl
theorem i_MO_getReady_83 : i_MO_getReady 83 = some (.getfield 16, 3) := rfl
theorem i_MO_getReady_86 : i_MO_getReady 86 = some (.iload_n 1, 1) := rfl
theorem i_MO_getReady_87 : i_MO_getReady 87 = some (.iaload, 1) := rfl
theorem i_MO_getReady_88 : i_MO_getReady 88 = some (.iadd, 1) := rfl
theorem i_MO_getReady_89 : i_MO_getReady 89 = some (.iastore, 1) := rfl
theorem i_MO_getReady_90 : i_MO_getReady 90 = some (.aload_n 0, 1) := rfl
theorem i_MO_getReady_91 : i_MO_getReady 91 = some (.getfield 56, 3) := rfl
theorem i_MO_getReady_94 : i_MO_getReady 94 = some (.iload_n 1, 1) := rfl
theorem i_MO_getReady_95 : i_MO_getReady 95 = some (.iconst 0, 1) := rfl
theorem i_MO_getReady_96 : i_MO_getReady 96 = some (.iastore, 1) := rfl
theorem i_MO_getReady_97 : i_MO_getReady 97 = some (.aload_n 0, 1) := rfl
theorem i_MO_getReady_98 : i_MO_getReady 98 = some (.getfield 53, 3) := rfl
theorem i_MO_getReady_101 : i_MO_getReady 101 = some (.iload_n 1, 1) := rfl
theorem i_MO_getReady_102 : i_MO_getReady 102 = some (.aload_n 0, 1) := rfl
theorem i_MO_getReady_103 : i_MO_getReady 103 = some (.getfield 132, 3) := rfl
theorem i_MO_getReady_106 : i_MO_getReady 106 = some (.aload_n 0, 1) := rfl
theorem i_MO_getReady_107 : i_MO_getReady 107 = some (.getfield 19, 3) := rfl
theorem i_MO_getReady_110 : i_MO_getReady 110 = some (.iload_n 1, 1) := rfl
theorem i_MO_getReady_111 : i_MO_getReady 111 = some (.iaload, 1) := rfl
theorem i_MO_getReady_112 : i_MO_getReady 112 = some (.iadd, 1) := rfl
theorem i_MO_getReady_113 : i_MO_getReady 113 = some (.iastore, 1) := rfl
theorem i_MO_getReady_114 : i_MO_getReady 114 = some (.iinc 1 1, 3) := rfl
theorem i_MO_getReady_117 : i_MO_getReady 117 = some (.goto (-115), 3) := rfl
theorem i_MO_getReady_120 : i_MO_getReady 120 = some (.return_, 1) := rfl
abbrev w_MO_getReady : List Jvm.Cond := Jvm.Cond.code y_MO_getReady b_MO_getReady 2 none :: vw_W
theorem c_MO_getReady : Jvm.Cond.code y_MO_getReady b_MO_getReady 2 none ∈ vw_W := vw_t 998 (by decide +kernel) (by decide +kernel)
abbrev r_MO_getReady : Room := { frames := 1, cells := 0, slots := 0, locals := 22 }
abbrev b_MO_begins : ByteArray := prog_13_method_14_code
abbrev y_MO_begins : MethodName := ⟨"ServerDeskModel", "begins", "(II)Z"⟩
def q_MO_begins : List (Nat × Instr × Nat) := [(0, .iload_n 2, 1), (1, .aload_n 0, 1), (2, .getfield 13, 3), (5, .iload_n 1, 1), (6, .iaload, 1), (7, .if_icmp .lt 25, 3), (10, .iload_n 2, 1), (11, .aload_n 0, 1), (12, .getfield 13, 3), (15, .iload_n 1, 1), (16, .iaload, 1), (17, .isub, 1), (18, .aload_n 0, 1), (19, .getfield 7, 3), (22, .iload_n 1, 1), (23, .iaload, 1), (24, .irem, 1), (25, .ifCond .ne 7, 3), (28, .iconst 1, 1), (29, .goto 4, 3), (32, .iconst 0, 1), (33, .ireturn, 1)]
def i_MO_begins : Nat → Option (Instr × Nat) := am_find q_MO_begins
theorem d_MO_begins_0 : decode b_MO_begins 0 = .ok (.iload_n 2, 1) := by decide +kernel
theorem d_MO_begins_1 : decode b_MO_begins 1 = .ok (.aload_n 0, 1) := by decide +kernel
theorem d_MO_begins_2 : decode b_MO_begins 2 = .ok (.getfield 13, 3) := by decide +kernel
theorem d_MO_begins_5 : decode b_MO_begins 5 = .ok (.iload_n 1, 1) := by decide +kernel
theorem d_MO_begins_6 : decode b_MO_begins 6 = .ok (.iaload, 1) := by decide +kernel
theorem d_MO_begins_7 : decode b_MO_begins 7 = .ok (.if_icmp .lt 25, 3) := by decide +kernel
theorem d_MO_begins_10 : decode b_MO_begins 10 = .ok (.iload_n 2, 1) := by decide +kernel
theorem d_MO_begins_11 : decode b_MO_begins 11 = .ok (.aload_n 0, 1) := by decide +kernel
theorem d_MO_begins_12 : decode b_MO_begins 12 = .ok (.getfield 13, 3) := by decide +kernel
theorem d_MO_begins_15 : decode b_MO_begins 15 = .ok (.iload_n 1, 1) := by decide +kernel
theorem d_MO_begins_16 : decode b_MO_begins 16 = .ok (.iaload, 1) := by decide +kernel
theorem d_MO_begins_17 : decode b_MO_begins 17 = .ok (.isub, 1) := by decide +kernel
theorem d_MO_begins_18 : decode b_MO_begins 18 = .ok (.aload_n 0, 1) := by decide +kernel
theorem d_MO_begins_19 : decode b_MO_begins 19 = .ok (.getfield 7, 3) := by decide +kernel
theorem d_MO_begins_22 : decode b_MO_begins 22 = .ok (.iload_n 1, 1) := by decide +kernel
theorem d_MO_begins_23 : decode b_MO_begins 23 = .ok (.iaload, 1) := by decide +kernel
theorem d_MO_begins_24 : decode b_MO_begins 24 = .ok (.irem, 1) := by decide +kernel
theorem d_MO_begins_25 : decode b_MO_begins 25 = .ok (.ifCond .ne 7, 3) := by decide +kernel
theorem d_MO_begins_28 : decode b_MO_begins 28 = .ok (.iconst 1, 1) := by decide +kernel
theorem d_MO_begins_29 : decode b_MO_begins 29 = .ok (.goto 4, 3) := by decide +kernel
theorem d_MO_begins_32 : decode b_MO_begins 32 = .ok (.iconst 0, 1) := by decide +kernel
theorem d_MO_begins_33 : decode b_MO_begins 33 = .ok (.ireturn, 1) := by decide +kernel
theorem d_MO_begins : ∀ z ∈ q_MO_begins, decode b_MO_begins z.1 = .ok z.2 := List.forall_mem_cons.mpr ⟨d_MO_begins_0, List.forall_mem_cons.mpr ⟨d_MO_begins_1, List.forall_mem_cons.mpr ⟨d_MO_begins_2, List.forall_mem_cons.mpr ⟨d_MO_begins_5, List.forall_mem_cons.mpr ⟨d_MO_begins_6, List.forall_mem_cons.mpr ⟨d_MO_begins_7, List.forall_mem_cons.mpr ⟨d_MO_begins_10, List.forall_mem_cons.mpr ⟨d_MO_begins_11, List.forall_mem_cons.mpr ⟨d_MO_begins_12, List.forall_mem_cons.mpr ⟨d_MO_begins_15, List.forall_mem_cons.mpr ⟨d_MO_begins_16, List.forall_mem_cons.mpr ⟨d_MO_begins_17, List.forall_mem_cons.mpr ⟨d_MO_begins_18, List.forall_mem_cons.mpr ⟨d_MO_begins_19, List.forall_mem_cons.mpr ⟨d_MO_begins_22, List.forall_mem_cons.mpr ⟨d_MO_begins_23, List.forall_mem_cons.mpr ⟨d_MO_begins_24, List.forall_mem_cons.mpr ⟨d_MO_begins_25, List.forall_mem_cons.mpr ⟨d_MO_begins_28, List.forall_mem_cons.mpr ⟨d_MO_begins_29, List.forall_mem_cons.mpr ⟨d_MO_begins_32, List.forall_mem_cons.mpr ⟨d_MO_begins_33, fun _ h => absurd h List.not_mem_nil⟩⟩⟩⟩⟩⟩⟩⟩⟩⟩⟩⟩⟩⟩⟩⟩⟩⟩⟩⟩⟩⟩
theorem i_MO_begins_ok : ∀ pc i n, i_MO_begins pc = some (i, n) → decode b_MO_begins pc = .ok (i, n) := fun pc i n h => d_MO_begins (pc, i, n) (am_find_mem h)
theorem i_MO_begins_0 : i_MO_begins 0 = some (.iload_n 2, 1) := rfl
theorem i_MO_begins_1 : i_MO_begins 1 = some (.aload_n 0, 1) := rfl
theorem i_MO_begins_2 : i_MO_begins 2 = some (.getfield 13, 3) := rfl
theorem i_MO_begins_5 : i_MO_begins 5 = some (.iload_n 1, 1) := rfl
theorem i_MO_begins_6 : i_MO_begins 6 = some (.iaload, 1) := rfl
theorem i_MO_begins_7 : i_MO_begins 7 = some (.if_icmp .lt 25, 3) := rfl
theorem i_MO_begins_10 : i_MO_begins 10 = some (.iload_n 2, 1) := rfl
theorem i_MO_begins_11 : i_MO_begins 11 = some (.aload_n 0, 1) := rfl
theorem i_MO_begins_12 : i_MO_begins 12 = some (.getfield 13, 3) := rfl
theorem i_MO_begins_15 : i_MO_begins 15 = some (.iload_n 1, 1) := rfl
theorem i_MO_begins_16 : i_MO_begins 16 = some (.iaload, 1) := rfl
theorem i_MO_begins_17 : i_MO_begins 17 = some (.isub, 1) := rfl
theorem i_MO_begins_18 : i_MO_begins 18 = some (.aload_n 0, 1) := rfl
theorem i_MO_begins_19 : i_MO_begins 19 = some (.getfield 7, 3) := rfl
theorem i_MO_begins_22 : i_MO_begins 22 = some (.iload_n 1, 1) := rfl
theorem i_MO_begins_23 : i_MO_begins 23 = some (.iaload, 1) := rfl
theorem i_MO_begins_24 : i_MO_begins 24 = some (.irem, 1) := rfl
theorem i_MO_begins_25 : i_MO_begins 25 = some (.ifCond .ne 7, 3) := rfl
theorem i_MO_begins_28 : i_MO_begins 28 = some (.iconst 1, 1) := rfl
theorem i_MO_begins_29 : i_MO_begins 29 = some (.goto 4, 3) := rfl
theorem i_MO_begins_32 : i_MO_begins 32 = some (.iconst 0, 1) := rfl
theorem i_MO_begins_33 : i_MO_begins 33 = some (.ireturn, 1) := rfl
abbrev w_MO_begins : List Jvm.Cond := Jvm.Cond.code y_MO_begins b_MO_begins 3 (some .boolean) :: vw_W
theorem c_MO_begins : Jvm.Cond.code y_MO_begins b_MO_begins 3 (some .boolean) ∈ vw_W := vw_t 1002 (by decide +kernel) (by decide +kernel)
abbrev r_MO_begins : Room := { frames := 0, cells := 0, slots := 0, locals := 0 }
abbrev b_MO_firstJob : ByteArray := prog_13_method_17_code
abbrev y_MO_firstJob : MethodName := ⟨"ServerDeskModel", "firstJob", "()I"⟩
def q_MO_firstJob : List (Nat × Instr × Nat) := [(0, .iconst 0, 1), (1, .istore_n 1, 1), (2, .iload_n 1, 1), (3, .iconst 2, 1), (4, .if_icmp .ge 54, 3), (7, .iconst 0, 1), (8, .istore_n 2, 1), (9, .iload_n 2, 1), (10, .aload_n 0, 1), (11, .getfield 141, 3), (14, .if_icmp .ge 38, 3), (17, .aload_n 0, 1), (18, .getfield 62, 3), (21, .iload_n 2, 1), (22, .iaload, 1), (23, .ifCond .le 23, 3), (26, .aload_n 0, 1), (27, .getfield 37, 3), (30, .iload_n 2, 1), (31, .baload, 1), (32, .iload_n 1, 1), (33, .ifCond .ne 7, 3), (36, .iconst 1, 1), (37, .goto 4, 3), (40, .iconst 0, 1), (41, .if_icmp .ne 5, 3), (44, .iload_n 2, 1), (45, .ireturn, 1), (46, .iinc 2 1, 3), (49, .goto (-40), 3), (52, .iinc 1 1, 3), (55, .goto (-53), 3), (58, .iconst (-1), 1), (59, .ireturn, 1)]
def i_MO_firstJob : Nat → Option (Instr × Nat) := am_find q_MO_firstJob
theorem d_MO_firstJob_0 : decode b_MO_firstJob 0 = .ok (.iconst 0, 1) := by decide +kernel
theorem d_MO_firstJob_1 : decode b_MO_firstJob 1 = .ok (.istore_n 1, 1) := by decide +kernel
theorem d_MO_firstJob_2 : decode b_MO_firstJob 2 = .ok (.iload_n 1, 1) := by decide +kernel
theorem d_MO_firstJob_3 : decode b_MO_firstJob 3 = .ok (.iconst 2, 1) := by decide +kernel
theorem d_MO_firstJob_4 : decode b_MO_firstJob 4 = .ok (.if_icmp .ge 54, 3) := by decide +kernel
theorem d_MO_firstJob_7 : decode b_MO_firstJob 7 = .ok (.iconst 0, 1) := by decide +kernel
theorem d_MO_firstJob_8 : decode b_MO_firstJob 8 = .ok (.istore_n 2, 1) := by decide +kernel
theorem d_MO_firstJob_9 : decode b_MO_firstJob 9 = .ok (.iload_n 2, 1) := by decide +kernel
theorem d_MO_firstJob_10 : decode b_MO_firstJob 10 = .ok (.aload_n 0, 1) := by decide +kernel
theorem d_MO_firstJob_11 : decode b_MO_firstJob 11 = .ok (.getfield 141, 3) := by decide +kernel
theorem d_MO_firstJob_14 : decode b_MO_firstJob 14 = .ok (.if_icmp .ge 38, 3) := by decide +kernel
theorem d_MO_firstJob_17 : decode b_MO_firstJob 17 = .ok (.aload_n 0, 1) := by decide +kernel
theorem d_MO_firstJob_18 : decode b_MO_firstJob 18 = .ok (.getfield 62, 3) := by decide +kernel
theorem d_MO_firstJob_21 : decode b_MO_firstJob 21 = .ok (.iload_n 2, 1) := by decide +kernel
theorem d_MO_firstJob_22 : decode b_MO_firstJob 22 = .ok (.iaload, 1) := by decide +kernel
theorem d_MO_firstJob_23 : decode b_MO_firstJob 23 = .ok (.ifCond .le 23, 3) := by decide +kernel
theorem d_MO_firstJob_26 : decode b_MO_firstJob 26 = .ok (.aload_n 0, 1) := by decide +kernel
theorem d_MO_firstJob_27 : decode b_MO_firstJob 27 = .ok (.getfield 37, 3) := by decide +kernel
theorem d_MO_firstJob_30 : decode b_MO_firstJob 30 = .ok (.iload_n 2, 1) := by decide +kernel
theorem d_MO_firstJob_31 : decode b_MO_firstJob 31 = .ok (.baload, 1) := by decide +kernel
theorem d_MO_firstJob_32 : decode b_MO_firstJob 32 = .ok (.iload_n 1, 1) := by decide +kernel
theorem d_MO_firstJob_33 : decode b_MO_firstJob 33 = .ok (.ifCond .ne 7, 3) := by decide +kernel
theorem d_MO_firstJob_36 : decode b_MO_firstJob 36 = .ok (.iconst 1, 1) := by decide +kernel
theorem d_MO_firstJob_37 : decode b_MO_firstJob 37 = .ok (.goto 4, 3) := by decide +kernel
theorem d_MO_firstJob_40 : decode b_MO_firstJob 40 = .ok (.iconst 0, 1) := by decide +kernel
theorem d_MO_firstJob_41 : decode b_MO_firstJob 41 = .ok (.if_icmp .ne 5, 3) := by decide +kernel
theorem d_MO_firstJob_44 : decode b_MO_firstJob 44 = .ok (.iload_n 2, 1) := by decide +kernel
theorem d_MO_firstJob_45 : decode b_MO_firstJob 45 = .ok (.ireturn, 1) := by decide +kernel
theorem d_MO_firstJob_46 : decode b_MO_firstJob 46 = .ok (.iinc 2 1, 3) := by decide +kernel
theorem d_MO_firstJob_49 : decode b_MO_firstJob 49 = .ok (.goto (-40), 3) := by decide +kernel
theorem d_MO_firstJob_52 : decode b_MO_firstJob 52 = .ok (.iinc 1 1, 3) := by decide +kernel
theorem d_MO_firstJob_55 : decode b_MO_firstJob 55 = .ok (.goto (-53), 3) := by decide +kernel
theorem d_MO_firstJob_58 : decode b_MO_firstJob 58 = .ok (.iconst (-1), 1) := by decide +kernel
theorem d_MO_firstJob_59 : decode b_MO_firstJob 59 = .ok (.ireturn, 1) := by decide +kernel
theorem d_MO_firstJob : ∀ z ∈ q_MO_firstJob, decode b_MO_firstJob z.1 = .ok z.2 := List.forall_mem_cons.mpr ⟨d_MO_firstJob_0, List.forall_mem_cons.mpr ⟨d_MO_firstJob_1, List.forall_mem_cons.mpr ⟨d_MO_firstJob_2, List.forall_mem_cons.mpr ⟨d_MO_firstJob_3, List.forall_mem_cons.mpr ⟨d_MO_firstJob_4, List.forall_mem_cons.mpr ⟨d_MO_firstJob_7, List.forall_mem_cons.mpr ⟨d_MO_firstJob_8, List.forall_mem_cons.mpr ⟨d_MO_firstJob_9, List.forall_mem_cons.mpr ⟨d_MO_firstJob_10, List.forall_mem_cons.mpr ⟨d_MO_firstJob_11, List.forall_mem_cons.mpr ⟨d_MO_firstJob_14, List.forall_mem_cons.mpr ⟨d_MO_firstJob_17, List.forall_mem_cons.mpr ⟨d_MO_firstJob_18, List.forall_mem_cons.mpr ⟨d_MO_firstJob_21, List.forall_mem_cons.mpr ⟨d_MO_firstJob_22, List.forall_mem_cons.mpr ⟨d_MO_firstJob_23, List.forall_mem_cons.mpr ⟨d_MO_firstJob_26, List.forall_mem_cons.mpr ⟨d_MO_firstJob_27, List.forall_mem_cons.mpr ⟨d_MO_firstJob_30, List.forall_mem_cons.mpr ⟨d_MO_firstJob_31, List.forall_mem_cons.mpr ⟨d_MO_firstJob_32, List.forall_mem_cons.mpr ⟨d_MO_firstJob_33, List.forall_mem_cons.mpr ⟨d_MO_firstJob_36, List.forall_mem_cons.mpr ⟨d_MO_firstJob_37, List.forall_mem_cons.mpr ⟨d_MO_firstJob_40, List.forall_mem_cons.mpr ⟨d_MO_firstJob_41, List.forall_mem_cons.mpr ⟨d_MO_firstJob_44, List.forall_mem_cons.mpr ⟨d_MO_firstJob_45, List.forall_mem_cons.mpr ⟨d_MO_firstJob_46, List.forall_mem_cons.mpr ⟨d_MO_firstJob_49, List.forall_mem_cons.mpr ⟨d_MO_firstJob_52, List.forall_mem_cons.mpr ⟨d_MO_firstJob_55, List.forall_mem_cons.mpr ⟨d_MO_firstJob_58, List.forall_mem_cons.mpr ⟨d_MO_firstJob_59, fun _ h => absurd h List.not_mem_nil⟩⟩⟩⟩⟩⟩⟩⟩⟩⟩⟩⟩⟩⟩⟩⟩⟩⟩⟩⟩⟩⟩⟩⟩⟩⟩⟩⟩⟩⟩⟩⟩⟩⟩
theorem i_MO_firstJob_ok : ∀ pc i n, i_MO_firstJob pc = some (i, n) → decode b_MO_firstJob pc = .ok (i, n) := fun pc i n h => d_MO_firstJob (pc, i, n) (am_find_mem h)
theorem i_MO_firstJob_0 : i_MO_firstJob 0 = some (.iconst 0, 1) := rfl
theorem i_MO_firstJob_1 : i_MO_firstJob 1 = some (.istore_n 1, 1) := rfl
theorem i_MO_firstJob_2 : i_MO_firstJob 2 = some (.iload_n 1, 1) := rfl
theorem i_MO_firstJob_3 : i_MO_firstJob 3 = some (.iconst 2, 1) := rfl
theorem i_MO_firstJob_4 : i_MO_firstJob 4 = some (.if_icmp .ge 54, 3) := rfl
theorem i_MO_firstJob_7 : i_MO_firstJob 7 = some (.iconst 0, 1) := rfl
theorem i_MO_firstJob_8 : i_MO_firstJob 8 = some (.istore_n 2, 1) := rfl
theorem i_MO_firstJob_9 : i_MO_firstJob 9 = some (.iload_n 2, 1) := rfl
theorem i_MO_firstJob_10 : i_MO_firstJob 10 = some (.aload_n 0, 1) := rfl
theorem i_MO_firstJob_11 : i_MO_firstJob 11 = some (.getfield 141, 3) := rfl
theorem i_MO_firstJob_14 : i_MO_firstJob 14 = some (.if_icmp .ge 38, 3) := rfl
theorem i_MO_firstJob_17 : i_MO_firstJob 17 = some (.aload_n 0, 1) := rfl
theorem i_MO_firstJob_18 : i_MO_firstJob 18 = some (.getfield 62, 3) := rfl
theorem i_MO_firstJob_21 : i_MO_firstJob 21 = some (.iload_n 2, 1) := rfl
theorem i_MO_firstJob_22 : i_MO_firstJob 22 = some (.iaload, 1) := rfl
theorem i_MO_firstJob_23 : i_MO_firstJob 23 = some (.ifCond .le 23, 3) := rfl
theorem i_MO_firstJob_26 : i_MO_firstJob 26 = some (.aload_n 0, 1) := rfl
theorem i_MO_firstJob_27 : i_MO_firstJob 27 = some (.getfield 37, 3) := rfl
theorem i_MO_firstJob_30 : i_MO_firstJob 30 = some (.iload_n 2, 1) := rfl
theorem i_MO_firstJob_31 : i_MO_firstJob 31 = some (.baload, 1) := rfl
theorem i_MO_firstJob_32 : i_MO_firstJob 32 = some (.iload_n 1, 1) := rfl
theorem i_MO_firstJob_33 : i_MO_firstJob 33 = some (.ifCond .ne 7, 3) := rfl
theorem i_MO_firstJob_36 : i_MO_firstJob 36 = some (.iconst 1, 1) := rfl
theorem i_MO_firstJob_37 : i_MO_firstJob 37 = some (.goto 4, 3) := rfl
theorem i_MO_firstJob_40 : i_MO_firstJob 40 = some (.iconst 0, 1) := rfl
theorem i_MO_firstJob_41 : i_MO_firstJob 41 = some (.if_icmp .ne 5, 3) := rfl
theorem i_MO_firstJob_44 : i_MO_firstJob 44 = some (.iload_n 2, 1) := rfl
theorem i_MO_firstJob_45 : i_MO_firstJob 45 = some (.ireturn, 1) := rfl
theorem i_MO_firstJob_46 : i_MO_firstJob 46 = some (.iinc 2 1, 3) := rfl
theorem i_MO_firstJob_49 : i_MO_firstJob 49 = some (.goto (-40), 3) := rfl
theorem i_MO_firstJob_52 : i_MO_firstJob 52 = some (.iinc 1 1, 3) := rfl
theorem i_MO_firstJob_55 : i_MO_firstJob 55 = some (.goto (-53), 3) := rfl
theorem i_MO_firstJob_58 : i_MO_firstJob 58 = some (.iconst (-1), 1) := rfl
theorem i_MO_firstJob_59 : i_MO_firstJob 59 = some (.ireturn, 1) := rfl
abbrev w_MO_firstJob : List Jvm.Cond := Jvm.Cond.code y_MO_firstJob b_MO_firstJob 3 (some .int) :: vw_W
theorem c_MO_firstJob : Jvm.Cond.code y_MO_firstJob b_MO_firstJob 3 (some .int) ∈ vw_W := vw_t 1006 (by decide +kernel) (by decide +kernel)
abbrev r_MO_firstJob : Room := { frames := 0, cells := 0, slots := 0, locals := 0 }
abbrev b_MO_readyTask : ByteArray := prog_13_method_16_code
abbrev y_MO_readyTask : MethodName := ⟨"ServerDeskModel", "readyTask", "()I"⟩
def q_MO_readyTask : List (Nat × Instr × Nat) := [(0, .iconst 0, 1), (1, .istore_n 1, 1), (2, .iload_n 1, 1), (3, .aload_n 0, 1), (4, .getfield 96, 3), (7, .if_icmp .ge 30, 3), (10, .aload_n 0, 1), (11, .getfield 50, 3), (14, .aload_n 0, 1), (15, .getfield 22, 3), (18, .iload_n 1, 1), (19, .iaload, 1), (20, .iaload, 1), (21, .ifCond .le 10, 3), (24, .aload_n 0, 1), (25, .getfield 22, 3), (28, .iload_n 1, 1), (29, .iaload, 1), (30, .ireturn, 1), (31, .iinc 1 1, 3), (34, .goto (-32), 3), (37, .iconst (-1), 1), (38, .ireturn, 1)]
def i_MO_readyTask : Nat → Option (Instr × Nat) := am_find q_MO_readyTask
theorem d_MO_readyTask_0 : decode b_MO_readyTask 0 = .ok (.iconst 0, 1) := by decide +kernel
theorem d_MO_readyTask_1 : decode b_MO_readyTask 1 = .ok (.istore_n 1, 1) := by decide +kernel
theorem d_MO_readyTask_2 : decode b_MO_readyTask 2 = .ok (.iload_n 1, 1) := by decide +kernel
theorem d_MO_readyTask_3 : decode b_MO_readyTask 3 = .ok (.aload_n 0, 1) := by decide +kernel
theorem d_MO_readyTask_4 : decode b_MO_readyTask 4 = .ok (.getfield 96, 3) := by decide +kernel
theorem d_MO_readyTask_7 : decode b_MO_readyTask 7 = .ok (.if_icmp .ge 30, 3) := by decide +kernel
theorem d_MO_readyTask_10 : decode b_MO_readyTask 10 = .ok (.aload_n 0, 1) := by decide +kernel
theorem d_MO_readyTask_11 : decode b_MO_readyTask 11 = .ok (.getfield 50, 3) := by decide +kernel
theorem d_MO_readyTask_14 : decode b_MO_readyTask 14 = .ok (.aload_n 0, 1) := by decide +kernel
theorem d_MO_readyTask_15 : decode b_MO_readyTask 15 = .ok (.getfield 22, 3) := by decide +kernel
theorem d_MO_readyTask_18 : decode b_MO_readyTask 18 = .ok (.iload_n 1, 1) := by decide +kernel
theorem d_MO_readyTask_19 : decode b_MO_readyTask 19 = .ok (.iaload, 1) := by decide +kernel
theorem d_MO_readyTask_20 : decode b_MO_readyTask 20 = .ok (.iaload, 1) := by decide +kernel
theorem d_MO_readyTask_21 : decode b_MO_readyTask 21 = .ok (.ifCond .le 10, 3) := by decide +kernel
theorem d_MO_readyTask_24 : decode b_MO_readyTask 24 = .ok (.aload_n 0, 1) := by decide +kernel
theorem d_MO_readyTask_25 : decode b_MO_readyTask 25 = .ok (.getfield 22, 3) := by decide +kernel
theorem d_MO_readyTask_28 : decode b_MO_readyTask 28 = .ok (.iload_n 1, 1) := by decide +kernel
theorem d_MO_readyTask_29 : decode b_MO_readyTask 29 = .ok (.iaload, 1) := by decide +kernel
theorem d_MO_readyTask_30 : decode b_MO_readyTask 30 = .ok (.ireturn, 1) := by decide +kernel
theorem d_MO_readyTask_31 : decode b_MO_readyTask 31 = .ok (.iinc 1 1, 3) := by decide +kernel
theorem d_MO_readyTask_34 : decode b_MO_readyTask 34 = .ok (.goto (-32), 3) := by decide +kernel
theorem d_MO_readyTask_37 : decode b_MO_readyTask 37 = .ok (.iconst (-1), 1) := by decide +kernel
theorem d_MO_readyTask_38 : decode b_MO_readyTask 38 = .ok (.ireturn, 1) := by decide +kernel
theorem d_MO_readyTask : ∀ z ∈ q_MO_readyTask, decode b_MO_readyTask z.1 = .ok z.2 := List.forall_mem_cons.mpr ⟨d_MO_readyTask_0, List.forall_mem_cons.mpr ⟨d_MO_readyTask_1, List.forall_mem_cons.mpr ⟨d_MO_readyTask_2, List.forall_mem_cons.mpr ⟨d_MO_readyTask_3, List.forall_mem_cons.mpr ⟨d_MO_readyTask_4, List.forall_mem_cons.mpr ⟨d_MO_readyTask_7, List.forall_mem_cons.mpr ⟨d_MO_readyTask_10, List.forall_mem_cons.mpr ⟨d_MO_readyTask_11, List.forall_mem_cons.mpr ⟨d_MO_readyTask_14, List.forall_mem_cons.mpr ⟨d_MO_readyTask_15, List.forall_mem_cons.mpr ⟨d_MO_readyTask_18, List.forall_mem_cons.mpr ⟨d_MO_readyTask_19, List.forall_mem_cons.mpr ⟨d_MO_readyTask_20, List.forall_mem_cons.mpr ⟨d_MO_readyTask_21, List.forall_mem_cons.mpr ⟨d_MO_readyTask_24, List.forall_mem_cons.mpr ⟨d_MO_readyTask_25, List.forall_mem_cons.mpr ⟨d_MO_readyTask_28, List.forall_mem_cons.mpr ⟨d_MO_readyTask_29, List.forall_mem_cons.mpr ⟨d_MO_readyTask_30, List.forall_mem_cons.mpr ⟨d_MO_readyTask_31, List.forall_mem_cons.mpr ⟨d_MO_readyTask_34, List.forall_mem_cons.mpr ⟨d_MO_readyTask_37, List.forall_mem_cons.mpr ⟨d_MO_readyTask_38, fun _ h => absurd h List.not_mem_nil⟩⟩⟩⟩⟩⟩⟩⟩⟩⟩⟩⟩⟩⟩⟩⟩⟩⟩⟩⟩⟩⟩⟩
theorem i_MO_readyTask_ok : ∀ pc i n, i_MO_readyTask pc = some (i, n) → decode b_MO_readyTask pc = .ok (i, n) := fun pc i n h => d_MO_readyTask (pc, i, n) (am_find_mem h)
theorem i_MO_readyTask_0 : i_MO_readyTask 0 = some (.iconst 0, 1) := rfl
theorem i_MO_readyTask_1 : i_MO_readyTask 1 = some (.istore_n 1, 1) := rfl
theorem i_MO_readyTask_2 : i_MO_readyTask 2 = some (.iload_n 1, 1) := rfl
theorem i_MO_readyTask_3 : i_MO_readyTask 3 = some (.aload_n 0, 1) := rfl
theorem i_MO_readyTask_4 : i_MO_readyTask 4 = some (.getfield 96, 3) := rfl
theorem i_MO_readyTask_7 : i_MO_readyTask 7 = some (.if_icmp .ge 30, 3) := rfl
theorem i_MO_readyTask_10 : i_MO_readyTask 10 = some (.aload_n 0, 1) := rfl
theorem i_MO_readyTask_11 : i_MO_readyTask 11 = some (.getfield 50, 3) := rfl
theorem i_MO_readyTask_14 : i_MO_readyTask 14 = some (.aload_n 0, 1) := rfl
theorem i_MO_readyTask_15 : i_MO_readyTask 15 = some (.getfield 22, 3) := rfl
theorem i_MO_readyTask_18 : i_MO_readyTask 18 = some (.iload_n 1, 1) := rfl
theorem i_MO_readyTask_19 : i_MO_readyTask 19 = some (.iaload, 1) := rfl
theorem i_MO_readyTask_20 : i_MO_readyTask 20 = some (.iaload, 1) := rfl
theorem i_MO_readyTask_21 : i_MO_readyTask 21 = some (.ifCond .le 10, 3) := rfl
theorem i_MO_readyTask_24 : i_MO_readyTask 24 = some (.aload_n 0, 1) := rfl
theorem i_MO_readyTask_25 : i_MO_readyTask 25 = some (.getfield 22, 3) := rfl
theorem i_MO_readyTask_28 : i_MO_readyTask 28 = some (.iload_n 1, 1) := rfl
theorem i_MO_readyTask_29 : i_MO_readyTask 29 = some (.iaload, 1) := rfl
theorem i_MO_readyTask_30 : i_MO_readyTask 30 = some (.ireturn, 1) := rfl
theorem i_MO_readyTask_31 : i_MO_readyTask 31 = some (.iinc 1 1, 3) := rfl
theorem i_MO_readyTask_34 : i_MO_readyTask 34 = some (.goto (-32), 3) := rfl
theorem i_MO_readyTask_37 : i_MO_readyTask 37 = some (.iconst (-1), 1) := rfl
theorem i_MO_readyTask_38 : i_MO_readyTask 38 = some (.ireturn, 1) := rfl
abbrev w_MO_readyTask : List Jvm.Cond := Jvm.Cond.code y_MO_readyTask b_MO_readyTask 2 (some .int) :: vw_W
theorem c_MO_readyTask : Jvm.Cond.code y_MO_readyTask b_MO_readyTask 2 (some .int) ∈ vw_W := vw_t 1010 (by decide +kernel) (by decide +kernel)
abbrev r_MO_readyTask : Room := { frames := 0, cells := 0, slots := 0, locals := 0 }
abbrev b_MO_goesAhead : ByteArray := prog_13_method_22_code
abbrev y_MO_goesAhead : MethodName := ⟨"ServerDeskModel", "goesAhead", "()Z"⟩
def q_MO_goesAhead : List (Nat × Instr × Nat) := [(0, .aload_n 0, 1), (1, .getfield 135, 3), (4, .iconst 3, 1), (5, .if_icmp .ne 17, 3), (8, .aload_n 0, 1), (9, .iconst 1, 1), (10, .invokevirtual 162, 3), (13, .ifCond .le 7, 3), (16, .iconst 1, 1), (17, .goto 4, 3), (20, .iconst 0, 1), (21, .ireturn, 1), (22, .aload_n 0, 1), (23, .getfield 135, 3), (26, .ifCond .eq 14, 3), (29, .aload_n 0, 1), (30, .getfield 138, 3), (33, .ifCond .le 7, 3), (36, .iconst 1, 1), (37, .goto 4, 3), (40, .iconst 0, 1), (41, .ireturn, 1)]
def i_MO_goesAhead : Nat → Option (Instr × Nat) := am_find q_MO_goesAhead
theorem d_MO_goesAhead_0 : decode b_MO_goesAhead 0 = .ok (.aload_n 0, 1) := by decide +kernel
theorem d_MO_goesAhead_1 : decode b_MO_goesAhead 1 = .ok (.getfield 135, 3) := by decide +kernel
theorem d_MO_goesAhead_4 : decode b_MO_goesAhead 4 = .ok (.iconst 3, 1) := by decide +kernel
theorem d_MO_goesAhead_5 : decode b_MO_goesAhead 5 = .ok (.if_icmp .ne 17, 3) := by decide +kernel
theorem d_MO_goesAhead_8 : decode b_MO_goesAhead 8 = .ok (.aload_n 0, 1) := by decide +kernel
theorem d_MO_goesAhead_9 : decode b_MO_goesAhead 9 = .ok (.iconst 1, 1) := by decide +kernel
theorem d_MO_goesAhead_10 : decode b_MO_goesAhead 10 = .ok (.invokevirtual 162, 3) := by decide +kernel
theorem d_MO_goesAhead_13 : decode b_MO_goesAhead 13 = .ok (.ifCond .le 7, 3) := by decide +kernel
theorem d_MO_goesAhead_16 : decode b_MO_goesAhead 16 = .ok (.iconst 1, 1) := by decide +kernel
theorem d_MO_goesAhead_17 : decode b_MO_goesAhead 17 = .ok (.goto 4, 3) := by decide +kernel
theorem d_MO_goesAhead_20 : decode b_MO_goesAhead 20 = .ok (.iconst 0, 1) := by decide +kernel
theorem d_MO_goesAhead_21 : decode b_MO_goesAhead 21 = .ok (.ireturn, 1) := by decide +kernel
theorem d_MO_goesAhead_22 : decode b_MO_goesAhead 22 = .ok (.aload_n 0, 1) := by decide +kernel
theorem d_MO_goesAhead_23 : decode b_MO_goesAhead 23 = .ok (.getfield 135, 3) := by decide +kernel
theorem d_MO_goesAhead_26 : decode b_MO_goesAhead 26 = .ok (.ifCond .eq 14, 3) := by decide +kernel
theorem d_MO_goesAhead_29 : decode b_MO_goesAhead 29 = .ok (.aload_n 0, 1) := by decide +kernel
theorem d_MO_goesAhead_30 : decode b_MO_goesAhead 30 = .ok (.getfield 138, 3) := by decide +kernel
theorem d_MO_goesAhead_33 : decode b_MO_goesAhead 33 = .ok (.ifCond .le 7, 3) := by decide +kernel
theorem d_MO_goesAhead_36 : decode b_MO_goesAhead 36 = .ok (.iconst 1, 1) := by decide +kernel
theorem d_MO_goesAhead_37 : decode b_MO_goesAhead 37 = .ok (.goto 4, 3) := by decide +kernel
theorem d_MO_goesAhead_40 : decode b_MO_goesAhead 40 = .ok (.iconst 0, 1) := by decide +kernel
theorem d_MO_goesAhead_41 : decode b_MO_goesAhead 41 = .ok (.ireturn, 1) := by decide +kernel
theorem d_MO_goesAhead : ∀ z ∈ q_MO_goesAhead, decode b_MO_goesAhead z.1 = .ok z.2 := List.forall_mem_cons.mpr ⟨d_MO_goesAhead_0, List.forall_mem_cons.mpr ⟨d_MO_goesAhead_1, List.forall_mem_cons.mpr ⟨d_MO_goesAhead_4, List.forall_mem_cons.mpr ⟨d_MO_goesAhead_5, List.forall_mem_cons.mpr ⟨d_MO_goesAhead_8, List.forall_mem_cons.mpr ⟨d_MO_goesAhead_9, List.forall_mem_cons.mpr ⟨d_MO_goesAhead_10, List.forall_mem_cons.mpr ⟨d_MO_goesAhead_13, List.forall_mem_cons.mpr ⟨d_MO_goesAhead_16, List.forall_mem_cons.mpr ⟨d_MO_goesAhead_17, List.forall_mem_cons.mpr ⟨d_MO_goesAhead_20, List.forall_mem_cons.mpr ⟨d_MO_goesAhead_21, List.forall_mem_cons.mpr ⟨d_MO_goesAhead_22, List.forall_mem_cons.mpr ⟨d_MO_goesAhead_23, List.forall_mem_cons.mpr ⟨d_MO_goesAhead_26, List.forall_mem_cons.mpr ⟨d_MO_goesAhead_29, List.forall_mem_cons.mpr ⟨d_MO_goesAhead_30, List.forall_mem_cons.mpr ⟨d_MO_goesAhead_33, List.forall_mem_cons.mpr ⟨d_MO_goesAhead_36, List.forall_mem_cons.mpr ⟨d_MO_goesAhead_37, List.forall_mem_cons.mpr ⟨d_MO_goesAhead_40, List.forall_mem_cons.mpr ⟨d_MO_goesAhead_41, fun _ h => absurd h List.not_mem_nil⟩⟩⟩⟩⟩⟩⟩⟩⟩⟩⟩⟩⟩⟩⟩⟩⟩⟩⟩⟩⟩⟩
theorem i_MO_goesAhead_ok : ∀ pc i n, i_MO_goesAhead pc = some (i, n) → decode b_MO_goesAhead pc = .ok (i, n) := fun pc i n h => d_MO_goesAhead (pc, i, n) (am_find_mem h)
theorem i_MO_goesAhead_0 : i_MO_goesAhead 0 = some (.aload_n 0, 1) := rfl
theorem i_MO_goesAhead_1 : i_MO_goesAhead 1 = some (.getfield 135, 3) := rfl
theorem i_MO_goesAhead_4 : i_MO_goesAhead 4 = some (.iconst 3, 1) := rfl
theorem i_MO_goesAhead_5 : i_MO_goesAhead 5 = some (.if_icmp .ne 17, 3) := rfl
theorem i_MO_goesAhead_8 : i_MO_goesAhead 8 = some (.aload_n 0, 1) := rfl
theorem i_MO_goesAhead_9 : i_MO_goesAhead 9 = some (.iconst 1, 1) := rfl
theorem i_MO_goesAhead_10 : i_MO_goesAhead 10 = some (.invokevirtual 162, 3) := rfl
theorem i_MO_goesAhead_13 : i_MO_goesAhead 13 = some (.ifCond .le 7, 3) := rfl
theorem i_MO_goesAhead_16 : i_MO_goesAhead 16 = some (.iconst 1, 1) := rfl
theorem i_MO_goesAhead_17 : i_MO_goesAhead 17 = some (.goto 4, 3) := rfl
theorem i_MO_goesAhead_20 : i_MO_goesAhead 20 = some (.iconst 0, 1) := rfl
theorem i_MO_goesAhead_21 : i_MO_goesAhead 21 = some (.ireturn, 1) := rfl
theorem i_MO_goesAhead_22 : i_MO_goesAhead 22 = some (.aload_n 0, 1) := rfl
theorem i_MO_goesAhead_23 : i_MO_goesAhead 23 = some (.getfield 135, 3) := rfl
theorem i_MO_goesAhead_26 : i_MO_goesAhead 26 = some (.ifCond .eq 14, 3) := rfl
theorem i_MO_goesAhead_29 : i_MO_goesAhead 29 = some (.aload_n 0, 1) := rfl
theorem i_MO_goesAhead_30 : i_MO_goesAhead 30 = some (.getfield 138, 3) := rfl
theorem i_MO_goesAhead_33 : i_MO_goesAhead 33 = some (.ifCond .le 7, 3) := rfl
theorem i_MO_goesAhead_36 : i_MO_goesAhead 36 = some (.iconst 1, 1) := rfl
theorem i_MO_goesAhead_37 : i_MO_goesAhead 37 = some (.goto 4, 3) := rfl
theorem i_MO_goesAhead_40 : i_MO_goesAhead 40 = some (.iconst 0, 1) := rfl
theorem i_MO_goesAhead_41 : i_MO_goesAhead 41 = some (.ireturn, 1) := rfl
abbrev w_MO_goesAhead : List Jvm.Cond := Jvm.Cond.code y_MO_goesAhead b_MO_goesAhead 1 (some .boolean) :: vw_W
theorem c_MO_goesAhead : Jvm.Cond.code y_MO_goesAhead b_MO_goesAhead 1 (some .boolean) ∈ vw_W := vw_t 1014 (by decide +kernel) (by decide +kernel)
abbrev r_MO_goesAhead : Room := { frames := 5, cells := 0, slots := 0, locals := 120 }
abbrev b_MO_slackNow : ByteArray := prog_13_method_18_code
abbrev y_MO_slackNow : MethodName := ⟨"ServerDeskModel", "slackNow", "(Z)I"⟩
def q_MO_slackNow : List (Nat × Instr × Nat) := [(0, .sipush 1000, 3), (3, .istore_n 2, 1), (4, .iconst 0, 1), (5, .istore_n 3, 1), (6, .iload_n 3, 1), (7, .aload_n 0, 1), (8, .getfield 96, 3), (11, .if_icmp .ge 30, 3), (14, .aload_n 0, 1), (15, .iload_n 3, 1), (16, .iload_n 1, 1), (17, .invokevirtual 151, 3), (20, .istore 4, 2), (22, .iload 4, 2), (24, .iload_n 2, 1), (25, .if_icmp .ge 8, 3), (28, .iload 4, 2), (30, .goto 4, 3), (33, .iload_n 2, 1), (34, .istore_n 2, 1), (35, .iinc 3 1, 3), (38, .goto (-32), 3), (41, .iload_n 2, 1), (42, .ireturn, 1)]
def i_MO_slackNow : Nat → Option (Instr × Nat) := am_find q_MO_slackNow
theorem d_MO_slackNow_0 : decode b_MO_slackNow 0 = .ok (.sipush 1000, 3) := by decide +kernel
theorem d_MO_slackNow_3 : decode b_MO_slackNow 3 = .ok (.istore_n 2, 1) := by decide +kernel
theorem d_MO_slackNow_4 : decode b_MO_slackNow 4 = .ok (.iconst 0, 1) := by decide +kernel
theorem d_MO_slackNow_5 : decode b_MO_slackNow 5 = .ok (.istore_n 3, 1) := by decide +kernel
theorem d_MO_slackNow_6 : decode b_MO_slackNow 6 = .ok (.iload_n 3, 1) := by decide +kernel
theorem d_MO_slackNow_7 : decode b_MO_slackNow 7 = .ok (.aload_n 0, 1) := by decide +kernel
theorem d_MO_slackNow_8 : decode b_MO_slackNow 8 = .ok (.getfield 96, 3) := by decide +kernel
theorem d_MO_slackNow_11 : decode b_MO_slackNow 11 = .ok (.if_icmp .ge 30, 3) := by decide +kernel
theorem d_MO_slackNow_14 : decode b_MO_slackNow 14 = .ok (.aload_n 0, 1) := by decide +kernel
theorem d_MO_slackNow_15 : decode b_MO_slackNow 15 = .ok (.iload_n 3, 1) := by decide +kernel
theorem d_MO_slackNow_16 : decode b_MO_slackNow 16 = .ok (.iload_n 1, 1) := by decide +kernel
theorem d_MO_slackNow_17 : decode b_MO_slackNow 17 = .ok (.invokevirtual 151, 3) := by decide +kernel
theorem d_MO_slackNow_20 : decode b_MO_slackNow 20 = .ok (.istore 4, 2) := by decide +kernel
theorem d_MO_slackNow_22 : decode b_MO_slackNow 22 = .ok (.iload 4, 2) := by decide +kernel
theorem d_MO_slackNow_24 : decode b_MO_slackNow 24 = .ok (.iload_n 2, 1) := by decide +kernel
theorem d_MO_slackNow_25 : decode b_MO_slackNow 25 = .ok (.if_icmp .ge 8, 3) := by decide +kernel
theorem d_MO_slackNow_28 : decode b_MO_slackNow 28 = .ok (.iload 4, 2) := by decide +kernel
theorem d_MO_slackNow_30 : decode b_MO_slackNow 30 = .ok (.goto 4, 3) := by decide +kernel
theorem d_MO_slackNow_33 : decode b_MO_slackNow 33 = .ok (.iload_n 2, 1) := by decide +kernel
theorem d_MO_slackNow_34 : decode b_MO_slackNow 34 = .ok (.istore_n 2, 1) := by decide +kernel
theorem d_MO_slackNow_35 : decode b_MO_slackNow 35 = .ok (.iinc 3 1, 3) := by decide +kernel
theorem d_MO_slackNow_38 : decode b_MO_slackNow 38 = .ok (.goto (-32), 3) := by decide +kernel
theorem d_MO_slackNow_41 : decode b_MO_slackNow 41 = .ok (.iload_n 2, 1) := by decide +kernel
theorem d_MO_slackNow_42 : decode b_MO_slackNow 42 = .ok (.ireturn, 1) := by decide +kernel
theorem d_MO_slackNow : ∀ z ∈ q_MO_slackNow, decode b_MO_slackNow z.1 = .ok z.2 := List.forall_mem_cons.mpr ⟨d_MO_slackNow_0, List.forall_mem_cons.mpr ⟨d_MO_slackNow_3, List.forall_mem_cons.mpr ⟨d_MO_slackNow_4, List.forall_mem_cons.mpr ⟨d_MO_slackNow_5, List.forall_mem_cons.mpr ⟨d_MO_slackNow_6, List.forall_mem_cons.mpr ⟨d_MO_slackNow_7, List.forall_mem_cons.mpr ⟨d_MO_slackNow_8, List.forall_mem_cons.mpr ⟨d_MO_slackNow_11, List.forall_mem_cons.mpr ⟨d_MO_slackNow_14, List.forall_mem_cons.mpr ⟨d_MO_slackNow_15, List.forall_mem_cons.mpr ⟨d_MO_slackNow_16, List.forall_mem_cons.mpr ⟨d_MO_slackNow_17, List.forall_mem_cons.mpr ⟨d_MO_slackNow_20, List.forall_mem_cons.mpr ⟨d_MO_slackNow_22, List.forall_mem_cons.mpr ⟨d_MO_slackNow_24, List.forall_mem_cons.mpr ⟨d_MO_slackNow_25, List.forall_mem_cons.mpr ⟨d_MO_slackNow_28, List.forall_mem_cons.mpr ⟨d_MO_slackNow_30, List.forall_mem_cons.mpr ⟨d_MO_slackNow_33, List.forall_mem_cons.mpr ⟨d_MO_slackNow_34, List.forall_mem_cons.mpr ⟨d_MO_slackNow_35, List.forall_mem_cons.mpr ⟨d_MO_slackNow_38, List.forall_mem_cons.mpr ⟨d_MO_slackNow_41, List.forall_mem_cons.mpr ⟨d_MO_slackNow_42, fun _ h => absurd h List.not_mem_nil⟩⟩⟩⟩⟩⟩⟩⟩⟩⟩⟩⟩⟩⟩⟩⟩⟩⟩⟩⟩⟩⟩⟩⟩
theorem i_MO_slackNow_ok : ∀ pc i n, i_MO_slackNow pc = some (i, n) → decode b_MO_slackNow pc = .ok (i, n) := fun pc i n h => d_MO_slackNow (pc, i, n) (am_find_mem h)
theorem i_MO_slackNow_0 : i_MO_slackNow 0 = some (.sipush 1000, 3) := rfl
theorem i_MO_slackNow_3 : i_MO_slackNow 3 = some (.istore_n 2, 1) := rfl
theorem i_MO_slackNow_4 : i_MO_slackNow 4 = some (.iconst 0, 1) := rfl
theorem i_MO_slackNow_5 : i_MO_slackNow 5 = some (.istore_n 3, 1) := rfl
theorem i_MO_slackNow_6 : i_MO_slackNow 6 = some (.iload_n 3, 1) := rfl
theorem i_MO_slackNow_7 : i_MO_slackNow 7 = some (.aload_n 0, 1) := rfl
theorem i_MO_slackNow_8 : i_MO_slackNow 8 = some (.getfield 96, 3) := rfl
theorem i_MO_slackNow_11 : i_MO_slackNow 11 = some (.if_icmp .ge 30, 3) := rfl
theorem i_MO_slackNow_14 : i_MO_slackNow 14 = some (.aload_n 0, 1) := rfl
theorem i_MO_slackNow_15 : i_MO_slackNow 15 = some (.iload_n 3, 1) := rfl
theorem i_MO_slackNow_16 : i_MO_slackNow 16 = some (.iload_n 1, 1) := rfl
theorem i_MO_slackNow_17 : i_MO_slackNow 17 = some (.invokevirtual 151, 3) := rfl
theorem i_MO_slackNow_20 : i_MO_slackNow 20 = some (.istore 4, 2) := rfl
theorem i_MO_slackNow_22 : i_MO_slackNow 22 = some (.iload 4, 2) := rfl
theorem i_MO_slackNow_24 : i_MO_slackNow 24 = some (.iload_n 2, 1) := rfl
theorem i_MO_slackNow_25 : i_MO_slackNow 25 = some (.if_icmp .ge 8, 3) := rfl
theorem i_MO_slackNow_28 : i_MO_slackNow 28 = some (.iload 4, 2) := rfl
theorem i_MO_slackNow_30 : i_MO_slackNow 30 = some (.goto 4, 3) := rfl
theorem i_MO_slackNow_33 : i_MO_slackNow 33 = some (.iload_n 2, 1) := rfl
theorem i_MO_slackNow_34 : i_MO_slackNow 34 = some (.istore_n 2, 1) := rfl
theorem i_MO_slackNow_35 : i_MO_slackNow 35 = some (.iinc 3 1, 3) := rfl
theorem i_MO_slackNow_38 : i_MO_slackNow 38 = some (.goto (-32), 3) := rfl
theorem i_MO_slackNow_41 : i_MO_slackNow 41 = some (.iload_n 2, 1) := rfl
theorem i_MO_slackNow_42 : i_MO_slackNow 42 = some (.ireturn, 1) := rfl
abbrev w_MO_slackNow : List Jvm.Cond := Jvm.Cond.code y_MO_slackNow b_MO_slackNow 5 (some .int) :: vw_W
theorem c_MO_slackNow : Jvm.Cond.code y_MO_slackNow b_MO_slackNow 5 (some .int) ∈ vw_W := vw_t 1018 (by decide +kernel) (by decide +kernel)
abbrev r_MO_slackNow : Room := { frames := 4, cells := 0, slots := 0, locals := 96 }
abbrev b_MO_slackOf : ByteArray := prog_13_method_19_code
abbrev y_MO_slackOf : MethodName := ⟨"ServerDeskModel", "slackOf", "(IZ)I"⟩
def q_MO_slackOf : List (Nat × Instr × Nat) := [(0, .aload_n 0, 1), (1, .getfield 22, 3), (4, .iload_n 1, 1), (5, .iaload, 1), (6, .istore_n 3, 1), (7, .iconst 0, 1), (8, .istore 4, 2), (10, .iconst 0, 1), (11, .istore 5, 2), (13, .iload 5, 2), (15, .iload_n 1, 1), (16, .if_icmp .gt 26, 3), (19, .iload 4, 2), (21, .aload_n 0, 1), (22, .getfield 50, 3), (25, .aload_n 0, 1), (26, .getfield 22, 3), (29, .iload 5, 2), (31, .iaload, 1), (32, .iaload, 1), (33, .iadd, 1), (34, .istore 4, 2), (36, .iinc 5 1, 3), (39, .goto (-26), 3), (42, .aload_n 0, 1), (43, .getfield 50, 3), (46, .iload_n 3, 1), (47, .iaload, 1), (48, .ifCond .le 12, 3), (51, .aload_n 0, 1), (52, .getfield 53, 3), (55, .iload_n 3, 1), (56, .iaload, 1), (57, .goto 16, 3), (60, .aload_n 0, 1), (61, .iload_n 3, 1), (62, .iload_n 2, 1), (63, .invokevirtual 155, 3), (66, .aload_n 0, 1), (67, .getfield 19, 3), (70, .iload_n 3, 1), (71, .iaload, 1), (72, .iadd, 1), (73, .istore 5, 2), (75, .iload 4, 2), (77, .ineg, 1), (78, .istore 6, 2), (80, .aload_n 0, 1), (81, .getfield 132, 3), (84, .istore 7, 2), (86, .iload 7, 2), (88, .iload 5, 2), (90, .if_icmp .ge 102, 3), (93, .iconst 0, 1), (94, .istore 8, 2), (96, .iload 8, 2), (98, .iload_n 1, 1), (99, .if_icmp .gt 57, 3), (102, .aload_n 0, 1), (103, .aload_n 0, 1), (104, .getfield 22, 3), (107, .iload 8, 2), (109, .iaload, 1), (110, .iload 7, 2), (112, .invokevirtual 147, 3), (115, .ifCond .eq 35, 3), (118, .iload 7, 2), (120, .aload_n 0, 1), (121, .getfield 132, 3), (124, .if_icmp .gt 7, 3), (127, .iload_n 2, 1), (128, .ifCond .ne 22, 3), (131, .iload 4, 2), (133, .aload_n 0, 1), (134, .aload_n 0, 1), (135, .getfield 22, 3), (138, .iload 8, 2), (140, .iaload, 1), (141, .iload 7, 2), (143, .iload_n 2, 1), (144, .invokevirtual 158, 3), (147, .iadd, 1), (148, .istore 4, 2), (150, .iinc 8 1, 3), (153, .goto (-57), 3), (156, .iload 7, 2), (158, .iconst 1, 1), (159, .iadd, 1), (160, .aload_n 0, 1), (161, .getfield 132, 3), (164, .isub, 1), (165, .iload 4, 2), (167, .isub, 1), (168, .istore 8, 2), (170, .iload 8, 2), (172, .iload 6, 2), (174, .if_icmp .le 8, 3), (177, .iload 8, 2), (179, .goto 5, 3), (182, .iload 6, 2), (184, .istore 6, 2), (186, .iinc 7 1, 3), (189, .goto (-103), 3), (192, .iload 6, 2), (194, .ifCond .ge 7, 3), (197, .iconst 0, 1), (198, .goto 5, 3), (201, .iload 6, 2), (203, .ireturn, 1)]
def i_MO_slackOf : Nat → Option (Instr × Nat) := am_find q_MO_slackOf
theorem d_MO_slackOf_0 : decode b_MO_slackOf 0 = .ok (.aload_n 0, 1) := by decide +kernel
theorem d_MO_slackOf_1 : decode b_MO_slackOf 1 = .ok (.getfield 22, 3) := by decide +kernel
theorem d_MO_slackOf_4 : decode b_MO_slackOf 4 = .ok (.iload_n 1, 1) := by decide +kernel
theorem d_MO_slackOf_5 : decode b_MO_slackOf 5 = .ok (.iaload, 1) := by decide +kernel
theorem d_MO_slackOf_6 : decode b_MO_slackOf 6 = .ok (.istore_n 3, 1) := by decide +kernel
theorem d_MO_slackOf_7 : decode b_MO_slackOf 7 = .ok (.iconst 0, 1) := by decide +kernel
theorem d_MO_slackOf_8 : decode b_MO_slackOf 8 = .ok (.istore 4, 2) := by decide +kernel
theorem d_MO_slackOf_10 : decode b_MO_slackOf 10 = .ok (.iconst 0, 1) := by decide +kernel
theorem d_MO_slackOf_11 : decode b_MO_slackOf 11 = .ok (.istore 5, 2) := by decide +kernel
theorem d_MO_slackOf_13 : decode b_MO_slackOf 13 = .ok (.iload 5, 2) := by decide +kernel
theorem d_MO_slackOf_15 : decode b_MO_slackOf 15 = .ok (.iload_n 1, 1) := by decide +kernel
theorem d_MO_slackOf_16 : decode b_MO_slackOf 16 = .ok (.if_icmp .gt 26, 3) := by decide +kernel
theorem d_MO_slackOf_19 : decode b_MO_slackOf 19 = .ok (.iload 4, 2) := by decide +kernel
theorem d_MO_slackOf_21 : decode b_MO_slackOf 21 = .ok (.aload_n 0, 1) := by decide +kernel
theorem d_MO_slackOf_22 : decode b_MO_slackOf 22 = .ok (.getfield 50, 3) := by decide +kernel
theorem d_MO_slackOf_25 : decode b_MO_slackOf 25 = .ok (.aload_n 0, 1) := by decide +kernel
theorem d_MO_slackOf_26 : decode b_MO_slackOf 26 = .ok (.getfield 22, 3) := by decide +kernel
theorem d_MO_slackOf_29 : decode b_MO_slackOf 29 = .ok (.iload 5, 2) := by decide +kernel
theorem d_MO_slackOf_31 : decode b_MO_slackOf 31 = .ok (.iaload, 1) := by decide +kernel
theorem d_MO_slackOf_32 : decode b_MO_slackOf 32 = .ok (.iaload, 1) := by decide +kernel
theorem d_MO_slackOf_33 : decode b_MO_slackOf 33 = .ok (.iadd, 1) := by decide +kernel
theorem d_MO_slackOf_34 : decode b_MO_slackOf 34 = .ok (.istore 4, 2) := by decide +kernel
theorem d_MO_slackOf_36 : decode b_MO_slackOf 36 = .ok (.iinc 5 1, 3) := by decide +kernel
theorem d_MO_slackOf_39 : decode b_MO_slackOf 39 = .ok (.goto (-26), 3) := by decide +kernel
theorem d_MO_slackOf_42 : decode b_MO_slackOf 42 = .ok (.aload_n 0, 1) := by decide +kernel
theorem d_MO_slackOf_43 : decode b_MO_slackOf 43 = .ok (.getfield 50, 3) := by decide +kernel
theorem d_MO_slackOf_46 : decode b_MO_slackOf 46 = .ok (.iload_n 3, 1) := by decide +kernel
theorem d_MO_slackOf_47 : decode b_MO_slackOf 47 = .ok (.iaload, 1) := by decide +kernel
theorem d_MO_slackOf_48 : decode b_MO_slackOf 48 = .ok (.ifCond .le 12, 3) := by decide +kernel
theorem d_MO_slackOf_51 : decode b_MO_slackOf 51 = .ok (.aload_n 0, 1) := by decide +kernel
theorem d_MO_slackOf_52 : decode b_MO_slackOf 52 = .ok (.getfield 53, 3) := by decide +kernel
theorem d_MO_slackOf_55 : decode b_MO_slackOf 55 = .ok (.iload_n 3, 1) := by decide +kernel
theorem d_MO_slackOf_56 : decode b_MO_slackOf 56 = .ok (.iaload, 1) := by decide +kernel
theorem d_MO_slackOf_57 : decode b_MO_slackOf 57 = .ok (.goto 16, 3) := by decide +kernel
theorem d_MO_slackOf_60 : decode b_MO_slackOf 60 = .ok (.aload_n 0, 1) := by decide +kernel
theorem d_MO_slackOf_61 : decode b_MO_slackOf 61 = .ok (.iload_n 3, 1) := by decide +kernel
theorem d_MO_slackOf_62 : decode b_MO_slackOf 62 = .ok (.iload_n 2, 1) := by decide +kernel
theorem d_MO_slackOf_63 : decode b_MO_slackOf 63 = .ok (.invokevirtual 155, 3) := by decide +kernel
theorem d_MO_slackOf_66 : decode b_MO_slackOf 66 = .ok (.aload_n 0, 1) := by decide +kernel
theorem d_MO_slackOf_67 : decode b_MO_slackOf 67 = .ok (.getfield 19, 3) := by decide +kernel
theorem d_MO_slackOf_70 : decode b_MO_slackOf 70 = .ok (.iload_n 3, 1) := by decide +kernel
theorem d_MO_slackOf_71 : decode b_MO_slackOf 71 = .ok (.iaload, 1) := by decide +kernel
theorem d_MO_slackOf_72 : decode b_MO_slackOf 72 = .ok (.iadd, 1) := by decide +kernel
theorem d_MO_slackOf_73 : decode b_MO_slackOf 73 = .ok (.istore 5, 2) := by decide +kernel
theorem d_MO_slackOf_75 : decode b_MO_slackOf 75 = .ok (.iload 4, 2) := by decide +kernel
theorem d_MO_slackOf_77 : decode b_MO_slackOf 77 = .ok (.ineg, 1) := by decide +kernel
theorem d_MO_slackOf_78 : decode b_MO_slackOf 78 = .ok (.istore 6, 2) := by decide +kernel
theorem d_MO_slackOf_80 : decode b_MO_slackOf 80 = .ok (.aload_n 0, 1) := by decide +kernel
theorem d_MO_slackOf_81 : decode b_MO_slackOf 81 = .ok (.getfield 132, 3) := by decide +kernel
theorem d_MO_slackOf_84 : decode b_MO_slackOf 84 = .ok (.istore 7, 2) := by decide +kernel
theorem d_MO_slackOf_86 : decode b_MO_slackOf 86 = .ok (.iload 7, 2) := by decide +kernel
theorem d_MO_slackOf_88 : decode b_MO_slackOf 88 = .ok (.iload 5, 2) := by decide +kernel
theorem d_MO_slackOf_90 : decode b_MO_slackOf 90 = .ok (.if_icmp .ge 102, 3) := by decide +kernel
theorem d_MO_slackOf_93 : decode b_MO_slackOf 93 = .ok (.iconst 0, 1) := by decide +kernel
theorem d_MO_slackOf_94 : decode b_MO_slackOf 94 = .ok (.istore 8, 2) := by decide +kernel
theorem d_MO_slackOf_96 : decode b_MO_slackOf 96 = .ok (.iload 8, 2) := by decide +kernel
theorem d_MO_slackOf_98 : decode b_MO_slackOf 98 = .ok (.iload_n 1, 1) := by decide +kernel
theorem d_MO_slackOf_99 : decode b_MO_slackOf 99 = .ok (.if_icmp .gt 57, 3) := by decide +kernel
theorem d_MO_slackOf_102 : decode b_MO_slackOf 102 = .ok (.aload_n 0, 1) := by decide +kernel
theorem d_MO_slackOf_103 : decode b_MO_slackOf 103 = .ok (.aload_n 0, 1) := by decide +kernel
theorem d_MO_slackOf_104 : decode b_MO_slackOf 104 = .ok (.getfield 22, 3) := by decide +kernel
theorem d_MO_slackOf_107 : decode b_MO_slackOf 107 = .ok (.iload 8, 2) := by decide +kernel
theorem d_MO_slackOf_109 : decode b_MO_slackOf 109 = .ok (.iaload, 1) := by decide +kernel
theorem d_MO_slackOf_110 : decode b_MO_slackOf 110 = .ok (.iload 7, 2) := by decide +kernel
theorem d_MO_slackOf_112 : decode b_MO_slackOf 112 = .ok (.invokevirtual 147, 3) := by decide +kernel
theorem d_MO_slackOf_115 : decode b_MO_slackOf 115 = .ok (.ifCond .eq 35, 3) := by decide +kernel
theorem d_MO_slackOf_118 : decode b_MO_slackOf 118 = .ok (.iload 7, 2) := by decide +kernel
theorem d_MO_slackOf_120 : decode b_MO_slackOf 120 = .ok (.aload_n 0, 1) := by decide +kernel
theorem d_MO_slackOf_121 : decode b_MO_slackOf 121 = .ok (.getfield 132, 3) := by decide +kernel
theorem d_MO_slackOf_124 : decode b_MO_slackOf 124 = .ok (.if_icmp .gt 7, 3) := by decide +kernel
theorem d_MO_slackOf_127 : decode b_MO_slackOf 127 = .ok (.iload_n 2, 1) := by decide +kernel
theorem d_MO_slackOf_128 : decode b_MO_slackOf 128 = .ok (.ifCond .ne 22, 3) := by decide +kernel
theorem d_MO_slackOf_131 : decode b_MO_slackOf 131 = .ok (.iload 4, 2) := by decide +kernel
theorem d_MO_slackOf_133 : decode b_MO_slackOf 133 = .ok (.aload_n 0, 1) := by decide +kernel
theorem d_MO_slackOf_134 : decode b_MO_slackOf 134 = .ok (.aload_n 0, 1) := by decide +kernel
theorem d_MO_slackOf_135 : decode b_MO_slackOf 135 = .ok (.getfield 22, 3) := by decide +kernel
theorem d_MO_slackOf_138 : decode b_MO_slackOf 138 = .ok (.iload 8, 2) := by decide +kernel
theorem d_MO_slackOf_140 : decode b_MO_slackOf 140 = .ok (.iaload, 1) := by decide +kernel
theorem d_MO_slackOf_141 : decode b_MO_slackOf 141 = .ok (.iload 7, 2) := by decide +kernel
theorem d_MO_slackOf_143 : decode b_MO_slackOf 143 = .ok (.iload_n 2, 1) := by decide +kernel
theorem d_MO_slackOf_144 : decode b_MO_slackOf 144 = .ok (.invokevirtual 158, 3) := by decide +kernel
theorem d_MO_slackOf_147 : decode b_MO_slackOf 147 = .ok (.iadd, 1) := by decide +kernel
theorem d_MO_slackOf_148 : decode b_MO_slackOf 148 = .ok (.istore 4, 2) := by decide +kernel
theorem d_MO_slackOf_150 : decode b_MO_slackOf 150 = .ok (.iinc 8 1, 3) := by decide +kernel
theorem d_MO_slackOf_153 : decode b_MO_slackOf 153 = .ok (.goto (-57), 3) := by decide +kernel
theorem d_MO_slackOf_156 : decode b_MO_slackOf 156 = .ok (.iload 7, 2) := by decide +kernel
theorem d_MO_slackOf_158 : decode b_MO_slackOf 158 = .ok (.iconst 1, 1) := by decide +kernel
theorem d_MO_slackOf_159 : decode b_MO_slackOf 159 = .ok (.iadd, 1) := by decide +kernel
theorem d_MO_slackOf_160 : decode b_MO_slackOf 160 = .ok (.aload_n 0, 1) := by decide +kernel
theorem d_MO_slackOf_161 : decode b_MO_slackOf 161 = .ok (.getfield 132, 3) := by decide +kernel
theorem d_MO_slackOf_164 : decode b_MO_slackOf 164 = .ok (.isub, 1) := by decide +kernel
theorem d_MO_slackOf_165 : decode b_MO_slackOf 165 = .ok (.iload 4, 2) := by decide +kernel
theorem d_MO_slackOf_167 : decode b_MO_slackOf 167 = .ok (.isub, 1) := by decide +kernel
theorem d_MO_slackOf_168 : decode b_MO_slackOf 168 = .ok (.istore 8, 2) := by decide +kernel
theorem d_MO_slackOf_170 : decode b_MO_slackOf 170 = .ok (.iload 8, 2) := by decide +kernel
theorem d_MO_slackOf_172 : decode b_MO_slackOf 172 = .ok (.iload 6, 2) := by decide +kernel
theorem d_MO_slackOf_174 : decode b_MO_slackOf 174 = .ok (.if_icmp .le 8, 3) := by decide +kernel
theorem d_MO_slackOf_177 : decode b_MO_slackOf 177 = .ok (.iload 8, 2) := by decide +kernel
theorem d_MO_slackOf_179 : decode b_MO_slackOf 179 = .ok (.goto 5, 3) := by decide +kernel
theorem d_MO_slackOf_182 : decode b_MO_slackOf 182 = .ok (.iload 6, 2) := by decide +kernel
theorem d_MO_slackOf_184 : decode b_MO_slackOf 184 = .ok (.istore 6, 2) := by decide +kernel
theorem d_MO_slackOf_186 : decode b_MO_slackOf 186 = .ok (.iinc 7 1, 3) := by decide +kernel
theorem d_MO_slackOf_189 : decode b_MO_slackOf 189 = .ok (.goto (-103), 3) := by decide +kernel
theorem d_MO_slackOf_192 : decode b_MO_slackOf 192 = .ok (.iload 6, 2) := by decide +kernel
theorem d_MO_slackOf_194 : decode b_MO_slackOf 194 = .ok (.ifCond .ge 7, 3) := by decide +kernel
theorem d_MO_slackOf_197 : decode b_MO_slackOf 197 = .ok (.iconst 0, 1) := by decide +kernel
theorem d_MO_slackOf_198 : decode b_MO_slackOf 198 = .ok (.goto 5, 3) := by decide +kernel
theorem d_MO_slackOf_201 : decode b_MO_slackOf 201 = .ok (.iload 6, 2) := by decide +kernel
theorem d_MO_slackOf_203 : decode b_MO_slackOf 203 = .ok (.ireturn, 1) := by decide +kernel
theorem d_MO_slackOf : ∀ z ∈ q_MO_slackOf, decode b_MO_slackOf z.1 = .ok z.2 := List.forall_mem_cons.mpr ⟨d_MO_slackOf_0, List.forall_mem_cons.mpr ⟨d_MO_slackOf_1, List.forall_mem_cons.mpr ⟨d_MO_slackOf_4, List.forall_mem_cons.mpr ⟨d_MO_slackOf_5, List.forall_mem_cons.mpr ⟨d_MO_slackOf_6, List.forall_mem_cons.mpr ⟨d_MO_slackOf_7, List.forall_mem_cons.mpr ⟨d_MO_slackOf_8, List.forall_mem_cons.mpr ⟨d_MO_slackOf_10, List.forall_mem_cons.mpr ⟨d_MO_slackOf_11, List.forall_mem_cons.mpr ⟨d_MO_slackOf_13, List.forall_mem_cons.mpr ⟨d_MO_slackOf_15, List.forall_mem_cons.mpr ⟨d_MO_slackOf_16, List.forall_mem_cons.mpr ⟨d_MO_slackOf_19, List.forall_mem_cons.mpr ⟨d_MO_slackOf_21, List.forall_mem_cons.mpr ⟨d_MO_slackOf_22, List.forall_mem_cons.mpr ⟨d_MO_slackOf_25, List.forall_mem_cons.mpr ⟨d_MO_slackOf_26, List.forall_mem_cons.mpr ⟨d_MO_slackOf_29, List.forall_mem_cons.mpr ⟨d_MO_slackOf_31, List.forall_mem_cons.mpr ⟨d_MO_slackOf_32, List.forall_mem_cons.mpr ⟨d_MO_slackOf_33, List.forall_mem_cons.mpr ⟨d_MO_slackOf_34, List.forall_mem_cons.mpr ⟨d_MO_slackOf_36, List.forall_mem_cons.mpr ⟨d_MO_slackOf_39, List.forall_mem_cons.mpr ⟨d_MO_slackOf_42, List.forall_mem_cons.mpr ⟨d_MO_slackOf_43, List.forall_mem_cons.mpr ⟨d_MO_slackOf_46, List.forall_mem_cons.mpr ⟨d_MO_slackOf_47, List.forall_mem_cons.mpr ⟨d_MO_slackOf_48, List.forall_mem_cons.mpr ⟨d_MO_slackOf_51, List.forall_mem_cons.mpr ⟨d_MO_slackOf_52, List.forall_mem_cons.mpr ⟨d_MO_slackOf_55, List.forall_mem_cons.mpr ⟨d_MO_slackOf_56, List.forall_mem_cons.mpr ⟨d_MO_slackOf_57, List.forall_mem_cons.mpr ⟨d_MO_slackOf_60, List.forall_mem_cons.mpr ⟨d_MO_slackOf_61, List.forall_mem_cons.mpr ⟨d_MO_slackOf_62, List.forall_mem_cons.mpr ⟨d_MO_slackOf_63, List.forall_mem_cons.mpr ⟨d_MO_slackOf_66, List.forall_mem_cons.mpr ⟨d_MO_slackOf_67, List.forall_mem_cons.mpr ⟨d_MO_slackOf_70, List.forall_mem_cons.mpr ⟨d_MO_slackOf_71, List.forall_mem_cons.mpr ⟨d_MO_slackOf_72, List.forall_mem_cons.mpr ⟨d_MO_slackOf_73, List.forall_mem_cons.mpr ⟨d_MO_slackOf_75, List.forall_mem_cons.mpr ⟨d_MO_slackOf_77, List.forall_mem_cons.mpr ⟨d_MO_slackOf_78, List.forall_mem_cons.mpr ⟨d_MO_slackOf_80, List.forall_mem_cons.mpr ⟨d_MO_slackOf_81, List.forall_mem_cons.mpr ⟨d_MO_slackOf_84, List.forall_mem_cons.mpr ⟨d_MO_slackOf_86, List.forall_mem_cons.mpr ⟨d_MO_slackOf_88, List.forall_mem_cons.mpr ⟨d_MO_slackOf_90, List.forall_mem_cons.mpr ⟨d_MO_slackOf_93, List.forall_mem_cons.mpr ⟨d_MO_slackOf_94, List.forall_mem_cons.mpr ⟨d_MO_slackOf_96, List.forall_mem_cons.mpr ⟨d_MO_slackOf_98, List.forall_mem_cons.mpr ⟨d_MO_slackOf_99, List.forall_mem_cons.mpr ⟨d_MO_slackOf_102, List.forall_mem_cons.mpr ⟨d_MO_slackOf_103, List.forall_mem_cons.mpr ⟨d_MO_slackOf_104, List.forall_mem_cons.mpr ⟨d_MO_slackOf_107, List.forall_mem_cons.mpr ⟨d_MO_slackOf_109, List.forall_mem_cons.mpr ⟨d_MO_slackOf_110, List.forall_mem_cons.mpr ⟨d_MO_slackOf_112, List.forall_mem_cons.mpr ⟨d_MO_slackOf_115, List.forall_mem_cons.mpr ⟨d_MO_slackOf_118, List.forall_mem_cons.mpr ⟨d_MO_slackOf_120, List.forall_mem_cons.mpr ⟨d_MO_slackOf_121, List.forall_mem_cons.mpr ⟨d_MO_slackOf_124, List.forall_mem_cons.mpr ⟨d_MO_slackOf_127, List.forall_mem_cons.mpr ⟨d_MO_slackOf_128, List.forall_mem_cons.mpr ⟨d_MO_slackOf_131, List.forall_mem_cons.mpr ⟨d_MO_slackOf_133, List.forall_mem_cons.mpr ⟨d_MO_slackOf_134, List.forall_mem_cons.mpr ⟨d_MO_slackOf_135, List.forall_mem_cons.mpr ⟨d_MO_slackOf_138, List.forall_mem_cons.mpr ⟨d_MO_slackOf_140, List.forall_mem_cons.mpr ⟨d_MO_slackOf_141, List.forall_mem_cons.mpr ⟨d_MO_slackOf_143, List.forall_mem_cons.mpr ⟨d_MO_slackOf_144, List.forall_mem_cons.mpr ⟨d_MO_slackOf_147, List.forall_mem_cons.mpr ⟨d_MO_slackOf_148, List.forall_mem_cons.mpr ⟨d_MO_slackOf_150, List.forall_mem_cons.mpr ⟨d_MO_slackOf_153, List.forall_mem_cons.mpr ⟨d_MO_slackOf_156, List.forall_mem_cons.mpr ⟨d_MO_slackOf_158, List.forall_mem_cons.mpr ⟨d_MO_slackOf_159, List.forall_mem_cons.mpr ⟨d_MO_slackOf_160, List.forall_mem_cons.mpr ⟨d_MO_slackOf_161, List.forall_mem_cons.mpr ⟨d_MO_slackOf_164, List.forall_mem_cons.mpr ⟨d_MO_slackOf_165, List.forall_mem_cons.mpr ⟨d_MO_slackOf_167, List.forall_mem_cons.mpr ⟨d_MO_slackOf_168, List.forall_mem_cons.mpr ⟨d_MO_slackOf_170, List.forall_mem_cons.mpr ⟨d_MO_slackOf_172, List.forall_mem_cons.mpr ⟨d_MO_slackOf_174, List.forall_mem_cons.mpr ⟨d_MO_slackOf_177, List.forall_mem_cons.mpr ⟨d_MO_slackOf_179, List.forall_mem_cons.mpr ⟨d_MO_slackOf_182, List.forall_mem_cons.mpr ⟨d_MO_slackOf_184, List.forall_mem_cons.mpr ⟨d_MO_slackOf_186, List.forall_mem_cons.mpr ⟨d_MO_slackOf_189, List.forall_mem_cons.mpr ⟨d_MO_slackOf_192, List.forall_mem_cons.mpr ⟨d_MO_slackOf_194, List.forall_mem_cons.mpr ⟨d_MO_slackOf_197, List.forall_mem_cons.mpr ⟨d_MO_slackOf_198, List.forall_mem_cons.mpr ⟨d_MO_slackOf_201, List.forall_mem_cons.mpr ⟨d_MO_slackOf_203, fun _ h => absurd h List.not_mem_nil⟩⟩⟩⟩⟩⟩⟩⟩⟩⟩⟩⟩⟩⟩⟩⟩⟩⟩⟩⟩⟩⟩⟩⟩⟩⟩⟩⟩⟩⟩⟩⟩⟩⟩⟩⟩⟩⟩⟩⟩⟩⟩⟩⟩⟩⟩⟩⟩⟩⟩⟩⟩⟩⟩⟩⟩⟩⟩⟩⟩⟩⟩⟩⟩⟩⟩⟩⟩⟩⟩⟩⟩⟩⟩⟩⟩⟩⟩⟩⟩⟩⟩⟩⟩⟩⟩⟩⟩⟩⟩⟩⟩⟩⟩⟩⟩⟩⟩⟩⟩⟩⟩⟩⟩⟩⟩⟩⟩⟩
theorem i_MO_slackOf_ok : ∀ pc i n, i_MO_slackOf pc = some (i, n) → decode b_MO_slackOf pc = .ok (i, n) := fun pc i n h => d_MO_slackOf (pc, i, n) (am_find_mem h)
theorem i_MO_slackOf_0 : i_MO_slackOf 0 = some (.aload_n 0, 1) := rfl
theorem i_MO_slackOf_1 : i_MO_slackOf 1 = some (.getfield 22, 3) := rfl
theorem i_MO_slackOf_4 : i_MO_slackOf 4 = some (.iload_n 1, 1) := rfl
theorem i_MO_slackOf_5 : i_MO_slackOf 5 = some (.iaload, 1) := rfl
theorem i_MO_slackOf_6 : i_MO_slackOf 6 = some (.istore_n 3, 1) := rfl
theorem i_MO_slackOf_7 : i_MO_slackOf 7 = some (.iconst 0, 1) := rfl
theorem i_MO_slackOf_8 : i_MO_slackOf 8 = some (.istore 4, 2) := rfl
theorem i_MO_slackOf_10 : i_MO_slackOf 10 = some (.iconst 0, 1) := rfl
theorem i_MO_slackOf_11 : i_MO_slackOf 11 = some (.istore 5, 2) := rfl
theorem i_MO_slackOf_13 : i_MO_slackOf 13 = some (.iload 5, 2) := rfl
theorem i_MO_slackOf_15 : i_MO_slackOf 15 = some (.iload_n 1, 1) := rfl
theorem i_MO_slackOf_16 : i_MO_slackOf 16 = some (.if_icmp .gt 26, 3) := rfl
theorem i_MO_slackOf_19 : i_MO_slackOf 19 = some (.iload 4, 2) := rfl
theorem i_MO_slackOf_21 : i_MO_slackOf 21 = some (.aload_n 0, 1) := rfl
theorem i_MO_slackOf_22 : i_MO_slackOf 22 = some (.getfield 50, 3) := rfl
theorem i_MO_slackOf_25 : i_MO_slackOf 25 = some (.aload_n 0, 1) := rfl
theorem i_MO_slackOf_26 : i_MO_slackOf 26 = some (.getfield 22, 3) := rfl
theorem i_MO_slackOf_29 : i_MO_slackOf 29 = some (.iload 5, 2) := rfl
theorem i_MO_slackOf_31 : i_MO_slackOf 31 = some (.iaload, 1) := rfl
theorem i_MO_slackOf_32 : i_MO_slackOf 32 = some (.iaload, 1) := rfl
theorem i_MO_slackOf_33 : i_MO_slackOf 33 = some (.iadd, 1) := rfl
theorem i_MO_slackOf_34 : i_MO_slackOf 34 = some (.istore 4, 2) := rfl
theorem i_MO_slackOf_36 : i_MO_slackOf 36 = some (.iinc 5 1, 3) := rfl
theorem i_MO_slackOf_39 : i_MO_slackOf 39 = some (.goto (-26), 3) := rfl
theorem i_MO_slackOf_42 : i_MO_slackOf 42 = some (.aload_n 0, 1) := rfl
theorem i_MO_slackOf_43 : i_MO_slackOf 43 = some (.getfield 50, 3) := rfl
theorem i_MO_slackOf_46 : i_MO_slackOf 46 = some (.iload_n 3, 1) := rfl
theorem i_MO_slackOf_47 : i_MO_slackOf 47 = some (.iaload, 1) := rfl
theorem i_MO_slackOf_48 : i_MO_slackOf 48 = some (.ifCond .le 12, 3) := rfl
theorem i_MO_slackOf_51 : i_MO_slackOf 51 = some (.aload_n 0, 1) := rfl
theorem i_MO_slackOf_52 : i_MO_slackOf 52 = some (.getfield 53, 3) := rfl
theorem i_MO_slackOf_55 : i_MO_slackOf 55 = some (.iload_n 3, 1) := rfl
theorem i_MO_slackOf_56 : i_MO_slackOf 56 = some (.iaload, 1) := rfl
theorem i_MO_slackOf_57 : i_MO_slackOf 57 = some (.goto 16, 3) := rfl
theorem i_MO_slackOf_60 : i_MO_slackOf 60 = some (.aload_n 0, 1) := rfl
theorem i_MO_slackOf_61 : i_MO_slackOf 61 = some (.iload_n 3, 1) := rfl
theorem i_MO_slackOf_62 : i_MO_slackOf 62 = some (.iload_n 2, 1) := rfl
theorem i_MO_slackOf_63 : i_MO_slackOf 63 = some (.invokevirtual 155, 3) := rfl
theorem i_MO_slackOf_66 : i_MO_slackOf 66 = some (.aload_n 0, 1) := rfl
theorem i_MO_slackOf_67 : i_MO_slackOf 67 = some (.getfield 19, 3) := rfl
theorem i_MO_slackOf_70 : i_MO_slackOf 70 = some (.iload_n 3, 1) := rfl
theorem i_MO_slackOf_71 : i_MO_slackOf 71 = some (.iaload, 1) := rfl
theorem i_MO_slackOf_72 : i_MO_slackOf 72 = some (.iadd, 1) := rfl
theorem i_MO_slackOf_73 : i_MO_slackOf 73 = some (.istore 5, 2) := rfl
theorem i_MO_slackOf_75 : i_MO_slackOf 75 = some (.iload 4, 2) := rfl
theorem i_MO_slackOf_77 : i_MO_slackOf 77 = some (.ineg, 1) := rfl
theorem i_MO_slackOf_78 : i_MO_slackOf 78 = some (.istore 6, 2) := rfl
theorem i_MO_slackOf_80 : i_MO_slackOf 80 = some (.aload_n 0, 1) := rfl
theorem i_MO_slackOf_81 : i_MO_slackOf 81 = some (.getfield 132, 3) := rfl
theorem i_MO_slackOf_84 : i_MO_slackOf 84 = some (.istore 7, 2) := rfl
theorem i_MO_slackOf_86 : i_MO_slackOf 86 = some (.iload 7, 2) := rfl
theorem i_MO_slackOf_88 : i_MO_slackOf 88 = some (.iload 5, 2) := rfl
theorem i_MO_slackOf_90 : i_MO_slackOf 90 = some (.if_icmp .ge 102, 3) := rfl
theorem i_MO_slackOf_93 : i_MO_slackOf 93 = some (.iconst 0, 1) := rfl
theorem i_MO_slackOf_94 : i_MO_slackOf 94 = some (.istore 8, 2) := rfl
theorem i_MO_slackOf_96 : i_MO_slackOf 96 = some (.iload 8, 2) := rfl
theorem i_MO_slackOf_98 : i_MO_slackOf 98 = some (.iload_n 1, 1) := rfl
theorem i_MO_slackOf_99 : i_MO_slackOf 99 = some (.if_icmp .gt 57, 3) := rfl
theorem i_MO_slackOf_102 : i_MO_slackOf 102 = some (.aload_n 0, 1) := rfl
theorem i_MO_slackOf_103 : i_MO_slackOf 103 = some (.aload_n 0, 1) := rfl
theorem i_MO_slackOf_104 : i_MO_slackOf 104 = some (.getfield 22, 3) := rfl
theorem i_MO_slackOf_107 : i_MO_slackOf 107 = some (.iload 8, 2) := rfl
theorem i_MO_slackOf_109 : i_MO_slackOf 109 = some (.iaload, 1) := rfl
theorem i_MO_slackOf_110 : i_MO_slackOf 110 = some (.iload 7, 2) := rfl
theorem i_MO_slackOf_112 : i_MO_slackOf 112 = some (.invokevirtual 147, 3) := rfl
theorem i_MO_slackOf_115 : i_MO_slackOf 115 = some (.ifCond .eq 35, 3) := rfl
theorem i_MO_slackOf_118 : i_MO_slackOf 118 = some (.iload 7, 2) := rfl
theorem i_MO_slackOf_120 : i_MO_slackOf 120 = some (.aload_n 0, 1) := rfl
theorem i_MO_slackOf_121 : i_MO_slackOf 121 = some (.getfield 132, 3) := rfl
theorem i_MO_slackOf_124 : i_MO_slackOf 124 = some (.if_icmp .gt 7, 3) := rfl
theorem i_MO_slackOf_127 : i_MO_slackOf 127 = some (.iload_n 2, 1) := rfl
theorem i_MO_slackOf_128 : i_MO_slackOf 128 = some (.ifCond .ne 22, 3) := rfl
theorem i_MO_slackOf_131 : i_MO_slackOf 131 = some (.iload 4, 2) := rfl
theorem i_MO_slackOf_133 : i_MO_slackOf 133 = some (.aload_n 0, 1) := rfl
theorem i_MO_slackOf_134 : i_MO_slackOf 134 = some (.aload_n 0, 1) := rfl
theorem i_MO_slackOf_135 : i_MO_slackOf 135 = some (.getfield 22, 3) := rfl
theorem i_MO_slackOf_138 : i_MO_slackOf 138 = some (.iload 8, 2) := rfl
theorem i_MO_slackOf_140 : i_MO_slackOf 140 = some (.iaload, 1) := rfl
theorem i_MO_slackOf_141 : i_MO_slackOf 141 = some (.iload 7, 2) := rfl
theorem i_MO_slackOf_143 : i_MO_slackOf 143 = some (.iload_n 2, 1) := rfl
theorem i_MO_slackOf_144 : i_MO_slackOf 144 = some (.invokevirtual 158, 3) := rfl
theorem i_MO_slackOf_147 : i_MO_slackOf 147 = some (.iadd, 1) := rfl
theorem i_MO_slackOf_148 : i_MO_slackOf 148 = some (.istore 4, 2) := rfl
theorem i_MO_slackOf_150 : i_MO_slackOf 150 = some (.iinc 8 1, 3) := rfl
theorem i_MO_slackOf_153 : i_MO_slackOf 153 = some (.goto (-57), 3) := rfl
theorem i_MO_slackOf_156 : i_MO_slackOf 156 = some (.iload 7, 2) := rfl
theorem i_MO_slackOf_158 : i_MO_slackOf 158 = some (.iconst 1, 1) := rfl
theorem i_MO_slackOf_159 : i_MO_slackOf 159 = some (.iadd, 1) := rfl
theorem i_MO_slackOf_160 : i_MO_slackOf 160 = some (.aload_n 0, 1) := rfl
theorem i_MO_slackOf_161 : i_MO_slackOf 161 = some (.getfield 132, 3) := rfl
theorem i_MO_slackOf_164 : i_MO_slackOf 164 = some (.isub, 1) := rfl
set_option maxRecDepth 100000 in
theorem i_MO_slackOf_165 : i_MO_slackOf 165 = some (.iload 4, 2) := rfl
set_option maxRecDepth 100000 in
theorem i_MO_slackOf_167 : i_MO_slackOf 167 = some (.isub, 1) := rfl
set_option maxRecDepth 100000 in
theorem i_MO_slackOf_168 : i_MO_slackOf 168 = some (.istore 8, 2) := rfl
set_option maxRecDepth 100000 in
theorem i_MO_slackOf_170 : i_MO_slackOf 170 = some (.iload 8, 2) := rfl
set_option maxRecDepth 100000 in
theorem i_MO_slackOf_172 : i_MO_slackOf 172 = some (.iload 6, 2) := rfl
set_option maxRecDepth 100000 in
theorem i_MO_slackOf_174 : i_MO_slackOf 174 = some (.if_icmp .le 8, 3) := rfl
set_option maxRecDepth 100000 in
theorem i_MO_slackOf_177 : i_MO_slackOf 177 = some (.iload 8, 2) := rfl
set_option maxRecDepth 100000 in
theorem i_MO_slackOf_179 : i_MO_slackOf 179 = some (.goto 5, 3) := rfl
set_option maxRecDepth 100000 in
theorem i_MO_slackOf_182 : i_MO_slackOf 182 = some (.iload 6, 2) := rfl
set_option maxRecDepth 100000 in
theorem i_MO_slackOf_184 : i_MO_slackOf 184 = some (.istore 6, 2) := rfl
set_option maxRecDepth 100000 in
theorem i_MO_slackOf_186 : i_MO_slackOf 186 = some (.iinc 7 1, 3) := rfl
set_option maxRecDepth 100000 in
theorem i_MO_slackOf_189 : i_MO_slackOf 189 = some (.goto (-103), 3) := rfl
set_option maxRecDepth 100000 in
theorem i_MO_slackOf_192 : i_MO_slackOf 192 = some (.iload 6, 2) := rfl
set_option maxRecDepth 100000 in
theorem i_MO_slackOf_194 : i_MO_slackOf 194 = some (.ifCond .ge 7, 3) := rfl
set_option maxRecDepth 100000 in
theorem i_MO_slackOf_197 : i_MO_slackOf 197 = some (.iconst 0, 1) := rfl
set_option maxRecDepth 100000 in
theorem i_MO_slackOf_198 : i_MO_slackOf 198 = some (.goto 5, 3) := rfl
set_option maxRecDepth 100000 in
theorem i_MO_slackOf_201 : i_MO_slackOf 201 = some (.iload 6, 2) := rfl
set_option maxRecDepth 100000 in
theorem i_MO_slackOf_203 : i_MO_slackOf 203 = some (.ireturn, 1) := rfl
abbrev w_MO_slackOf : List Jvm.Cond := Jvm.Cond.code y_MO_slackOf b_MO_slackOf 9 (some .int) :: vw_W
theorem c_MO_slackOf : Jvm.Cond.code y_MO_slackOf b_MO_slackOf 9 (some .int) ∈ vw_W := vw_t 1022 (by decide +kernel) (by decide +kernel)
abbrev r_MO_slackOf : Room := { frames := 3, cells := 0, slots := 0, locals := 68 }
abbrev b_MO_nextOf : ByteArray := prog_13_method_20_code
abbrev y_MO_nextOf : MethodName := ⟨"ServerDeskModel", "nextOf", "(IZ)I"⟩
def q_MO_nextOf : List (Nat × Instr × Nat) := [(0, .iload_n 2, 1), (1, .ifCond .eq 12, 3), (4, .aload_n 0, 1), (5, .getfield 132, 3), (8, .iconst 1, 1), (9, .iadd, 1), (10, .goto 7, 3), (13, .aload_n 0, 1), (14, .getfield 132, 3), (17, .istore_n 3, 1), (18, .aload_n 0, 1), (19, .iload_n 1, 1), (20, .iload_n 3, 1), (21, .invokevirtual 147, 3), (24, .ifCond .ne 9, 3), (27, .iinc 3 1, 3), (30, .goto (-12), 3), (33, .iload_n 3, 1), (34, .ireturn, 1)]
def i_MO_nextOf : Nat → Option (Instr × Nat) := am_find q_MO_nextOf
theorem d_MO_nextOf_0 : decode b_MO_nextOf 0 = .ok (.iload_n 2, 1) := by decide +kernel
theorem d_MO_nextOf_1 : decode b_MO_nextOf 1 = .ok (.ifCond .eq 12, 3) := by decide +kernel
theorem d_MO_nextOf_4 : decode b_MO_nextOf 4 = .ok (.aload_n 0, 1) := by decide +kernel
theorem d_MO_nextOf_5 : decode b_MO_nextOf 5 = .ok (.getfield 132, 3) := by decide +kernel
theorem d_MO_nextOf_8 : decode b_MO_nextOf 8 = .ok (.iconst 1, 1) := by decide +kernel
theorem d_MO_nextOf_9 : decode b_MO_nextOf 9 = .ok (.iadd, 1) := by decide +kernel
theorem d_MO_nextOf_10 : decode b_MO_nextOf 10 = .ok (.goto 7, 3) := by decide +kernel
theorem d_MO_nextOf_13 : decode b_MO_nextOf 13 = .ok (.aload_n 0, 1) := by decide +kernel
theorem d_MO_nextOf_14 : decode b_MO_nextOf 14 = .ok (.getfield 132, 3) := by decide +kernel
theorem d_MO_nextOf_17 : decode b_MO_nextOf 17 = .ok (.istore_n 3, 1) := by decide +kernel
theorem d_MO_nextOf_18 : decode b_MO_nextOf 18 = .ok (.aload_n 0, 1) := by decide +kernel
theorem d_MO_nextOf_19 : decode b_MO_nextOf 19 = .ok (.iload_n 1, 1) := by decide +kernel
theorem d_MO_nextOf_20 : decode b_MO_nextOf 20 = .ok (.iload_n 3, 1) := by decide +kernel
theorem d_MO_nextOf_21 : decode b_MO_nextOf 21 = .ok (.invokevirtual 147, 3) := by decide +kernel
theorem d_MO_nextOf_24 : decode b_MO_nextOf 24 = .ok (.ifCond .ne 9, 3) := by decide +kernel
theorem d_MO_nextOf_27 : decode b_MO_nextOf 27 = .ok (.iinc 3 1, 3) := by decide +kernel
theorem d_MO_nextOf_30 : decode b_MO_nextOf 30 = .ok (.goto (-12), 3) := by decide +kernel
theorem d_MO_nextOf_33 : decode b_MO_nextOf 33 = .ok (.iload_n 3, 1) := by decide +kernel
theorem d_MO_nextOf_34 : decode b_MO_nextOf 34 = .ok (.ireturn, 1) := by decide +kernel
theorem d_MO_nextOf : ∀ z ∈ q_MO_nextOf, decode b_MO_nextOf z.1 = .ok z.2 := List.forall_mem_cons.mpr ⟨d_MO_nextOf_0, List.forall_mem_cons.mpr ⟨d_MO_nextOf_1, List.forall_mem_cons.mpr ⟨d_MO_nextOf_4, List.forall_mem_cons.mpr ⟨d_MO_nextOf_5, List.forall_mem_cons.mpr ⟨d_MO_nextOf_8, List.forall_mem_cons.mpr ⟨d_MO_nextOf_9, List.forall_mem_cons.mpr ⟨d_MO_nextOf_10, List.forall_mem_cons.mpr ⟨d_MO_nextOf_13, List.forall_mem_cons.mpr ⟨d_MO_nextOf_14, List.forall_mem_cons.mpr ⟨d_MO_nextOf_17, List.forall_mem_cons.mpr ⟨d_MO_nextOf_18, List.forall_mem_cons.mpr ⟨d_MO_nextOf_19, List.forall_mem_cons.mpr ⟨d_MO_nextOf_20, List.forall_mem_cons.mpr ⟨d_MO_nextOf_21, List.forall_mem_cons.mpr ⟨d_MO_nextOf_24, List.forall_mem_cons.mpr ⟨d_MO_nextOf_27, List.forall_mem_cons.mpr ⟨d_MO_nextOf_30, List.forall_mem_cons.mpr ⟨d_MO_nextOf_33, List.forall_mem_cons.mpr ⟨d_MO_nextOf_34, fun _ h => absurd h List.not_mem_nil⟩⟩⟩⟩⟩⟩⟩⟩⟩⟩⟩⟩⟩⟩⟩⟩⟩⟩⟩
theorem i_MO_nextOf_ok : ∀ pc i n, i_MO_nextOf pc = some (i, n) → decode b_MO_nextOf pc = .ok (i, n) := fun pc i n h => d_MO_nextOf (pc, i, n) (am_find_mem h)
theorem i_MO_nextOf_0 : i_MO_nextOf 0 = some (.iload_n 2, 1) := rfl
theorem i_MO_nextOf_1 : i_MO_nextOf 1 = some (.ifCond .eq 12, 3) := rfl
theorem i_MO_nextOf_4 : i_MO_nextOf 4 = some (.aload_n 0, 1) := rfl
theorem i_MO_nextOf_5 : i_MO_nextOf 5 = some (.getfield 132, 3) := rfl
theorem i_MO_nextOf_8 : i_MO_nextOf 8 = some (.iconst 1, 1) := rfl
theorem i_MO_nextOf_9 : i_MO_nextOf 9 = some (.iadd, 1) := rfl
theorem i_MO_nextOf_10 : i_MO_nextOf 10 = some (.goto 7, 3) := rfl
theorem i_MO_nextOf_13 : i_MO_nextOf 13 = some (.aload_n 0, 1) := rfl
theorem i_MO_nextOf_14 : i_MO_nextOf 14 = some (.getfield 132, 3) := rfl
theorem i_MO_nextOf_17 : i_MO_nextOf 17 = some (.istore_n 3, 1) := rfl
theorem i_MO_nextOf_18 : i_MO_nextOf 18 = some (.aload_n 0, 1) := rfl
theorem i_MO_nextOf_19 : i_MO_nextOf 19 = some (.iload_n 1, 1) := rfl
theorem i_MO_nextOf_20 : i_MO_nextOf 20 = some (.iload_n 3, 1) := rfl
theorem i_MO_nextOf_21 : i_MO_nextOf 21 = some (.invokevirtual 147, 3) := rfl
theorem i_MO_nextOf_24 : i_MO_nextOf 24 = some (.ifCond .ne 9, 3) := rfl
theorem i_MO_nextOf_27 : i_MO_nextOf 27 = some (.iinc 3 1, 3) := rfl
theorem i_MO_nextOf_30 : i_MO_nextOf 30 = some (.goto (-12), 3) := rfl
theorem i_MO_nextOf_33 : i_MO_nextOf 33 = some (.iload_n 3, 1) := rfl
theorem i_MO_nextOf_34 : i_MO_nextOf 34 = some (.ireturn, 1) := rfl
abbrev w_MO_nextOf : List Jvm.Cond := Jvm.Cond.code y_MO_nextOf b_MO_nextOf 4 (some .int) :: vw_W
theorem c_MO_nextOf : Jvm.Cond.code y_MO_nextOf b_MO_nextOf 4 (some .int) ∈ vw_W := vw_t 1026 (by decide +kernel) (by decide +kernel)
abbrev r_MO_nextOf : Room := { frames := 1, cells := 0, slots := 0, locals := 22 }
abbrev b_MO_comes : ByteArray := prog_13_method_21_code
abbrev y_MO_comes : MethodName := ⟨"ServerDeskModel", "comes", "(IIZ)I"⟩
def q_MO_comes : List (Nat × Instr × Nat) := [(0, .aload_n 0, 1), (1, .getfield 56, 3), (4, .iload_n 1, 1), (5, .iaload, 1), (6, .ifCond .le 22, 3), (9, .iload_n 2, 1), (10, .aload_n 0, 1), (11, .iload_n 1, 1), (12, .iload_n 3, 1), (13, .invokevirtual 155, 3), (16, .if_icmp .ne 12, 3), (19, .aload_n 0, 1), (20, .getfield 56, 3), (23, .iload_n 1, 1), (24, .iaload, 1), (25, .goto 9, 3), (28, .aload_n 0, 1), (29, .getfield 16, 3), (32, .iload_n 1, 1), (33, .iaload, 1), (34, .ireturn, 1)]
def i_MO_comes : Nat → Option (Instr × Nat) := am_find q_MO_comes
theorem d_MO_comes_0 : decode b_MO_comes 0 = .ok (.aload_n 0, 1) := by decide +kernel
theorem d_MO_comes_1 : decode b_MO_comes 1 = .ok (.getfield 56, 3) := by decide +kernel
theorem d_MO_comes_4 : decode b_MO_comes 4 = .ok (.iload_n 1, 1) := by decide +kernel
theorem d_MO_comes_5 : decode b_MO_comes 5 = .ok (.iaload, 1) := by decide +kernel
theorem d_MO_comes_6 : decode b_MO_comes 6 = .ok (.ifCond .le 22, 3) := by decide +kernel
theorem d_MO_comes_9 : decode b_MO_comes 9 = .ok (.iload_n 2, 1) := by decide +kernel
theorem d_MO_comes_10 : decode b_MO_comes 10 = .ok (.aload_n 0, 1) := by decide +kernel
theorem d_MO_comes_11 : decode b_MO_comes 11 = .ok (.iload_n 1, 1) := by decide +kernel
theorem d_MO_comes_12 : decode b_MO_comes 12 = .ok (.iload_n 3, 1) := by decide +kernel
theorem d_MO_comes_13 : decode b_MO_comes 13 = .ok (.invokevirtual 155, 3) := by decide +kernel
theorem d_MO_comes_16 : decode b_MO_comes 16 = .ok (.if_icmp .ne 12, 3) := by decide +kernel
theorem d_MO_comes_19 : decode b_MO_comes 19 = .ok (.aload_n 0, 1) := by decide +kernel
theorem d_MO_comes_20 : decode b_MO_comes 20 = .ok (.getfield 56, 3) := by decide +kernel
theorem d_MO_comes_23 : decode b_MO_comes 23 = .ok (.iload_n 1, 1) := by decide +kernel
theorem d_MO_comes_24 : decode b_MO_comes 24 = .ok (.iaload, 1) := by decide +kernel
theorem d_MO_comes_25 : decode b_MO_comes 25 = .ok (.goto 9, 3) := by decide +kernel
theorem d_MO_comes_28 : decode b_MO_comes 28 = .ok (.aload_n 0, 1) := by decide +kernel
theorem d_MO_comes_29 : decode b_MO_comes 29 = .ok (.getfield 16, 3) := by decide +kernel
theorem d_MO_comes_32 : decode b_MO_comes 32 = .ok (.iload_n 1, 1) := by decide +kernel
theorem d_MO_comes_33 : decode b_MO_comes 33 = .ok (.iaload, 1) := by decide +kernel
theorem d_MO_comes_34 : decode b_MO_comes 34 = .ok (.ireturn, 1) := by decide +kernel
theorem d_MO_comes : ∀ z ∈ q_MO_comes, decode b_MO_comes z.1 = .ok z.2 := List.forall_mem_cons.mpr ⟨d_MO_comes_0, List.forall_mem_cons.mpr ⟨d_MO_comes_1, List.forall_mem_cons.mpr ⟨d_MO_comes_4, List.forall_mem_cons.mpr ⟨d_MO_comes_5, List.forall_mem_cons.mpr ⟨d_MO_comes_6, List.forall_mem_cons.mpr ⟨d_MO_comes_9, List.forall_mem_cons.mpr ⟨d_MO_comes_10, List.forall_mem_cons.mpr ⟨d_MO_comes_11, List.forall_mem_cons.mpr ⟨d_MO_comes_12, List.forall_mem_cons.mpr ⟨d_MO_comes_13, List.forall_mem_cons.mpr ⟨d_MO_comes_16, List.forall_mem_cons.mpr ⟨d_MO_comes_19, List.forall_mem_cons.mpr ⟨d_MO_comes_20, List.forall_mem_cons.mpr ⟨d_MO_comes_23, List.forall_mem_cons.mpr ⟨d_MO_comes_24, List.forall_mem_cons.mpr ⟨d_MO_comes_25, List.forall_mem_cons.mpr ⟨d_MO_comes_28, List.forall_mem_cons.mpr ⟨d_MO_comes_29, List.forall_mem_cons.mpr ⟨d_MO_comes_32, List.forall_mem_cons.mpr ⟨d_MO_comes_33, List.forall_mem_cons.mpr ⟨d_MO_comes_34, fun _ h => absurd h List.not_mem_nil⟩⟩⟩⟩⟩⟩⟩⟩⟩⟩⟩⟩⟩⟩⟩⟩⟩⟩⟩⟩⟩
theorem i_MO_comes_ok : ∀ pc i n, i_MO_comes pc = some (i, n) → decode b_MO_comes pc = .ok (i, n) := fun pc i n h => d_MO_comes (pc, i, n) (am_find_mem h)
theorem i_MO_comes_0 : i_MO_comes 0 = some (.aload_n 0, 1) := rfl
theorem i_MO_comes_1 : i_MO_comes 1 = some (.getfield 56, 3) := rfl
theorem i_MO_comes_4 : i_MO_comes 4 = some (.iload_n 1, 1) := rfl
theorem i_MO_comes_5 : i_MO_comes 5 = some (.iaload, 1) := rfl
theorem i_MO_comes_6 : i_MO_comes 6 = some (.ifCond .le 22, 3) := rfl
theorem i_MO_comes_9 : i_MO_comes 9 = some (.iload_n 2, 1) := rfl
theorem i_MO_comes_10 : i_MO_comes 10 = some (.aload_n 0, 1) := rfl
theorem i_MO_comes_11 : i_MO_comes 11 = some (.iload_n 1, 1) := rfl
theorem i_MO_comes_12 : i_MO_comes 12 = some (.iload_n 3, 1) := rfl
theorem i_MO_comes_13 : i_MO_comes 13 = some (.invokevirtual 155, 3) := rfl
theorem i_MO_comes_16 : i_MO_comes 16 = some (.if_icmp .ne 12, 3) := rfl
theorem i_MO_comes_19 : i_MO_comes 19 = some (.aload_n 0, 1) := rfl
theorem i_MO_comes_20 : i_MO_comes 20 = some (.getfield 56, 3) := rfl
theorem i_MO_comes_23 : i_MO_comes 23 = some (.iload_n 1, 1) := rfl
theorem i_MO_comes_24 : i_MO_comes 24 = some (.iaload, 1) := rfl
theorem i_MO_comes_25 : i_MO_comes 25 = some (.goto 9, 3) := rfl
theorem i_MO_comes_28 : i_MO_comes 28 = some (.aload_n 0, 1) := rfl
theorem i_MO_comes_29 : i_MO_comes 29 = some (.getfield 16, 3) := rfl
theorem i_MO_comes_32 : i_MO_comes 32 = some (.iload_n 1, 1) := rfl
theorem i_MO_comes_33 : i_MO_comes 33 = some (.iaload, 1) := rfl
theorem i_MO_comes_34 : i_MO_comes 34 = some (.ireturn, 1) := rfl
abbrev w_MO_comes : List Jvm.Cond := Jvm.Cond.code y_MO_comes b_MO_comes 4 (some .int) :: vw_W
theorem c_MO_comes : Jvm.Cond.code y_MO_comes b_MO_comes 4 (some .int) ∈ vw_W := vw_t 1030 (by decide +kernel) (by decide +kernel)
abbrev r_MO_comes : Room := { frames := 2, cells := 0, slots := 0, locals := 45 }
abbrev b_MO_job : ByteArray := prog_13_method_27_code
abbrev y_MO_job : MethodName := ⟨"ServerDeskModel", "job", "(I)I"⟩
def q_MO_job : List (Nat × Instr × Nat) := [(0, .aload_n 0, 1), (1, .iload_n 1, 1), (2, .iconst 1, 1), (3, .bipush 30, 2), (5, .invokestatic 103, 3), (8, .ifCond .ne 7, 3), (11, .iconst 1, 1), (12, .goto 24, 3), (15, .aload_n 0, 1), (16, .getfield 111, 3), (19, .ifCond .eq 12, 3), (22, .aload_n 0, 1), (23, .getfield 185, 3), (26, .bipush 40, 2), (28, .if_icmp .ne 7, 3), (31, .iconst 2, 1), (32, .goto 4, 3), (35, .iconst 0, 1), (36, .putfield 92, 3), (39, .aload_n 0, 1), (40, .getfield 92, 3), (43, .ifCond .le 7, 3), (46, .iconst 0, 1), (47, .goto 9, 3), (50, .aload_n 0, 1), (51, .iload_n 1, 1), (52, .iconst 0, 1), (53, .invokevirtual 191, 3), (56, .ireturn, 1)]
def i_MO_job : Nat → Option (Instr × Nat) := am_find q_MO_job
theorem d_MO_job_0 : decode b_MO_job 0 = .ok (.aload_n 0, 1) := by decide +kernel
theorem d_MO_job_1 : decode b_MO_job 1 = .ok (.iload_n 1, 1) := by decide +kernel
theorem d_MO_job_2 : decode b_MO_job 2 = .ok (.iconst 1, 1) := by decide +kernel
theorem d_MO_job_3 : decode b_MO_job 3 = .ok (.bipush 30, 2) := by decide +kernel
theorem d_MO_job_5 : decode b_MO_job 5 = .ok (.invokestatic 103, 3) := by decide +kernel
theorem d_MO_job_8 : decode b_MO_job 8 = .ok (.ifCond .ne 7, 3) := by decide +kernel
theorem d_MO_job_11 : decode b_MO_job 11 = .ok (.iconst 1, 1) := by decide +kernel
theorem d_MO_job_12 : decode b_MO_job 12 = .ok (.goto 24, 3) := by decide +kernel
theorem d_MO_job_15 : decode b_MO_job 15 = .ok (.aload_n 0, 1) := by decide +kernel
theorem d_MO_job_16 : decode b_MO_job 16 = .ok (.getfield 111, 3) := by decide +kernel
theorem d_MO_job_19 : decode b_MO_job 19 = .ok (.ifCond .eq 12, 3) := by decide +kernel
theorem d_MO_job_22 : decode b_MO_job 22 = .ok (.aload_n 0, 1) := by decide +kernel
theorem d_MO_job_23 : decode b_MO_job 23 = .ok (.getfield 185, 3) := by decide +kernel
theorem d_MO_job_26 : decode b_MO_job 26 = .ok (.bipush 40, 2) := by decide +kernel
theorem d_MO_job_28 : decode b_MO_job 28 = .ok (.if_icmp .ne 7, 3) := by decide +kernel
theorem d_MO_job_31 : decode b_MO_job 31 = .ok (.iconst 2, 1) := by decide +kernel
theorem d_MO_job_32 : decode b_MO_job 32 = .ok (.goto 4, 3) := by decide +kernel
theorem d_MO_job_35 : decode b_MO_job 35 = .ok (.iconst 0, 1) := by decide +kernel
theorem d_MO_job_36 : decode b_MO_job 36 = .ok (.putfield 92, 3) := by decide +kernel
theorem d_MO_job_39 : decode b_MO_job 39 = .ok (.aload_n 0, 1) := by decide +kernel
theorem d_MO_job_40 : decode b_MO_job 40 = .ok (.getfield 92, 3) := by decide +kernel
theorem d_MO_job_43 : decode b_MO_job 43 = .ok (.ifCond .le 7, 3) := by decide +kernel
theorem d_MO_job_46 : decode b_MO_job 46 = .ok (.iconst 0, 1) := by decide +kernel
theorem d_MO_job_47 : decode b_MO_job 47 = .ok (.goto 9, 3) := by decide +kernel
theorem d_MO_job_50 : decode b_MO_job 50 = .ok (.aload_n 0, 1) := by decide +kernel
theorem d_MO_job_51 : decode b_MO_job 51 = .ok (.iload_n 1, 1) := by decide +kernel
theorem d_MO_job_52 : decode b_MO_job 52 = .ok (.iconst 0, 1) := by decide +kernel
theorem d_MO_job_53 : decode b_MO_job 53 = .ok (.invokevirtual 191, 3) := by decide +kernel
theorem d_MO_job_56 : decode b_MO_job 56 = .ok (.ireturn, 1) := by decide +kernel
theorem d_MO_job : ∀ z ∈ q_MO_job, decode b_MO_job z.1 = .ok z.2 := List.forall_mem_cons.mpr ⟨d_MO_job_0, List.forall_mem_cons.mpr ⟨d_MO_job_1, List.forall_mem_cons.mpr ⟨d_MO_job_2, List.forall_mem_cons.mpr ⟨d_MO_job_3, List.forall_mem_cons.mpr ⟨d_MO_job_5, List.forall_mem_cons.mpr ⟨d_MO_job_8, List.forall_mem_cons.mpr ⟨d_MO_job_11, List.forall_mem_cons.mpr ⟨d_MO_job_12, List.forall_mem_cons.mpr ⟨d_MO_job_15, List.forall_mem_cons.mpr ⟨d_MO_job_16, List.forall_mem_cons.mpr ⟨d_MO_job_19, List.forall_mem_cons.mpr ⟨d_MO_job_22, List.forall_mem_cons.mpr ⟨d_MO_job_23, List.forall_mem_cons.mpr ⟨d_MO_job_26, List.forall_mem_cons.mpr ⟨d_MO_job_28, List.forall_mem_cons.mpr ⟨d_MO_job_31, List.forall_mem_cons.mpr ⟨d_MO_job_32, List.forall_mem_cons.mpr ⟨d_MO_job_35, List.forall_mem_cons.mpr ⟨d_MO_job_36, List.forall_mem_cons.mpr ⟨d_MO_job_39, List.forall_mem_cons.mpr ⟨d_MO_job_40, List.forall_mem_cons.mpr ⟨d_MO_job_43, List.forall_mem_cons.mpr ⟨d_MO_job_46, List.forall_mem_cons.mpr ⟨d_MO_job_47, List.forall_mem_cons.mpr ⟨d_MO_job_50, List.forall_mem_cons.mpr ⟨d_MO_job_51, List.forall_mem_cons.mpr ⟨d_MO_job_52, List.forall_mem_cons.mpr ⟨d_MO_job_53, List.forall_mem_cons.mpr ⟨d_MO_job_56, fun _ h => absurd h List.not_mem_nil⟩⟩⟩⟩⟩⟩⟩⟩⟩⟩⟩⟩⟩⟩⟩⟩⟩⟩⟩⟩⟩⟩⟩⟩⟩⟩⟩⟩⟩
theorem i_MO_job_ok : ∀ pc i n, i_MO_job pc = some (i, n) → decode b_MO_job pc = .ok (i, n) := fun pc i n h => d_MO_job (pc, i, n) (am_find_mem h)
theorem i_MO_job_0 : i_MO_job 0 = some (.aload_n 0, 1) := rfl
theorem i_MO_job_1 : i_MO_job 1 = some (.iload_n 1, 1) := rfl
theorem i_MO_job_2 : i_MO_job 2 = some (.iconst 1, 1) := rfl
theorem i_MO_job_3 : i_MO_job 3 = some (.bipush 30, 2) := rfl
theorem i_MO_job_5 : i_MO_job 5 = some (.invokestatic 103, 3) := rfl
theorem i_MO_job_8 : i_MO_job 8 = some (.ifCond .ne 7, 3) := rfl
theorem i_MO_job_11 : i_MO_job 11 = some (.iconst 1, 1) := rfl
theorem i_MO_job_12 : i_MO_job 12 = some (.goto 24, 3) := rfl
theorem i_MO_job_15 : i_MO_job 15 = some (.aload_n 0, 1) := rfl
theorem i_MO_job_16 : i_MO_job 16 = some (.getfield 111, 3) := rfl
theorem i_MO_job_19 : i_MO_job 19 = some (.ifCond .eq 12, 3) := rfl
theorem i_MO_job_22 : i_MO_job 22 = some (.aload_n 0, 1) := rfl
theorem i_MO_job_23 : i_MO_job 23 = some (.getfield 185, 3) := rfl
theorem i_MO_job_26 : i_MO_job 26 = some (.bipush 40, 2) := rfl
theorem i_MO_job_28 : i_MO_job 28 = some (.if_icmp .ne 7, 3) := rfl
theorem i_MO_job_31 : i_MO_job 31 = some (.iconst 2, 1) := rfl
theorem i_MO_job_32 : i_MO_job 32 = some (.goto 4, 3) := rfl
theorem i_MO_job_35 : i_MO_job 35 = some (.iconst 0, 1) := rfl
theorem i_MO_job_36 : i_MO_job 36 = some (.putfield 92, 3) := rfl
theorem i_MO_job_39 : i_MO_job 39 = some (.aload_n 0, 1) := rfl
theorem i_MO_job_40 : i_MO_job 40 = some (.getfield 92, 3) := rfl
theorem i_MO_job_43 : i_MO_job 43 = some (.ifCond .le 7, 3) := rfl
theorem i_MO_job_46 : i_MO_job 46 = some (.iconst 0, 1) := rfl
theorem i_MO_job_47 : i_MO_job 47 = some (.goto 9, 3) := rfl
theorem i_MO_job_50 : i_MO_job 50 = some (.aload_n 0, 1) := rfl
theorem i_MO_job_51 : i_MO_job 51 = some (.iload_n 1, 1) := rfl
theorem i_MO_job_52 : i_MO_job 52 = some (.iconst 0, 1) := rfl
theorem i_MO_job_53 : i_MO_job 53 = some (.invokevirtual 191, 3) := rfl
theorem i_MO_job_56 : i_MO_job 56 = some (.ireturn, 1) := rfl
abbrev w_MO_job : List Jvm.Cond := Jvm.Cond.code y_MO_job b_MO_job 2 (some .int) :: vw_W
theorem c_MO_job : Jvm.Cond.code y_MO_job b_MO_job 2 (some .int) ∈ vw_W := vw_t 1034 (by decide +kernel) (by decide +kernel)
abbrev r_MO_job : Room := { frames := 2, cells := 0, slots := 0, locals := 42 }
abbrev b_MO_arrive : ByteArray := prog_13_method_25_code
abbrev y_MO_arrive : MethodName := ⟨"ServerDeskModel", "arrive", "(IZ)I"⟩
def q_MO_arrive : List (Nat × Instr × Nat) := [(0, .aload_n 0, 1), (1, .getfield 31, 3), (4, .aload_n 0, 1), (5, .getfield 185, 3), (8, .iload_n 1, 1), (9, .iastore, 1), (10, .aload_n 0, 1), (11, .getfield 34, 3), (14, .aload_n 0, 1), (15, .getfield 185, 3), (18, .aload_n 0, 1), (19, .getfield 132, 3), (22, .iastore, 1), (23, .aload_n 0, 1), (24, .getfield 37, 3), (27, .aload_n 0, 1), (28, .getfield 185, 3), (31, .iload_n 2, 1), (32, .bastore, 1), (33, .aload_n 0, 1), (34, .invokevirtual 188, 3), (37, .aload_n 0, 1), (38, .dup, 1), (39, .getfield 185, 3), (42, .iconst 1, 1), (43, .iadd, 1), (44, .putfield 185, 3), (47, .aload_n 0, 1), (48, .getfield 185, 3), (51, .iconst 1, 1), (52, .isub, 1), (53, .ireturn, 1)]
def i_MO_arrive : Nat → Option (Instr × Nat) := am_find q_MO_arrive
theorem d_MO_arrive_0 : decode b_MO_arrive 0 = .ok (.aload_n 0, 1) := by decide +kernel
theorem d_MO_arrive_1 : decode b_MO_arrive 1 = .ok (.getfield 31, 3) := by decide +kernel
theorem d_MO_arrive_4 : decode b_MO_arrive 4 = .ok (.aload_n 0, 1) := by decide +kernel
theorem d_MO_arrive_5 : decode b_MO_arrive 5 = .ok (.getfield 185, 3) := by decide +kernel
theorem d_MO_arrive_8 : decode b_MO_arrive 8 = .ok (.iload_n 1, 1) := by decide +kernel
theorem d_MO_arrive_9 : decode b_MO_arrive 9 = .ok (.iastore, 1) := by decide +kernel
theorem d_MO_arrive_10 : decode b_MO_arrive 10 = .ok (.aload_n 0, 1) := by decide +kernel
theorem d_MO_arrive_11 : decode b_MO_arrive 11 = .ok (.getfield 34, 3) := by decide +kernel
theorem d_MO_arrive_14 : decode b_MO_arrive 14 = .ok (.aload_n 0, 1) := by decide +kernel
theorem d_MO_arrive_15 : decode b_MO_arrive 15 = .ok (.getfield 185, 3) := by decide +kernel
theorem d_MO_arrive_18 : decode b_MO_arrive 18 = .ok (.aload_n 0, 1) := by decide +kernel
theorem d_MO_arrive_19 : decode b_MO_arrive 19 = .ok (.getfield 132, 3) := by decide +kernel
theorem d_MO_arrive_22 : decode b_MO_arrive 22 = .ok (.iastore, 1) := by decide +kernel
theorem d_MO_arrive_23 : decode b_MO_arrive 23 = .ok (.aload_n 0, 1) := by decide +kernel
theorem d_MO_arrive_24 : decode b_MO_arrive 24 = .ok (.getfield 37, 3) := by decide +kernel
theorem d_MO_arrive_27 : decode b_MO_arrive 27 = .ok (.aload_n 0, 1) := by decide +kernel
theorem d_MO_arrive_28 : decode b_MO_arrive 28 = .ok (.getfield 185, 3) := by decide +kernel
theorem d_MO_arrive_31 : decode b_MO_arrive 31 = .ok (.iload_n 2, 1) := by decide +kernel
theorem d_MO_arrive_32 : decode b_MO_arrive 32 = .ok (.bastore, 1) := by decide +kernel
theorem d_MO_arrive_33 : decode b_MO_arrive 33 = .ok (.aload_n 0, 1) := by decide +kernel
theorem d_MO_arrive_34 : decode b_MO_arrive 34 = .ok (.invokevirtual 188, 3) := by decide +kernel
theorem d_MO_arrive_37 : decode b_MO_arrive 37 = .ok (.aload_n 0, 1) := by decide +kernel
theorem d_MO_arrive_38 : decode b_MO_arrive 38 = .ok (.dup, 1) := by decide +kernel
theorem d_MO_arrive_39 : decode b_MO_arrive 39 = .ok (.getfield 185, 3) := by decide +kernel
theorem d_MO_arrive_42 : decode b_MO_arrive 42 = .ok (.iconst 1, 1) := by decide +kernel
theorem d_MO_arrive_43 : decode b_MO_arrive 43 = .ok (.iadd, 1) := by decide +kernel
theorem d_MO_arrive_44 : decode b_MO_arrive 44 = .ok (.putfield 185, 3) := by decide +kernel
theorem d_MO_arrive_47 : decode b_MO_arrive 47 = .ok (.aload_n 0, 1) := by decide +kernel
theorem d_MO_arrive_48 : decode b_MO_arrive 48 = .ok (.getfield 185, 3) := by decide +kernel
theorem d_MO_arrive_51 : decode b_MO_arrive 51 = .ok (.iconst 1, 1) := by decide +kernel
theorem d_MO_arrive_52 : decode b_MO_arrive 52 = .ok (.isub, 1) := by decide +kernel
theorem d_MO_arrive_53 : decode b_MO_arrive 53 = .ok (.ireturn, 1) := by decide +kernel
theorem d_MO_arrive : ∀ z ∈ q_MO_arrive, decode b_MO_arrive z.1 = .ok z.2 := List.forall_mem_cons.mpr ⟨d_MO_arrive_0, List.forall_mem_cons.mpr ⟨d_MO_arrive_1, List.forall_mem_cons.mpr ⟨d_MO_arrive_4, List.forall_mem_cons.mpr ⟨d_MO_arrive_5, List.forall_mem_cons.mpr ⟨d_MO_arrive_8, List.forall_mem_cons.mpr ⟨d_MO_arrive_9, List.forall_mem_cons.mpr ⟨d_MO_arrive_10, List.forall_mem_cons.mpr ⟨d_MO_arrive_11, List.forall_mem_cons.mpr ⟨d_MO_arrive_14, List.forall_mem_cons.mpr ⟨d_MO_arrive_15, List.forall_mem_cons.mpr ⟨d_MO_arrive_18, List.forall_mem_cons.mpr ⟨d_MO_arrive_19, List.forall_mem_cons.mpr ⟨d_MO_arrive_22, List.forall_mem_cons.mpr ⟨d_MO_arrive_23, List.forall_mem_cons.mpr ⟨d_MO_arrive_24, List.forall_mem_cons.mpr ⟨d_MO_arrive_27, List.forall_mem_cons.mpr ⟨d_MO_arrive_28, List.forall_mem_cons.mpr ⟨d_MO_arrive_31, List.forall_mem_cons.mpr ⟨d_MO_arrive_32, List.forall_mem_cons.mpr ⟨d_MO_arrive_33, List.forall_mem_cons.mpr ⟨d_MO_arrive_34, List.forall_mem_cons.mpr ⟨d_MO_arrive_37, List.forall_mem_cons.mpr ⟨d_MO_arrive_38, List.forall_mem_cons.mpr ⟨d_MO_arrive_39, List.forall_mem_cons.mpr ⟨d_MO_arrive_42, List.forall_mem_cons.mpr ⟨d_MO_arrive_43, List.forall_mem_cons.mpr ⟨d_MO_arrive_44, List.forall_mem_cons.mpr ⟨d_MO_arrive_47, List.forall_mem_cons.mpr ⟨d_MO_arrive_48, List.forall_mem_cons.mpr ⟨d_MO_arrive_51, List.forall_mem_cons.mpr ⟨d_MO_arrive_52, List.forall_mem_cons.mpr ⟨d_MO_arrive_53, fun _ h => absurd h List.not_mem_nil⟩⟩⟩⟩⟩⟩⟩⟩⟩⟩⟩⟩⟩⟩⟩⟩⟩⟩⟩⟩⟩⟩⟩⟩⟩⟩⟩⟩⟩⟩⟩⟩
theorem i_MO_arrive_ok : ∀ pc i n, i_MO_arrive pc = some (i, n) → decode b_MO_arrive pc = .ok (i, n) := fun pc i n h => d_MO_arrive (pc, i, n) (am_find_mem h)
theorem i_MO_arrive_0 : i_MO_arrive 0 = some (.aload_n 0, 1) := rfl
theorem i_MO_arrive_1 : i_MO_arrive 1 = some (.getfield 31, 3) := rfl
theorem i_MO_arrive_4 : i_MO_arrive 4 = some (.aload_n 0, 1) := rfl
theorem i_MO_arrive_5 : i_MO_arrive 5 = some (.getfield 185, 3) := rfl
theorem i_MO_arrive_8 : i_MO_arrive 8 = some (.iload_n 1, 1) := rfl
theorem i_MO_arrive_9 : i_MO_arrive 9 = some (.iastore, 1) := rfl
theorem i_MO_arrive_10 : i_MO_arrive 10 = some (.aload_n 0, 1) := rfl
theorem i_MO_arrive_11 : i_MO_arrive 11 = some (.getfield 34, 3) := rfl
theorem i_MO_arrive_14 : i_MO_arrive 14 = some (.aload_n 0, 1) := rfl
theorem i_MO_arrive_15 : i_MO_arrive 15 = some (.getfield 185, 3) := rfl
theorem i_MO_arrive_18 : i_MO_arrive 18 = some (.aload_n 0, 1) := rfl
theorem i_MO_arrive_19 : i_MO_arrive 19 = some (.getfield 132, 3) := rfl
theorem i_MO_arrive_22 : i_MO_arrive 22 = some (.iastore, 1) := rfl
theorem i_MO_arrive_23 : i_MO_arrive 23 = some (.aload_n 0, 1) := rfl
theorem i_MO_arrive_24 : i_MO_arrive 24 = some (.getfield 37, 3) := rfl
theorem i_MO_arrive_27 : i_MO_arrive 27 = some (.aload_n 0, 1) := rfl
theorem i_MO_arrive_28 : i_MO_arrive 28 = some (.getfield 185, 3) := rfl
theorem i_MO_arrive_31 : i_MO_arrive 31 = some (.iload_n 2, 1) := rfl
theorem i_MO_arrive_32 : i_MO_arrive 32 = some (.bastore, 1) := rfl
theorem i_MO_arrive_33 : i_MO_arrive 33 = some (.aload_n 0, 1) := rfl
theorem i_MO_arrive_34 : i_MO_arrive 34 = some (.invokevirtual 188, 3) := rfl
theorem i_MO_arrive_37 : i_MO_arrive 37 = some (.aload_n 0, 1) := rfl
theorem i_MO_arrive_38 : i_MO_arrive 38 = some (.dup, 1) := rfl
theorem i_MO_arrive_39 : i_MO_arrive 39 = some (.getfield 185, 3) := rfl
theorem i_MO_arrive_42 : i_MO_arrive 42 = some (.iconst 1, 1) := rfl
theorem i_MO_arrive_43 : i_MO_arrive 43 = some (.iadd, 1) := rfl
theorem i_MO_arrive_44 : i_MO_arrive 44 = some (.putfield 185, 3) := rfl
theorem i_MO_arrive_47 : i_MO_arrive 47 = some (.aload_n 0, 1) := rfl
theorem i_MO_arrive_48 : i_MO_arrive 48 = some (.getfield 185, 3) := rfl
theorem i_MO_arrive_51 : i_MO_arrive 51 = some (.iconst 1, 1) := rfl
theorem i_MO_arrive_52 : i_MO_arrive 52 = some (.isub, 1) := rfl
theorem i_MO_arrive_53 : i_MO_arrive 53 = some (.ireturn, 1) := rfl
abbrev w_MO_arrive : List Jvm.Cond := Jvm.Cond.code y_MO_arrive b_MO_arrive 3 (some .int) :: vw_W
theorem c_MO_arrive : Jvm.Cond.code y_MO_arrive b_MO_arrive 3 (some .int) ∈ vw_W := vw_t 1038 (by decide +kernel) (by decide +kernel)
abbrev r_MO_arrive : Room := { frames := 1, cells := 0, slots := 0, locals := 20 }
abbrev b_MO_comesIn : ByteArray := prog_13_method_26_code
abbrev y_MO_comesIn : MethodName := ⟨"ServerDeskModel", "comesIn", "()V"⟩
def q_MO_comesIn : List (Nat × Instr × Nat) := [(0, .aload_n 0, 1), (1, .getfield 62, 3), (4, .aload_n 0, 1), (5, .getfield 141, 3), (8, .aload_n 0, 1), (9, .getfield 31, 3), (12, .aload_n 0, 1), (13, .getfield 141, 3), (16, .iaload, 1), (17, .iastore, 1), (18, .aload_n 0, 1), (19, .getfield 65, 3), (22, .aload_n 0, 1), (23, .getfield 141, 3), (26, .iconst (-1), 1), (27, .iastore, 1), (28, .aload_n 0, 1), (29, .dup, 1), (30, .getfield 141, 3), (33, .iconst 1, 1), (34, .iadd, 1), (35, .putfield 141, 3), (38, .return_, 1)]
def i_MO_comesIn : Nat → Option (Instr × Nat) := am_find q_MO_comesIn
theorem d_MO_comesIn_0 : decode b_MO_comesIn 0 = .ok (.aload_n 0, 1) := by decide +kernel
theorem d_MO_comesIn_1 : decode b_MO_comesIn 1 = .ok (.getfield 62, 3) := by decide +kernel
theorem d_MO_comesIn_4 : decode b_MO_comesIn 4 = .ok (.aload_n 0, 1) := by decide +kernel
theorem d_MO_comesIn_5 : decode b_MO_comesIn 5 = .ok (.getfield 141, 3) := by decide +kernel
theorem d_MO_comesIn_8 : decode b_MO_comesIn 8 = .ok (.aload_n 0, 1) := by decide +kernel
theorem d_MO_comesIn_9 : decode b_MO_comesIn 9 = .ok (.getfield 31, 3) := by decide +kernel
theorem d_MO_comesIn_12 : decode b_MO_comesIn 12 = .ok (.aload_n 0, 1) := by decide +kernel
theorem d_MO_comesIn_13 : decode b_MO_comesIn 13 = .ok (.getfield 141, 3) := by decide +kernel
theorem d_MO_comesIn_16 : decode b_MO_comesIn 16 = .ok (.iaload, 1) := by decide +kernel
theorem d_MO_comesIn_17 : decode b_MO_comesIn 17 = .ok (.iastore, 1) := by decide +kernel
theorem d_MO_comesIn_18 : decode b_MO_comesIn 18 = .ok (.aload_n 0, 1) := by decide +kernel
theorem d_MO_comesIn_19 : decode b_MO_comesIn 19 = .ok (.getfield 65, 3) := by decide +kernel
theorem d_MO_comesIn_22 : decode b_MO_comesIn 22 = .ok (.aload_n 0, 1) := by decide +kernel
theorem d_MO_comesIn_23 : decode b_MO_comesIn 23 = .ok (.getfield 141, 3) := by decide +kernel
theorem d_MO_comesIn_26 : decode b_MO_comesIn 26 = .ok (.iconst (-1), 1) := by decide +kernel
theorem d_MO_comesIn_27 : decode b_MO_comesIn 27 = .ok (.iastore, 1) := by decide +kernel
theorem d_MO_comesIn_28 : decode b_MO_comesIn 28 = .ok (.aload_n 0, 1) := by decide +kernel
theorem d_MO_comesIn_29 : decode b_MO_comesIn 29 = .ok (.dup, 1) := by decide +kernel
theorem d_MO_comesIn_30 : decode b_MO_comesIn 30 = .ok (.getfield 141, 3) := by decide +kernel
theorem d_MO_comesIn_33 : decode b_MO_comesIn 33 = .ok (.iconst 1, 1) := by decide +kernel
theorem d_MO_comesIn_34 : decode b_MO_comesIn 34 = .ok (.iadd, 1) := by decide +kernel
theorem d_MO_comesIn_35 : decode b_MO_comesIn 35 = .ok (.putfield 141, 3) := by decide +kernel
theorem d_MO_comesIn_38 : decode b_MO_comesIn 38 = .ok (.return_, 1) := by decide +kernel
theorem d_MO_comesIn : ∀ z ∈ q_MO_comesIn, decode b_MO_comesIn z.1 = .ok z.2 := List.forall_mem_cons.mpr ⟨d_MO_comesIn_0, List.forall_mem_cons.mpr ⟨d_MO_comesIn_1, List.forall_mem_cons.mpr ⟨d_MO_comesIn_4, List.forall_mem_cons.mpr ⟨d_MO_comesIn_5, List.forall_mem_cons.mpr ⟨d_MO_comesIn_8, List.forall_mem_cons.mpr ⟨d_MO_comesIn_9, List.forall_mem_cons.mpr ⟨d_MO_comesIn_12, List.forall_mem_cons.mpr ⟨d_MO_comesIn_13, List.forall_mem_cons.mpr ⟨d_MO_comesIn_16, List.forall_mem_cons.mpr ⟨d_MO_comesIn_17, List.forall_mem_cons.mpr ⟨d_MO_comesIn_18, List.forall_mem_cons.mpr ⟨d_MO_comesIn_19, List.forall_mem_cons.mpr ⟨d_MO_comesIn_22, List.forall_mem_cons.mpr ⟨d_MO_comesIn_23, List.forall_mem_cons.mpr ⟨d_MO_comesIn_26, List.forall_mem_cons.mpr ⟨d_MO_comesIn_27, List.forall_mem_cons.mpr ⟨d_MO_comesIn_28, List.forall_mem_cons.mpr ⟨d_MO_comesIn_29, List.forall_mem_cons.mpr ⟨d_MO_comesIn_30, List.forall_mem_cons.mpr ⟨d_MO_comesIn_33, List.forall_mem_cons.mpr ⟨d_MO_comesIn_34, List.forall_mem_cons.mpr ⟨d_MO_comesIn_35, List.forall_mem_cons.mpr ⟨d_MO_comesIn_38, fun _ h => absurd h List.not_mem_nil⟩⟩⟩⟩⟩⟩⟩⟩⟩⟩⟩⟩⟩⟩⟩⟩⟩⟩⟩⟩⟩⟩⟩
theorem i_MO_comesIn_ok : ∀ pc i n, i_MO_comesIn pc = some (i, n) → decode b_MO_comesIn pc = .ok (i, n) := fun pc i n h => d_MO_comesIn (pc, i, n) (am_find_mem h)
theorem i_MO_comesIn_0 : i_MO_comesIn 0 = some (.aload_n 0, 1) := rfl
theorem i_MO_comesIn_1 : i_MO_comesIn 1 = some (.getfield 62, 3) := rfl
theorem i_MO_comesIn_4 : i_MO_comesIn 4 = some (.aload_n 0, 1) := rfl
theorem i_MO_comesIn_5 : i_MO_comesIn 5 = some (.getfield 141, 3) := rfl
theorem i_MO_comesIn_8 : i_MO_comesIn 8 = some (.aload_n 0, 1) := rfl
theorem i_MO_comesIn_9 : i_MO_comesIn 9 = some (.getfield 31, 3) := rfl
theorem i_MO_comesIn_12 : i_MO_comesIn 12 = some (.aload_n 0, 1) := rfl
theorem i_MO_comesIn_13 : i_MO_comesIn 13 = some (.getfield 141, 3) := rfl
theorem i_MO_comesIn_16 : i_MO_comesIn 16 = some (.iaload, 1) := rfl
theorem i_MO_comesIn_17 : i_MO_comesIn 17 = some (.iastore, 1) := rfl
theorem i_MO_comesIn_18 : i_MO_comesIn 18 = some (.aload_n 0, 1) := rfl
theorem i_MO_comesIn_19 : i_MO_comesIn 19 = some (.getfield 65, 3) := rfl
theorem i_MO_comesIn_22 : i_MO_comesIn 22 = some (.aload_n 0, 1) := rfl
theorem i_MO_comesIn_23 : i_MO_comesIn 23 = some (.getfield 141, 3) := rfl
theorem i_MO_comesIn_26 : i_MO_comesIn 26 = some (.iconst (-1), 1) := rfl
theorem i_MO_comesIn_27 : i_MO_comesIn 27 = some (.iastore, 1) := rfl
theorem i_MO_comesIn_28 : i_MO_comesIn 28 = some (.aload_n 0, 1) := rfl
theorem i_MO_comesIn_29 : i_MO_comesIn 29 = some (.dup, 1) := rfl
theorem i_MO_comesIn_30 : i_MO_comesIn 30 = some (.getfield 141, 3) := rfl
theorem i_MO_comesIn_33 : i_MO_comesIn 33 = some (.iconst 1, 1) := rfl
theorem i_MO_comesIn_34 : i_MO_comesIn 34 = some (.iadd, 1) := rfl
theorem i_MO_comesIn_35 : i_MO_comesIn 35 = some (.putfield 141, 3) := rfl
theorem i_MO_comesIn_38 : i_MO_comesIn 38 = some (.return_, 1) := rfl
abbrev w_MO_comesIn : List Jvm.Cond := Jvm.Cond.code y_MO_comesIn b_MO_comesIn 1 none :: vw_W
theorem c_MO_comesIn : Jvm.Cond.code y_MO_comesIn b_MO_comesIn 1 none ∈ vw_W := vw_t 1042 (by decide +kernel) (by decide +kernel)
abbrev r_MO_comesIn : Room := { frames := 0, cells := 0, slots := 0, locals := 0 }
abbrev b_MO_hard : ByteArray := prog_13_method_28_code
abbrev y_MO_hard : MethodName := ⟨"ServerDeskModel", "hard", "(II)I"⟩
def q_MO_hard : List (Nat × Instr × Nat) := [(0, .aload_n 0, 1), (1, .iload_n 1, 1), (2, .iconst 1, 1), (3, .bipush 30, 2), (5, .invokestatic 103, 3), (8, .ifCond .eq 14, 3), (11, .iload_n 2, 1), (12, .iconst 1, 1), (13, .sipush 200, 3), (16, .invokestatic 103, 3), (19, .ifCond .ne 7, 3), (22, .iconst 1, 1), (23, .goto 32, 3), (26, .aload_n 0, 1), (27, .getfield 111, 3), (30, .ifCond .eq 20, 3), (33, .aload_n 0, 1), (34, .getfield 185, 3), (37, .bipush 40, 2), (39, .if_icmp .eq 11, 3), (42, .aload_n 0, 1), (43, .getfield 125, 3), (46, .iconst 3, 1), (47, .if_icmp .eq 7, 3), (50, .iconst 2, 1), (51, .goto 4, 3), (54, .iconst 0, 1), (55, .putfield 92, 3), (58, .aload_n 0, 1), (59, .getfield 92, 3), (62, .ifCond .le 5, 3), (65, .iconst 0, 1), (66, .ireturn, 1), (67, .iload_n 1, 1), (68, .istore_n 3, 1), (69, .iconst 0, 1), (70, .istore 4, 2), (72, .iload 4, 2), (74, .aload_n 0, 1), (75, .getfield 185, 3), (78, .if_icmp .ge 33, 3), (81, .iload_n 3, 1), (82, .aload_n 0, 1), (83, .getfield 37, 3), (86, .iload 4, 2), (88, .baload, 1), (89, .ifCond .eq 13, 3), (92, .aload_n 0, 1), (93, .getfield 62, 3), (96, .iload 4, 2), (98, .iaload, 1), (99, .goto 4, 3), (102, .iconst 0, 1), (103, .iadd, 1), (104, .istore_n 3, 1), (105, .iinc 4 1, 3), (108, .goto (-36), 3), (111, .aload_n 0, 1), (112, .iload_n 2, 1), (113, .invokevirtual 194, 3), (116, .iload_n 3, 1), (117, .if_icmp .lt 12, 3), (120, .aload_n 0, 1), (121, .iload_n 1, 1), (122, .iconst 1, 1), (123, .invokevirtual 191, 3), (126, .goto 4, 3), (129, .iconst (-1), 1), (130, .ireturn, 1)]
def i_MO_hard : Nat → Option (Instr × Nat) := am_find q_MO_hard
theorem d_MO_hard_0 : decode b_MO_hard 0 = .ok (.aload_n 0, 1) := by decide +kernel
theorem d_MO_hard_1 : decode b_MO_hard 1 = .ok (.iload_n 1, 1) := by decide +kernel
theorem d_MO_hard_2 : decode b_MO_hard 2 = .ok (.iconst 1, 1) := by decide +kernel
theorem d_MO_hard_3 : decode b_MO_hard 3 = .ok (.bipush 30, 2) := by decide +kernel
theorem d_MO_hard_5 : decode b_MO_hard 5 = .ok (.invokestatic 103, 3) := by decide +kernel
theorem d_MO_hard_8 : decode b_MO_hard 8 = .ok (.ifCond .eq 14, 3) := by decide +kernel
theorem d_MO_hard_11 : decode b_MO_hard 11 = .ok (.iload_n 2, 1) := by decide +kernel
theorem d_MO_hard_12 : decode b_MO_hard 12 = .ok (.iconst 1, 1) := by decide +kernel
theorem d_MO_hard_13 : decode b_MO_hard 13 = .ok (.sipush 200, 3) := by decide +kernel
theorem d_MO_hard_16 : decode b_MO_hard 16 = .ok (.invokestatic 103, 3) := by decide +kernel
theorem d_MO_hard_19 : decode b_MO_hard 19 = .ok (.ifCond .ne 7, 3) := by decide +kernel
theorem d_MO_hard_22 : decode b_MO_hard 22 = .ok (.iconst 1, 1) := by decide +kernel
theorem d_MO_hard_23 : decode b_MO_hard 23 = .ok (.goto 32, 3) := by decide +kernel
theorem d_MO_hard_26 : decode b_MO_hard 26 = .ok (.aload_n 0, 1) := by decide +kernel
theorem d_MO_hard_27 : decode b_MO_hard 27 = .ok (.getfield 111, 3) := by decide +kernel
theorem d_MO_hard_30 : decode b_MO_hard 30 = .ok (.ifCond .eq 20, 3) := by decide +kernel
theorem d_MO_hard_33 : decode b_MO_hard 33 = .ok (.aload_n 0, 1) := by decide +kernel
theorem d_MO_hard_34 : decode b_MO_hard 34 = .ok (.getfield 185, 3) := by decide +kernel
theorem d_MO_hard_37 : decode b_MO_hard 37 = .ok (.bipush 40, 2) := by decide +kernel
theorem d_MO_hard_39 : decode b_MO_hard 39 = .ok (.if_icmp .eq 11, 3) := by decide +kernel
theorem d_MO_hard_42 : decode b_MO_hard 42 = .ok (.aload_n 0, 1) := by decide +kernel
theorem d_MO_hard_43 : decode b_MO_hard 43 = .ok (.getfield 125, 3) := by decide +kernel
theorem d_MO_hard_46 : decode b_MO_hard 46 = .ok (.iconst 3, 1) := by decide +kernel
theorem d_MO_hard_47 : decode b_MO_hard 47 = .ok (.if_icmp .eq 7, 3) := by decide +kernel
theorem d_MO_hard_50 : decode b_MO_hard 50 = .ok (.iconst 2, 1) := by decide +kernel
theorem d_MO_hard_51 : decode b_MO_hard 51 = .ok (.goto 4, 3) := by decide +kernel
theorem d_MO_hard_54 : decode b_MO_hard 54 = .ok (.iconst 0, 1) := by decide +kernel
theorem d_MO_hard_55 : decode b_MO_hard 55 = .ok (.putfield 92, 3) := by decide +kernel
theorem d_MO_hard_58 : decode b_MO_hard 58 = .ok (.aload_n 0, 1) := by decide +kernel
theorem d_MO_hard_59 : decode b_MO_hard 59 = .ok (.getfield 92, 3) := by decide +kernel
theorem d_MO_hard_62 : decode b_MO_hard 62 = .ok (.ifCond .le 5, 3) := by decide +kernel
theorem d_MO_hard_65 : decode b_MO_hard 65 = .ok (.iconst 0, 1) := by decide +kernel
theorem d_MO_hard_66 : decode b_MO_hard 66 = .ok (.ireturn, 1) := by decide +kernel
theorem d_MO_hard_67 : decode b_MO_hard 67 = .ok (.iload_n 1, 1) := by decide +kernel
theorem d_MO_hard_68 : decode b_MO_hard 68 = .ok (.istore_n 3, 1) := by decide +kernel
theorem d_MO_hard_69 : decode b_MO_hard 69 = .ok (.iconst 0, 1) := by decide +kernel
theorem d_MO_hard_70 : decode b_MO_hard 70 = .ok (.istore 4, 2) := by decide +kernel
theorem d_MO_hard_72 : decode b_MO_hard 72 = .ok (.iload 4, 2) := by decide +kernel
theorem d_MO_hard_74 : decode b_MO_hard 74 = .ok (.aload_n 0, 1) := by decide +kernel
theorem d_MO_hard_75 : decode b_MO_hard 75 = .ok (.getfield 185, 3) := by decide +kernel
theorem d_MO_hard_78 : decode b_MO_hard 78 = .ok (.if_icmp .ge 33, 3) := by decide +kernel
theorem d_MO_hard_81 : decode b_MO_hard 81 = .ok (.iload_n 3, 1) := by decide +kernel
theorem d_MO_hard_82 : decode b_MO_hard 82 = .ok (.aload_n 0, 1) := by decide +kernel
theorem d_MO_hard_83 : decode b_MO_hard 83 = .ok (.getfield 37, 3) := by decide +kernel
theorem d_MO_hard_86 : decode b_MO_hard 86 = .ok (.iload 4, 2) := by decide +kernel
theorem d_MO_hard_88 : decode b_MO_hard 88 = .ok (.baload, 1) := by decide +kernel
theorem d_MO_hard_89 : decode b_MO_hard 89 = .ok (.ifCond .eq 13, 3) := by decide +kernel
theorem d_MO_hard_92 : decode b_MO_hard 92 = .ok (.aload_n 0, 1) := by decide +kernel
theorem d_MO_hard_93 : decode b_MO_hard 93 = .ok (.getfield 62, 3) := by decide +kernel
theorem d_MO_hard_96 : decode b_MO_hard 96 = .ok (.iload 4, 2) := by decide +kernel
theorem d_MO_hard_98 : decode b_MO_hard 98 = .ok (.iaload, 1) := by decide +kernel
theorem d_MO_hard_99 : decode b_MO_hard 99 = .ok (.goto 4, 3) := by decide +kernel
theorem d_MO_hard_102 : decode b_MO_hard 102 = .ok (.iconst 0, 1) := by decide +kernel
theorem d_MO_hard_103 : decode b_MO_hard 103 = .ok (.iadd, 1) := by decide +kernel
theorem d_MO_hard_104 : decode b_MO_hard 104 = .ok (.istore_n 3, 1) := by decide +kernel
theorem d_MO_hard_105 : decode b_MO_hard 105 = .ok (.iinc 4 1, 3) := by decide +kernel
theorem d_MO_hard_108 : decode b_MO_hard 108 = .ok (.goto (-36), 3) := by decide +kernel
theorem d_MO_hard_111 : decode b_MO_hard 111 = .ok (.aload_n 0, 1) := by decide +kernel
theorem d_MO_hard_112 : decode b_MO_hard 112 = .ok (.iload_n 2, 1) := by decide +kernel
theorem d_MO_hard_113 : decode b_MO_hard 113 = .ok (.invokevirtual 194, 3) := by decide +kernel
theorem d_MO_hard_116 : decode b_MO_hard 116 = .ok (.iload_n 3, 1) := by decide +kernel
theorem d_MO_hard_117 : decode b_MO_hard 117 = .ok (.if_icmp .lt 12, 3) := by decide +kernel
theorem d_MO_hard_120 : decode b_MO_hard 120 = .ok (.aload_n 0, 1) := by decide +kernel
theorem d_MO_hard_121 : decode b_MO_hard 121 = .ok (.iload_n 1, 1) := by decide +kernel
theorem d_MO_hard_122 : decode b_MO_hard 122 = .ok (.iconst 1, 1) := by decide +kernel
theorem d_MO_hard_123 : decode b_MO_hard 123 = .ok (.invokevirtual 191, 3) := by decide +kernel
theorem d_MO_hard_126 : decode b_MO_hard 126 = .ok (.goto 4, 3) := by decide +kernel
theorem d_MO_hard_129 : decode b_MO_hard 129 = .ok (.iconst (-1), 1) := by decide +kernel
theorem d_MO_hard_130 : decode b_MO_hard 130 = .ok (.ireturn, 1) := by decide +kernel
theorem d_MO_hard : ∀ z ∈ q_MO_hard, decode b_MO_hard z.1 = .ok z.2 := List.forall_mem_cons.mpr ⟨d_MO_hard_0, List.forall_mem_cons.mpr ⟨d_MO_hard_1, List.forall_mem_cons.mpr ⟨d_MO_hard_2, List.forall_mem_cons.mpr ⟨d_MO_hard_3, List.forall_mem_cons.mpr ⟨d_MO_hard_5, List.forall_mem_cons.mpr ⟨d_MO_hard_8, List.forall_mem_cons.mpr ⟨d_MO_hard_11, List.forall_mem_cons.mpr ⟨d_MO_hard_12, List.forall_mem_cons.mpr ⟨d_MO_hard_13, List.forall_mem_cons.mpr ⟨d_MO_hard_16, List.forall_mem_cons.mpr ⟨d_MO_hard_19, List.forall_mem_cons.mpr ⟨d_MO_hard_22, List.forall_mem_cons.mpr ⟨d_MO_hard_23, List.forall_mem_cons.mpr ⟨d_MO_hard_26, List.forall_mem_cons.mpr ⟨d_MO_hard_27, List.forall_mem_cons.mpr ⟨d_MO_hard_30, List.forall_mem_cons.mpr ⟨d_MO_hard_33, List.forall_mem_cons.mpr ⟨d_MO_hard_34, List.forall_mem_cons.mpr ⟨d_MO_hard_37, List.forall_mem_cons.mpr ⟨d_MO_hard_39, List.forall_mem_cons.mpr ⟨d_MO_hard_42, List.forall_mem_cons.mpr ⟨d_MO_hard_43, List.forall_mem_cons.mpr ⟨d_MO_hard_46, List.forall_mem_cons.mpr ⟨d_MO_hard_47, List.forall_mem_cons.mpr ⟨d_MO_hard_50, List.forall_mem_cons.mpr ⟨d_MO_hard_51, List.forall_mem_cons.mpr ⟨d_MO_hard_54, List.forall_mem_cons.mpr ⟨d_MO_hard_55, List.forall_mem_cons.mpr ⟨d_MO_hard_58, List.forall_mem_cons.mpr ⟨d_MO_hard_59, List.forall_mem_cons.mpr ⟨d_MO_hard_62, List.forall_mem_cons.mpr ⟨d_MO_hard_65, List.forall_mem_cons.mpr ⟨d_MO_hard_66, List.forall_mem_cons.mpr ⟨d_MO_hard_67, List.forall_mem_cons.mpr ⟨d_MO_hard_68, List.forall_mem_cons.mpr ⟨d_MO_hard_69, List.forall_mem_cons.mpr ⟨d_MO_hard_70, List.forall_mem_cons.mpr ⟨d_MO_hard_72, List.forall_mem_cons.mpr ⟨d_MO_hard_74, List.forall_mem_cons.mpr ⟨d_MO_hard_75, List.forall_mem_cons.mpr ⟨d_MO_hard_78, List.forall_mem_cons.mpr ⟨d_MO_hard_81, List.forall_mem_cons.mpr ⟨d_MO_hard_82, List.forall_mem_cons.mpr ⟨d_MO_hard_83, List.forall_mem_cons.mpr ⟨d_MO_hard_86, List.forall_mem_cons.mpr ⟨d_MO_hard_88, List.forall_mem_cons.mpr ⟨d_MO_hard_89, List.forall_mem_cons.mpr ⟨d_MO_hard_92, List.forall_mem_cons.mpr ⟨d_MO_hard_93, List.forall_mem_cons.mpr ⟨d_MO_hard_96, List.forall_mem_cons.mpr ⟨d_MO_hard_98, List.forall_mem_cons.mpr ⟨d_MO_hard_99, List.forall_mem_cons.mpr ⟨d_MO_hard_102, List.forall_mem_cons.mpr ⟨d_MO_hard_103, List.forall_mem_cons.mpr ⟨d_MO_hard_104, List.forall_mem_cons.mpr ⟨d_MO_hard_105, List.forall_mem_cons.mpr ⟨d_MO_hard_108, List.forall_mem_cons.mpr ⟨d_MO_hard_111, List.forall_mem_cons.mpr ⟨d_MO_hard_112, List.forall_mem_cons.mpr ⟨d_MO_hard_113, List.forall_mem_cons.mpr ⟨d_MO_hard_116, List.forall_mem_cons.mpr ⟨d_MO_hard_117, List.forall_mem_cons.mpr ⟨d_MO_hard_120, List.forall_mem_cons.mpr ⟨d_MO_hard_121, List.forall_mem_cons.mpr ⟨d_MO_hard_122, List.forall_mem_cons.mpr ⟨d_MO_hard_123, List.forall_mem_cons.mpr ⟨d_MO_hard_126, List.forall_mem_cons.mpr ⟨d_MO_hard_129, List.forall_mem_cons.mpr ⟨d_MO_hard_130, fun _ h => absurd h List.not_mem_nil⟩⟩⟩⟩⟩⟩⟩⟩⟩⟩⟩⟩⟩⟩⟩⟩⟩⟩⟩⟩⟩⟩⟩⟩⟩⟩⟩⟩⟩⟩⟩⟩⟩⟩⟩⟩⟩⟩⟩⟩⟩⟩⟩⟩⟩⟩⟩⟩⟩⟩⟩⟩⟩⟩⟩⟩⟩⟩⟩⟩⟩⟩⟩⟩⟩⟩⟩⟩⟩
theorem i_MO_hard_ok : ∀ pc i n, i_MO_hard pc = some (i, n) → decode b_MO_hard pc = .ok (i, n) := fun pc i n h => d_MO_hard (pc, i, n) (am_find_mem h)
theorem i_MO_hard_0 : i_MO_hard 0 = some (.aload_n 0, 1) := rfl
theorem i_MO_hard_1 : i_MO_hard 1 = some (.iload_n 1, 1) := rfl
theorem i_MO_hard_2 : i_MO_hard 2 = some (.iconst 1, 1) := rfl
theorem i_MO_hard_3 : i_MO_hard 3 = some (.bipush 30, 2) := rfl
theorem i_MO_hard_5 : i_MO_hard 5 = some (.invokestatic 103, 3) := rfl
theorem i_MO_hard_8 : i_MO_hard 8 = some (.ifCond .eq 14, 3) := rfl
theorem i_MO_hard_11 : i_MO_hard 11 = some (.iload_n 2, 1) := rfl
theorem i_MO_hard_12 : i_MO_hard 12 = some (.iconst 1, 1) := rfl
theorem i_MO_hard_13 : i_MO_hard 13 = some (.sipush 200, 3) := rfl
theorem i_MO_hard_16 : i_MO_hard 16 = some (.invokestatic 103, 3) := rfl
theorem i_MO_hard_19 : i_MO_hard 19 = some (.ifCond .ne 7, 3) := rfl
theorem i_MO_hard_22 : i_MO_hard 22 = some (.iconst 1, 1) := rfl
theorem i_MO_hard_23 : i_MO_hard 23 = some (.goto 32, 3) := rfl
theorem i_MO_hard_26 : i_MO_hard 26 = some (.aload_n 0, 1) := rfl
theorem i_MO_hard_27 : i_MO_hard 27 = some (.getfield 111, 3) := rfl
theorem i_MO_hard_30 : i_MO_hard 30 = some (.ifCond .eq 20, 3) := rfl
theorem i_MO_hard_33 : i_MO_hard 33 = some (.aload_n 0, 1) := rfl
theorem i_MO_hard_34 : i_MO_hard 34 = some (.getfield 185, 3) := rfl
theorem i_MO_hard_37 : i_MO_hard 37 = some (.bipush 40, 2) := rfl
theorem i_MO_hard_39 : i_MO_hard 39 = some (.if_icmp .eq 11, 3) := rfl
theorem i_MO_hard_42 : i_MO_hard 42 = some (.aload_n 0, 1) := rfl
theorem i_MO_hard_43 : i_MO_hard 43 = some (.getfield 125, 3) := rfl
theorem i_MO_hard_46 : i_MO_hard 46 = some (.iconst 3, 1) := rfl
theorem i_MO_hard_47 : i_MO_hard 47 = some (.if_icmp .eq 7, 3) := rfl
theorem i_MO_hard_50 : i_MO_hard 50 = some (.iconst 2, 1) := rfl
theorem i_MO_hard_51 : i_MO_hard 51 = some (.goto 4, 3) := rfl
theorem i_MO_hard_54 : i_MO_hard 54 = some (.iconst 0, 1) := rfl
theorem i_MO_hard_55 : i_MO_hard 55 = some (.putfield 92, 3) := rfl
theorem i_MO_hard_58 : i_MO_hard 58 = some (.aload_n 0, 1) := rfl
theorem i_MO_hard_59 : i_MO_hard 59 = some (.getfield 92, 3) := rfl
theorem i_MO_hard_62 : i_MO_hard 62 = some (.ifCond .le 5, 3) := rfl
theorem i_MO_hard_65 : i_MO_hard 65 = some (.iconst 0, 1) := rfl
theorem i_MO_hard_66 : i_MO_hard 66 = some (.ireturn, 1) := rfl
theorem i_MO_hard_67 : i_MO_hard 67 = some (.iload_n 1, 1) := rfl
theorem i_MO_hard_68 : i_MO_hard 68 = some (.istore_n 3, 1) := rfl
theorem i_MO_hard_69 : i_MO_hard 69 = some (.iconst 0, 1) := rfl
theorem i_MO_hard_70 : i_MO_hard 70 = some (.istore 4, 2) := rfl
theorem i_MO_hard_72 : i_MO_hard 72 = some (.iload 4, 2) := rfl
theorem i_MO_hard_74 : i_MO_hard 74 = some (.aload_n 0, 1) := rfl
theorem i_MO_hard_75 : i_MO_hard 75 = some (.getfield 185, 3) := rfl
theorem i_MO_hard_78 : i_MO_hard 78 = some (.if_icmp .ge 33, 3) := rfl
theorem i_MO_hard_81 : i_MO_hard 81 = some (.iload_n 3, 1) := rfl
theorem i_MO_hard_82 : i_MO_hard 82 = some (.aload_n 0, 1) := rfl
theorem i_MO_hard_83 : i_MO_hard 83 = some (.getfield 37, 3) := rfl
theorem i_MO_hard_86 : i_MO_hard 86 = some (.iload 4, 2) := rfl
theorem i_MO_hard_88 : i_MO_hard 88 = some (.baload, 1) := rfl
theorem i_MO_hard_89 : i_MO_hard 89 = some (.ifCond .eq 13, 3) := rfl
theorem i_MO_hard_92 : i_MO_hard 92 = some (.aload_n 0, 1) := rfl
theorem i_MO_hard_93 : i_MO_hard 93 = some (.getfield 62, 3) := rfl
theorem i_MO_hard_96 : i_MO_hard 96 = some (.iload 4, 2) := rfl
theorem i_MO_hard_98 : i_MO_hard 98 = some (.iaload, 1) := rfl
theorem i_MO_hard_99 : i_MO_hard 99 = some (.goto 4, 3) := rfl
theorem i_MO_hard_102 : i_MO_hard 102 = some (.iconst 0, 1) := rfl
theorem i_MO_hard_103 : i_MO_hard 103 = some (.iadd, 1) := rfl
theorem i_MO_hard_104 : i_MO_hard 104 = some (.istore_n 3, 1) := rfl
theorem i_MO_hard_105 : i_MO_hard 105 = some (.iinc 4 1, 3) := rfl
theorem i_MO_hard_108 : i_MO_hard 108 = some (.goto (-36), 3) := rfl
theorem i_MO_hard_111 : i_MO_hard 111 = some (.aload_n 0, 1) := rfl
theorem i_MO_hard_112 : i_MO_hard 112 = some (.iload_n 2, 1) := rfl
theorem i_MO_hard_113 : i_MO_hard 113 = some (.invokevirtual 194, 3) := rfl
theorem i_MO_hard_116 : i_MO_hard 116 = some (.iload_n 3, 1) := rfl
theorem i_MO_hard_117 : i_MO_hard 117 = some (.if_icmp .lt 12, 3) := rfl
theorem i_MO_hard_120 : i_MO_hard 120 = some (.aload_n 0, 1) := rfl
theorem i_MO_hard_121 : i_MO_hard 121 = some (.iload_n 1, 1) := rfl
theorem i_MO_hard_122 : i_MO_hard 122 = some (.iconst 1, 1) := rfl
theorem i_MO_hard_123 : i_MO_hard 123 = some (.invokevirtual 191, 3) := rfl
theorem i_MO_hard_126 : i_MO_hard 126 = some (.goto 4, 3) := rfl
theorem i_MO_hard_129 : i_MO_hard 129 = some (.iconst (-1), 1) := rfl
theorem i_MO_hard_130 : i_MO_hard 130 = some (.ireturn, 1) := rfl
abbrev w_MO_hard : List Jvm.Cond := Jvm.Cond.code y_MO_hard b_MO_hard 5 (some .int) :: vw_W
theorem c_MO_hard : Jvm.Cond.code y_MO_hard b_MO_hard 5 (some .int) ∈ vw_W := vw_t 1046 (by decide +kernel) (by decide +kernel)
abbrev r_MO_hard : Room := { frames := 6, cells := 0, slots := 0, locals := 144 }
abbrev b_MO_free : ByteArray := prog_13_method_29_code
abbrev y_MO_free : MethodName := ⟨"ServerDeskModel", "free", "(I)I"⟩
def q_MO_free : List (Nat × Instr × Nat) := [(0, .aload_n 0, 1), (1, .invokevirtual 198, 3), (4, .iconst 0, 1), (5, .istore_n 2, 1), (6, .iconst 0, 1), (7, .istore_n 3, 1), (8, .iload_n 3, 1), (9, .iload_n 1, 1), (10, .if_icmp .ge 60, 3), (13, .aload_n 0, 1), (14, .invokevirtual 169, 3), (17, .aload_n 0, 1), (18, .invokevirtual 175, 3), (21, .istore 4, 2), (23, .iload 4, 2), (25, .iconst (-1), 1), (26, .if_icmp .eq 11, 3), (29, .aload_n 0, 1), (30, .iconst 1, 1), (31, .invokevirtual 162, 3), (34, .ifCond .le 9, 3), (37, .iinc 2 1, 3), (40, .goto 14, 3), (43, .aload_n 0, 1), (44, .getfield 50, 3), (47, .iload 4, 2), (49, .dup2, 1), (50, .iaload, 1), (51, .iconst 1, 1), (52, .isub, 1), (53, .iastore, 1), (54, .aload_n 0, 1), (55, .dup, 1), (56, .getfield 132, 3), (59, .iconst 1, 1), (60, .iadd, 1), (61, .putfield 132, 3), (64, .iinc 3 1, 3), (67, .goto (-59), 3), (70, .aload_n 0, 1), (71, .invokevirtual 201, 3), (74, .iload_n 2, 1), (75, .ireturn, 1)]
def i_MO_free : Nat → Option (Instr × Nat) := am_find q_MO_free
theorem d_MO_free_0 : decode b_MO_free 0 = .ok (.aload_n 0, 1) := by decide +kernel
theorem d_MO_free_1 : decode b_MO_free 1 = .ok (.invokevirtual 198, 3) := by decide +kernel
theorem d_MO_free_4 : decode b_MO_free 4 = .ok (.iconst 0, 1) := by decide +kernel
theorem d_MO_free_5 : decode b_MO_free 5 = .ok (.istore_n 2, 1) := by decide +kernel
theorem d_MO_free_6 : decode b_MO_free 6 = .ok (.iconst 0, 1) := by decide +kernel
theorem d_MO_free_7 : decode b_MO_free 7 = .ok (.istore_n 3, 1) := by decide +kernel
theorem d_MO_free_8 : decode b_MO_free 8 = .ok (.iload_n 3, 1) := by decide +kernel
theorem d_MO_free_9 : decode b_MO_free 9 = .ok (.iload_n 1, 1) := by decide +kernel
theorem d_MO_free_10 : decode b_MO_free 10 = .ok (.if_icmp .ge 60, 3) := by decide +kernel
theorem d_MO_free_13 : decode b_MO_free 13 = .ok (.aload_n 0, 1) := by decide +kernel
theorem d_MO_free_14 : decode b_MO_free 14 = .ok (.invokevirtual 169, 3) := by decide +kernel
theorem d_MO_free_17 : decode b_MO_free 17 = .ok (.aload_n 0, 1) := by decide +kernel
theorem d_MO_free_18 : decode b_MO_free 18 = .ok (.invokevirtual 175, 3) := by decide +kernel
theorem d_MO_free_21 : decode b_MO_free 21 = .ok (.istore 4, 2) := by decide +kernel
theorem d_MO_free_23 : decode b_MO_free 23 = .ok (.iload 4, 2) := by decide +kernel
theorem d_MO_free_25 : decode b_MO_free 25 = .ok (.iconst (-1), 1) := by decide +kernel
theorem d_MO_free_26 : decode b_MO_free 26 = .ok (.if_icmp .eq 11, 3) := by decide +kernel
theorem d_MO_free_29 : decode b_MO_free 29 = .ok (.aload_n 0, 1) := by decide +kernel
theorem d_MO_free_30 : decode b_MO_free 30 = .ok (.iconst 1, 1) := by decide +kernel
theorem d_MO_free_31 : decode b_MO_free 31 = .ok (.invokevirtual 162, 3) := by decide +kernel
theorem d_MO_free_34 : decode b_MO_free 34 = .ok (.ifCond .le 9, 3) := by decide +kernel
theorem d_MO_free_37 : decode b_MO_free 37 = .ok (.iinc 2 1, 3) := by decide +kernel
theorem d_MO_free_40 : decode b_MO_free 40 = .ok (.goto 14, 3) := by decide +kernel
theorem d_MO_free_43 : decode b_MO_free 43 = .ok (.aload_n 0, 1) := by decide +kernel
theorem d_MO_free_44 : decode b_MO_free 44 = .ok (.getfield 50, 3) := by decide +kernel
theorem d_MO_free_47 : decode b_MO_free 47 = .ok (.iload 4, 2) := by decide +kernel
theorem d_MO_free_49 : decode b_MO_free 49 = .ok (.dup2, 1) := by decide +kernel
theorem d_MO_free_50 : decode b_MO_free 50 = .ok (.iaload, 1) := by decide +kernel
theorem d_MO_free_51 : decode b_MO_free 51 = .ok (.iconst 1, 1) := by decide +kernel
theorem d_MO_free_52 : decode b_MO_free 52 = .ok (.isub, 1) := by decide +kernel
theorem d_MO_free_53 : decode b_MO_free 53 = .ok (.iastore, 1) := by decide +kernel
theorem d_MO_free_54 : decode b_MO_free 54 = .ok (.aload_n 0, 1) := by decide +kernel
theorem d_MO_free_55 : decode b_MO_free 55 = .ok (.dup, 1) := by decide +kernel
theorem d_MO_free_56 : decode b_MO_free 56 = .ok (.getfield 132, 3) := by decide +kernel
theorem d_MO_free_59 : decode b_MO_free 59 = .ok (.iconst 1, 1) := by decide +kernel
theorem d_MO_free_60 : decode b_MO_free 60 = .ok (.iadd, 1) := by decide +kernel
theorem d_MO_free_61 : decode b_MO_free 61 = .ok (.putfield 132, 3) := by decide +kernel
theorem d_MO_free_64 : decode b_MO_free 64 = .ok (.iinc 3 1, 3) := by decide +kernel
theorem d_MO_free_67 : decode b_MO_free 67 = .ok (.goto (-59), 3) := by decide +kernel
theorem d_MO_free_70 : decode b_MO_free 70 = .ok (.aload_n 0, 1) := by decide +kernel
theorem d_MO_free_71 : decode b_MO_free 71 = .ok (.invokevirtual 201, 3) := by decide +kernel
theorem d_MO_free_74 : decode b_MO_free 74 = .ok (.iload_n 2, 1) := by decide +kernel
theorem d_MO_free_75 : decode b_MO_free 75 = .ok (.ireturn, 1) := by decide +kernel
theorem d_MO_free : ∀ z ∈ q_MO_free, decode b_MO_free z.1 = .ok z.2 := List.forall_mem_cons.mpr ⟨d_MO_free_0, List.forall_mem_cons.mpr ⟨d_MO_free_1, List.forall_mem_cons.mpr ⟨d_MO_free_4, List.forall_mem_cons.mpr ⟨d_MO_free_5, List.forall_mem_cons.mpr ⟨d_MO_free_6, List.forall_mem_cons.mpr ⟨d_MO_free_7, List.forall_mem_cons.mpr ⟨d_MO_free_8, List.forall_mem_cons.mpr ⟨d_MO_free_9, List.forall_mem_cons.mpr ⟨d_MO_free_10, List.forall_mem_cons.mpr ⟨d_MO_free_13, List.forall_mem_cons.mpr ⟨d_MO_free_14, List.forall_mem_cons.mpr ⟨d_MO_free_17, List.forall_mem_cons.mpr ⟨d_MO_free_18, List.forall_mem_cons.mpr ⟨d_MO_free_21, List.forall_mem_cons.mpr ⟨d_MO_free_23, List.forall_mem_cons.mpr ⟨d_MO_free_25, List.forall_mem_cons.mpr ⟨d_MO_free_26, List.forall_mem_cons.mpr ⟨d_MO_free_29, List.forall_mem_cons.mpr ⟨d_MO_free_30, List.forall_mem_cons.mpr ⟨d_MO_free_31, List.forall_mem_cons.mpr ⟨d_MO_free_34, List.forall_mem_cons.mpr ⟨d_MO_free_37, List.forall_mem_cons.mpr ⟨d_MO_free_40, List.forall_mem_cons.mpr ⟨d_MO_free_43, List.forall_mem_cons.mpr ⟨d_MO_free_44, List.forall_mem_cons.mpr ⟨d_MO_free_47, List.forall_mem_cons.mpr ⟨d_MO_free_49, List.forall_mem_cons.mpr ⟨d_MO_free_50, List.forall_mem_cons.mpr ⟨d_MO_free_51, List.forall_mem_cons.mpr ⟨d_MO_free_52, List.forall_mem_cons.mpr ⟨d_MO_free_53, List.forall_mem_cons.mpr ⟨d_MO_free_54, List.forall_mem_cons.mpr ⟨d_MO_free_55, List.forall_mem_cons.mpr ⟨d_MO_free_56, List.forall_mem_cons.mpr ⟨d_MO_free_59, List.forall_mem_cons.mpr ⟨d_MO_free_60, List.forall_mem_cons.mpr ⟨d_MO_free_61, List.forall_mem_cons.mpr ⟨d_MO_free_64, List.forall_mem_cons.mpr ⟨d_MO_free_67, List.forall_mem_cons.mpr ⟨d_MO_free_70, List.forall_mem_cons.mpr ⟨d_MO_free_71, List.forall_mem_cons.mpr ⟨d_MO_free_74, List.forall_mem_cons.mpr ⟨d_MO_free_75, fun _ h => absurd h List.not_mem_nil⟩⟩⟩⟩⟩⟩⟩⟩⟩⟩⟩⟩⟩⟩⟩⟩⟩⟩⟩⟩⟩⟩⟩⟩⟩⟩⟩⟩⟩⟩⟩⟩⟩⟩⟩⟩⟩⟩⟩⟩⟩⟩⟩
theorem i_MO_free_ok : ∀ pc i n, i_MO_free pc = some (i, n) → decode b_MO_free pc = .ok (i, n) := fun pc i n h => d_MO_free (pc, i, n) (am_find_mem h)
theorem i_MO_free_0 : i_MO_free 0 = some (.aload_n 0, 1) := rfl
theorem i_MO_free_1 : i_MO_free 1 = some (.invokevirtual 198, 3) := rfl
theorem i_MO_free_4 : i_MO_free 4 = some (.iconst 0, 1) := rfl
theorem i_MO_free_5 : i_MO_free 5 = some (.istore_n 2, 1) := rfl
theorem i_MO_free_6 : i_MO_free 6 = some (.iconst 0, 1) := rfl
theorem i_MO_free_7 : i_MO_free 7 = some (.istore_n 3, 1) := rfl
theorem i_MO_free_8 : i_MO_free 8 = some (.iload_n 3, 1) := rfl
theorem i_MO_free_9 : i_MO_free 9 = some (.iload_n 1, 1) := rfl
theorem i_MO_free_10 : i_MO_free 10 = some (.if_icmp .ge 60, 3) := rfl
theorem i_MO_free_13 : i_MO_free 13 = some (.aload_n 0, 1) := rfl
theorem i_MO_free_14 : i_MO_free 14 = some (.invokevirtual 169, 3) := rfl
theorem i_MO_free_17 : i_MO_free 17 = some (.aload_n 0, 1) := rfl
theorem i_MO_free_18 : i_MO_free 18 = some (.invokevirtual 175, 3) := rfl
theorem i_MO_free_21 : i_MO_free 21 = some (.istore 4, 2) := rfl
theorem i_MO_free_23 : i_MO_free 23 = some (.iload 4, 2) := rfl
theorem i_MO_free_25 : i_MO_free 25 = some (.iconst (-1), 1) := rfl
theorem i_MO_free_26 : i_MO_free 26 = some (.if_icmp .eq 11, 3) := rfl
theorem i_MO_free_29 : i_MO_free 29 = some (.aload_n 0, 1) := rfl
theorem i_MO_free_30 : i_MO_free 30 = some (.iconst 1, 1) := rfl
theorem i_MO_free_31 : i_MO_free 31 = some (.invokevirtual 162, 3) := rfl
theorem i_MO_free_34 : i_MO_free 34 = some (.ifCond .le 9, 3) := rfl
theorem i_MO_free_37 : i_MO_free 37 = some (.iinc 2 1, 3) := rfl
theorem i_MO_free_40 : i_MO_free 40 = some (.goto 14, 3) := rfl
theorem i_MO_free_43 : i_MO_free 43 = some (.aload_n 0, 1) := rfl
theorem i_MO_free_44 : i_MO_free 44 = some (.getfield 50, 3) := rfl
theorem i_MO_free_47 : i_MO_free 47 = some (.iload 4, 2) := rfl
theorem i_MO_free_49 : i_MO_free 49 = some (.dup2, 1) := rfl
theorem i_MO_free_50 : i_MO_free 50 = some (.iaload, 1) := rfl
theorem i_MO_free_51 : i_MO_free 51 = some (.iconst 1, 1) := rfl
theorem i_MO_free_52 : i_MO_free 52 = some (.isub, 1) := rfl
theorem i_MO_free_53 : i_MO_free 53 = some (.iastore, 1) := rfl
theorem i_MO_free_54 : i_MO_free 54 = some (.aload_n 0, 1) := rfl
theorem i_MO_free_55 : i_MO_free 55 = some (.dup, 1) := rfl
theorem i_MO_free_56 : i_MO_free 56 = some (.getfield 132, 3) := rfl
theorem i_MO_free_59 : i_MO_free 59 = some (.iconst 1, 1) := rfl
theorem i_MO_free_60 : i_MO_free 60 = some (.iadd, 1) := rfl
theorem i_MO_free_61 : i_MO_free 61 = some (.putfield 132, 3) := rfl
theorem i_MO_free_64 : i_MO_free 64 = some (.iinc 3 1, 3) := rfl
theorem i_MO_free_67 : i_MO_free 67 = some (.goto (-59), 3) := rfl
theorem i_MO_free_70 : i_MO_free 70 = some (.aload_n 0, 1) := rfl
theorem i_MO_free_71 : i_MO_free 71 = some (.invokevirtual 201, 3) := rfl
theorem i_MO_free_74 : i_MO_free 74 = some (.iload_n 2, 1) := rfl
theorem i_MO_free_75 : i_MO_free 75 = some (.ireturn, 1) := rfl
abbrev w_MO_free : List Jvm.Cond := Jvm.Cond.code y_MO_free b_MO_free 5 (some .int) :: vw_W
theorem c_MO_free : Jvm.Cond.code y_MO_free b_MO_free 5 (some .int) ∈ vw_W := vw_t 1050 (by decide +kernel) (by decide +kernel)
abbrev r_MO_free : Room := { frames := 5, cells := 0, slots := 0, locals := 120 }
abbrev b_MO_keep : ByteArray := prog_13_method_32_code
abbrev y_MO_keep : MethodName := ⟨"ServerDeskModel", "keep", "()V"⟩
def q_MO_keep : List (Nat × Instr × Nat) := [(0, .aload_n 0, 1), (1, .aload_n 0, 1), (2, .getfield 132, 3), (5, .putfield 211, 3), (8, .aload_n 0, 1), (9, .aload_n 0, 1), (10, .getfield 135, 3), (13, .putfield 214, 3), (16, .aload_n 0, 1), (17, .aload_n 0, 1), (18, .getfield 138, 3), (21, .putfield 217, 3), (24, .aload_n 0, 1), (25, .aload_n 0, 1), (26, .getfield 141, 3), (29, .putfield 220, 3), (32, .aload_n 0, 1), (33, .aload_n 0, 1), (34, .getfield 144, 3), (37, .putfield 223, 3), (40, .iconst 0, 1), (41, .istore_n 1, 1), (42, .iload_n 1, 1), (43, .iconst 5, 1), (44, .if_icmp .ge 45, 3), (47, .aload_n 0, 1), (48, .getfield 71, 3), (51, .iload_n 1, 1), (52, .aload_n 0, 1), (53, .getfield 50, 3), (56, .iload_n 1, 1), (57, .iaload, 1), (58, .iastore, 1), (59, .aload_n 0, 1), (60, .getfield 74, 3), (63, .iload_n 1, 1), (64, .aload_n 0, 1), (65, .getfield 53, 3), (68, .iload_n 1, 1), (69, .iaload, 1), (70, .iastore, 1), (71, .aload_n 0, 1), (72, .getfield 77, 3), (75, .iload_n 1, 1), (76, .aload_n 0, 1), (77, .getfield 56, 3), (80, .iload_n 1, 1), (81, .iaload, 1), (82, .iastore, 1), (83, .iinc 1 1, 3), (86, .goto (-44), 3), (89, .iconst 0, 1), (90, .istore_n 1, 1), (91, .iload_n 1, 1), (92, .bipush 40, 2), (94, .if_icmp .ge 33, 3), (97, .aload_n 0, 1), (98, .getfield 83, 3), (101, .iload_n 1, 1), (102, .aload_n 0, 1), (103, .getfield 62, 3), (106, .iload_n 1, 1), (107, .iaload, 1), (108, .iastore, 1), (109, .aload_n 0, 1), (110, .getfield 86, 3), (113, .iload_n 1, 1), (114, .aload_n 0, 1), (115, .getfield 65, 3), (118, .iload_n 1, 1), (119, .iaload, 1), (120, .iastore, 1), (121, .iinc 1 1, 3), (124, .goto (-33), 3), (127, .iconst 0, 1), (128, .istore_n 1, 1), (129, .iload_n 1, 1), (130, .sipush 2000, 3), (133, .if_icmp .gt 33, 3), (136, .aload_n 0, 1), (137, .getfield 80, 3), (140, .iload_n 1, 1), (141, .aload_n 0, 1), (142, .getfield 59, 3), (145, .iload_n 1, 1), (146, .iaload, 1), (147, .iastore, 1), (148, .aload_n 0, 1), (149, .getfield 89, 3), (152, .iload_n 1, 1), (153, .aload_n 0, 1), (154, .getfield 68, 3), (157, .iload_n 1, 1), (158, .iaload, 1), (159, .iastore, 1), (160, .iinc 1 1, 3), (163, .goto (-34), 3), (166, .return_, 1)]
def i_MO_keep : Nat → Option (Instr × Nat) := am_find q_MO_keep
theorem d_MO_keep_0 : decode b_MO_keep 0 = .ok (.aload_n 0, 1) := by decide +kernel
theorem d_MO_keep_1 : decode b_MO_keep 1 = .ok (.aload_n 0, 1) := by decide +kernel
theorem d_MO_keep_2 : decode b_MO_keep 2 = .ok (.getfield 132, 3) := by decide +kernel
theorem d_MO_keep_5 : decode b_MO_keep 5 = .ok (.putfield 211, 3) := by decide +kernel
theorem d_MO_keep_8 : decode b_MO_keep 8 = .ok (.aload_n 0, 1) := by decide +kernel
theorem d_MO_keep_9 : decode b_MO_keep 9 = .ok (.aload_n 0, 1) := by decide +kernel
theorem d_MO_keep_10 : decode b_MO_keep 10 = .ok (.getfield 135, 3) := by decide +kernel
theorem d_MO_keep_13 : decode b_MO_keep 13 = .ok (.putfield 214, 3) := by decide +kernel
theorem d_MO_keep_16 : decode b_MO_keep 16 = .ok (.aload_n 0, 1) := by decide +kernel
theorem d_MO_keep_17 : decode b_MO_keep 17 = .ok (.aload_n 0, 1) := by decide +kernel
theorem d_MO_keep_18 : decode b_MO_keep 18 = .ok (.getfield 138, 3) := by decide +kernel
theorem d_MO_keep_21 : decode b_MO_keep 21 = .ok (.putfield 217, 3) := by decide +kernel
theorem d_MO_keep_24 : decode b_MO_keep 24 = .ok (.aload_n 0, 1) := by decide +kernel
theorem d_MO_keep_25 : decode b_MO_keep 25 = .ok (.aload_n 0, 1) := by decide +kernel
theorem d_MO_keep_26 : decode b_MO_keep 26 = .ok (.getfield 141, 3) := by decide +kernel
theorem d_MO_keep_29 : decode b_MO_keep 29 = .ok (.putfield 220, 3) := by decide +kernel
theorem d_MO_keep_32 : decode b_MO_keep 32 = .ok (.aload_n 0, 1) := by decide +kernel
theorem d_MO_keep_33 : decode b_MO_keep 33 = .ok (.aload_n 0, 1) := by decide +kernel
theorem d_MO_keep_34 : decode b_MO_keep 34 = .ok (.getfield 144, 3) := by decide +kernel
theorem d_MO_keep_37 : decode b_MO_keep 37 = .ok (.putfield 223, 3) := by decide +kernel
theorem d_MO_keep_40 : decode b_MO_keep 40 = .ok (.iconst 0, 1) := by decide +kernel
theorem d_MO_keep_41 : decode b_MO_keep 41 = .ok (.istore_n 1, 1) := by decide +kernel
theorem d_MO_keep_42 : decode b_MO_keep 42 = .ok (.iload_n 1, 1) := by decide +kernel
theorem d_MO_keep_43 : decode b_MO_keep 43 = .ok (.iconst 5, 1) := by decide +kernel
theorem d_MO_keep_44 : decode b_MO_keep 44 = .ok (.if_icmp .ge 45, 3) := by decide +kernel
theorem d_MO_keep_47 : decode b_MO_keep 47 = .ok (.aload_n 0, 1) := by decide +kernel
theorem d_MO_keep_48 : decode b_MO_keep 48 = .ok (.getfield 71, 3) := by decide +kernel
theorem d_MO_keep_51 : decode b_MO_keep 51 = .ok (.iload_n 1, 1) := by decide +kernel
theorem d_MO_keep_52 : decode b_MO_keep 52 = .ok (.aload_n 0, 1) := by decide +kernel
theorem d_MO_keep_53 : decode b_MO_keep 53 = .ok (.getfield 50, 3) := by decide +kernel
theorem d_MO_keep_56 : decode b_MO_keep 56 = .ok (.iload_n 1, 1) := by decide +kernel
theorem d_MO_keep_57 : decode b_MO_keep 57 = .ok (.iaload, 1) := by decide +kernel
theorem d_MO_keep_58 : decode b_MO_keep 58 = .ok (.iastore, 1) := by decide +kernel
theorem d_MO_keep_59 : decode b_MO_keep 59 = .ok (.aload_n 0, 1) := by decide +kernel
theorem d_MO_keep_60 : decode b_MO_keep 60 = .ok (.getfield 74, 3) := by decide +kernel
theorem d_MO_keep_63 : decode b_MO_keep 63 = .ok (.iload_n 1, 1) := by decide +kernel
theorem d_MO_keep_64 : decode b_MO_keep 64 = .ok (.aload_n 0, 1) := by decide +kernel
theorem d_MO_keep_65 : decode b_MO_keep 65 = .ok (.getfield 53, 3) := by decide +kernel
theorem d_MO_keep_68 : decode b_MO_keep 68 = .ok (.iload_n 1, 1) := by decide +kernel
theorem d_MO_keep_69 : decode b_MO_keep 69 = .ok (.iaload, 1) := by decide +kernel
theorem d_MO_keep_70 : decode b_MO_keep 70 = .ok (.iastore, 1) := by decide +kernel
theorem d_MO_keep_71 : decode b_MO_keep 71 = .ok (.aload_n 0, 1) := by decide +kernel
theorem d_MO_keep_72 : decode b_MO_keep 72 = .ok (.getfield 77, 3) := by decide +kernel
theorem d_MO_keep_75 : decode b_MO_keep 75 = .ok (.iload_n 1, 1) := by decide +kernel
theorem d_MO_keep_76 : decode b_MO_keep 76 = .ok (.aload_n 0, 1) := by decide +kernel
theorem d_MO_keep_77 : decode b_MO_keep 77 = .ok (.getfield 56, 3) := by decide +kernel
theorem d_MO_keep_80 : decode b_MO_keep 80 = .ok (.iload_n 1, 1) := by decide +kernel
theorem d_MO_keep_81 : decode b_MO_keep 81 = .ok (.iaload, 1) := by decide +kernel
theorem d_MO_keep_82 : decode b_MO_keep 82 = .ok (.iastore, 1) := by decide +kernel
theorem d_MO_keep_83 : decode b_MO_keep 83 = .ok (.iinc 1 1, 3) := by decide +kernel
theorem d_MO_keep_86 : decode b_MO_keep 86 = .ok (.goto (-44), 3) := by decide +kernel
theorem d_MO_keep_89 : decode b_MO_keep 89 = .ok (.iconst 0, 1) := by decide +kernel
theorem d_MO_keep_90 : decode b_MO_keep 90 = .ok (.istore_n 1, 1) := by decide +kernel
theorem d_MO_keep_91 : decode b_MO_keep 91 = .ok (.iload_n 1, 1) := by decide +kernel
theorem d_MO_keep_92 : decode b_MO_keep 92 = .ok (.bipush 40, 2) := by decide +kernel
theorem d_MO_keep_94 : decode b_MO_keep 94 = .ok (.if_icmp .ge 33, 3) := by decide +kernel
theorem d_MO_keep_97 : decode b_MO_keep 97 = .ok (.aload_n 0, 1) := by decide +kernel
theorem d_MO_keep_98 : decode b_MO_keep 98 = .ok (.getfield 83, 3) := by decide +kernel
theorem d_MO_keep_101 : decode b_MO_keep 101 = .ok (.iload_n 1, 1) := by decide +kernel
theorem d_MO_keep_102 : decode b_MO_keep 102 = .ok (.aload_n 0, 1) := by decide +kernel
theorem d_MO_keep_103 : decode b_MO_keep 103 = .ok (.getfield 62, 3) := by decide +kernel
theorem d_MO_keep_106 : decode b_MO_keep 106 = .ok (.iload_n 1, 1) := by decide +kernel
theorem d_MO_keep_107 : decode b_MO_keep 107 = .ok (.iaload, 1) := by decide +kernel
theorem d_MO_keep_108 : decode b_MO_keep 108 = .ok (.iastore, 1) := by decide +kernel
theorem d_MO_keep_109 : decode b_MO_keep 109 = .ok (.aload_n 0, 1) := by decide +kernel
theorem d_MO_keep_110 : decode b_MO_keep 110 = .ok (.getfield 86, 3) := by decide +kernel
theorem d_MO_keep_113 : decode b_MO_keep 113 = .ok (.iload_n 1, 1) := by decide +kernel
theorem d_MO_keep_114 : decode b_MO_keep 114 = .ok (.aload_n 0, 1) := by decide +kernel
theorem d_MO_keep_115 : decode b_MO_keep 115 = .ok (.getfield 65, 3) := by decide +kernel
theorem d_MO_keep_118 : decode b_MO_keep 118 = .ok (.iload_n 1, 1) := by decide +kernel
theorem d_MO_keep_119 : decode b_MO_keep 119 = .ok (.iaload, 1) := by decide +kernel
theorem d_MO_keep_120 : decode b_MO_keep 120 = .ok (.iastore, 1) := by decide +kernel
theorem d_MO_keep_121 : decode b_MO_keep 121 = .ok (.iinc 1 1, 3) := by decide +kernel
theorem d_MO_keep_124 : decode b_MO_keep 124 = .ok (.goto (-33), 3) := by decide +kernel
theorem d_MO_keep_127 : decode b_MO_keep 127 = .ok (.iconst 0, 1) := by decide +kernel
theorem d_MO_keep_128 : decode b_MO_keep 128 = .ok (.istore_n 1, 1) := by decide +kernel
theorem d_MO_keep_129 : decode b_MO_keep 129 = .ok (.iload_n 1, 1) := by decide +kernel
theorem d_MO_keep_130 : decode b_MO_keep 130 = .ok (.sipush 2000, 3) := by decide +kernel
theorem d_MO_keep_133 : decode b_MO_keep 133 = .ok (.if_icmp .gt 33, 3) := by decide +kernel
theorem d_MO_keep_136 : decode b_MO_keep 136 = .ok (.aload_n 0, 1) := by decide +kernel
theorem d_MO_keep_137 : decode b_MO_keep 137 = .ok (.getfield 80, 3) := by decide +kernel
theorem d_MO_keep_140 : decode b_MO_keep 140 = .ok (.iload_n 1, 1) := by decide +kernel
theorem d_MO_keep_141 : decode b_MO_keep 141 = .ok (.aload_n 0, 1) := by decide +kernel
theorem d_MO_keep_142 : decode b_MO_keep 142 = .ok (.getfield 59, 3) := by decide +kernel
theorem d_MO_keep_145 : decode b_MO_keep 145 = .ok (.iload_n 1, 1) := by decide +kernel
theorem d_MO_keep_146 : decode b_MO_keep 146 = .ok (.iaload, 1) := by decide +kernel
theorem d_MO_keep_147 : decode b_MO_keep 147 = .ok (.iastore, 1) := by decide +kernel
theorem d_MO_keep_148 : decode b_MO_keep 148 = .ok (.aload_n 0, 1) := by decide +kernel
theorem d_MO_keep_149 : decode b_MO_keep 149 = .ok (.getfield 89, 3) := by decide +kernel
theorem d_MO_keep_152 : decode b_MO_keep 152 = .ok (.iload_n 1, 1) := by decide +kernel
theorem d_MO_keep_153 : decode b_MO_keep 153 = .ok (.aload_n 0, 1) := by decide +kernel
theorem d_MO_keep_154 : decode b_MO_keep 154 = .ok (.getfield 68, 3) := by decide +kernel
theorem d_MO_keep_157 : decode b_MO_keep 157 = .ok (.iload_n 1, 1) := by decide +kernel
theorem d_MO_keep_158 : decode b_MO_keep 158 = .ok (.iaload, 1) := by decide +kernel
theorem d_MO_keep_159 : decode b_MO_keep 159 = .ok (.iastore, 1) := by decide +kernel
theorem d_MO_keep_160 : decode b_MO_keep 160 = .ok (.iinc 1 1, 3) := by decide +kernel
theorem d_MO_keep_163 : decode b_MO_keep 163 = .ok (.goto (-34), 3) := by decide +kernel
theorem d_MO_keep_166 : decode b_MO_keep 166 = .ok (.return_, 1) := by decide +kernel
theorem d_MO_keep : ∀ z ∈ q_MO_keep, decode b_MO_keep z.1 = .ok z.2 := List.forall_mem_cons.mpr ⟨d_MO_keep_0, List.forall_mem_cons.mpr ⟨d_MO_keep_1, List.forall_mem_cons.mpr ⟨d_MO_keep_2, List.forall_mem_cons.mpr ⟨d_MO_keep_5, List.forall_mem_cons.mpr ⟨d_MO_keep_8, List.forall_mem_cons.mpr ⟨d_MO_keep_9, List.forall_mem_cons.mpr ⟨d_MO_keep_10, List.forall_mem_cons.mpr ⟨d_MO_keep_13, List.forall_mem_cons.mpr ⟨d_MO_keep_16, List.forall_mem_cons.mpr ⟨d_MO_keep_17, List.forall_mem_cons.mpr ⟨d_MO_keep_18, List.forall_mem_cons.mpr ⟨d_MO_keep_21, List.forall_mem_cons.mpr ⟨d_MO_keep_24, List.forall_mem_cons.mpr ⟨d_MO_keep_25, List.forall_mem_cons.mpr ⟨d_MO_keep_26, List.forall_mem_cons.mpr ⟨d_MO_keep_29, List.forall_mem_cons.mpr ⟨d_MO_keep_32, List.forall_mem_cons.mpr ⟨d_MO_keep_33, List.forall_mem_cons.mpr ⟨d_MO_keep_34, List.forall_mem_cons.mpr ⟨d_MO_keep_37, List.forall_mem_cons.mpr ⟨d_MO_keep_40, List.forall_mem_cons.mpr ⟨d_MO_keep_41, List.forall_mem_cons.mpr ⟨d_MO_keep_42, List.forall_mem_cons.mpr ⟨d_MO_keep_43, List.forall_mem_cons.mpr ⟨d_MO_keep_44, List.forall_mem_cons.mpr ⟨d_MO_keep_47, List.forall_mem_cons.mpr ⟨d_MO_keep_48, List.forall_mem_cons.mpr ⟨d_MO_keep_51, List.forall_mem_cons.mpr ⟨d_MO_keep_52, List.forall_mem_cons.mpr ⟨d_MO_keep_53, List.forall_mem_cons.mpr ⟨d_MO_keep_56, List.forall_mem_cons.mpr ⟨d_MO_keep_57, List.forall_mem_cons.mpr ⟨d_MO_keep_58, List.forall_mem_cons.mpr ⟨d_MO_keep_59, List.forall_mem_cons.mpr ⟨d_MO_keep_60, List.forall_mem_cons.mpr ⟨d_MO_keep_63, List.forall_mem_cons.mpr ⟨d_MO_keep_64, List.forall_mem_cons.mpr ⟨d_MO_keep_65, List.forall_mem_cons.mpr ⟨d_MO_keep_68, List.forall_mem_cons.mpr ⟨d_MO_keep_69, List.forall_mem_cons.mpr ⟨d_MO_keep_70, List.forall_mem_cons.mpr ⟨d_MO_keep_71, List.forall_mem_cons.mpr ⟨d_MO_keep_72, List.forall_mem_cons.mpr ⟨d_MO_keep_75, List.forall_mem_cons.mpr ⟨d_MO_keep_76, List.forall_mem_cons.mpr ⟨d_MO_keep_77, List.forall_mem_cons.mpr ⟨d_MO_keep_80, List.forall_mem_cons.mpr ⟨d_MO_keep_81, List.forall_mem_cons.mpr ⟨d_MO_keep_82, List.forall_mem_cons.mpr ⟨d_MO_keep_83, List.forall_mem_cons.mpr ⟨d_MO_keep_86, List.forall_mem_cons.mpr ⟨d_MO_keep_89, List.forall_mem_cons.mpr ⟨d_MO_keep_90, List.forall_mem_cons.mpr ⟨d_MO_keep_91, List.forall_mem_cons.mpr ⟨d_MO_keep_92, List.forall_mem_cons.mpr ⟨d_MO_keep_94, List.forall_mem_cons.mpr ⟨d_MO_keep_97, List.forall_mem_cons.mpr ⟨d_MO_keep_98, List.forall_mem_cons.mpr ⟨d_MO_keep_101, List.forall_mem_cons.mpr ⟨d_MO_keep_102, List.forall_mem_cons.mpr ⟨d_MO_keep_103, List.forall_mem_cons.mpr ⟨d_MO_keep_106, List.forall_mem_cons.mpr ⟨d_MO_keep_107, List.forall_mem_cons.mpr ⟨d_MO_keep_108, List.forall_mem_cons.mpr ⟨d_MO_keep_109, List.forall_mem_cons.mpr ⟨d_MO_keep_110, List.forall_mem_cons.mpr ⟨d_MO_keep_113, List.forall_mem_cons.mpr ⟨d_MO_keep_114, List.forall_mem_cons.mpr ⟨d_MO_keep_115, List.forall_mem_cons.mpr ⟨d_MO_keep_118, List.forall_mem_cons.mpr ⟨d_MO_keep_119, List.forall_mem_cons.mpr ⟨d_MO_keep_120, List.forall_mem_cons.mpr ⟨d_MO_keep_121, List.forall_mem_cons.mpr ⟨d_MO_keep_124, List.forall_mem_cons.mpr ⟨d_MO_keep_127, List.forall_mem_cons.mpr ⟨d_MO_keep_128, List.forall_mem_cons.mpr ⟨d_MO_keep_129, List.forall_mem_cons.mpr ⟨d_MO_keep_130, List.forall_mem_cons.mpr ⟨d_MO_keep_133, List.forall_mem_cons.mpr ⟨d_MO_keep_136, List.forall_mem_cons.mpr ⟨d_MO_keep_137, List.forall_mem_cons.mpr ⟨d_MO_keep_140, List.forall_mem_cons.mpr ⟨d_MO_keep_141, List.forall_mem_cons.mpr ⟨d_MO_keep_142, List.forall_mem_cons.mpr ⟨d_MO_keep_145, List.forall_mem_cons.mpr ⟨d_MO_keep_146, List.forall_mem_cons.mpr ⟨d_MO_keep_147, List.forall_mem_cons.mpr ⟨d_MO_keep_148, List.forall_mem_cons.mpr ⟨d_MO_keep_149, List.forall_mem_cons.mpr ⟨d_MO_keep_152, List.forall_mem_cons.mpr ⟨d_MO_keep_153, List.forall_mem_cons.mpr ⟨d_MO_keep_154, List.forall_mem_cons.mpr ⟨d_MO_keep_157, List.forall_mem_cons.mpr ⟨d_MO_keep_158, List.forall_mem_cons.mpr ⟨d_MO_keep_159, List.forall_mem_cons.mpr ⟨d_MO_keep_160, List.forall_mem_cons.mpr ⟨d_MO_keep_163, List.forall_mem_cons.mpr ⟨d_MO_keep_166, fun _ h => absurd h List.not_mem_nil⟩⟩⟩⟩⟩⟩⟩⟩⟩⟩⟩⟩⟩⟩⟩⟩⟩⟩⟩⟩⟩⟩⟩⟩⟩⟩⟩⟩⟩⟩⟩⟩⟩⟩⟩⟩⟩⟩⟩⟩⟩⟩⟩⟩⟩⟩⟩⟩⟩⟩⟩⟩⟩⟩⟩⟩⟩⟩⟩⟩⟩⟩⟩⟩⟩⟩⟩⟩⟩⟩⟩⟩⟩⟩⟩⟩⟩⟩⟩⟩⟩⟩⟩⟩⟩⟩⟩⟩⟩⟩⟩⟩⟩⟩⟩⟩⟩⟩
theorem i_MO_keep_ok : ∀ pc i n, i_MO_keep pc = some (i, n) → decode b_MO_keep pc = .ok (i, n) := fun pc i n h => d_MO_keep (pc, i, n) (am_find_mem h)
theorem i_MO_keep_0 : i_MO_keep 0 = some (.aload_n 0, 1) := rfl
theorem i_MO_keep_1 : i_MO_keep 1 = some (.aload_n 0, 1) := rfl
theorem i_MO_keep_2 : i_MO_keep 2 = some (.getfield 132, 3) := rfl
theorem i_MO_keep_5 : i_MO_keep 5 = some (.putfield 211, 3) := rfl
theorem i_MO_keep_8 : i_MO_keep 8 = some (.aload_n 0, 1) := rfl
theorem i_MO_keep_9 : i_MO_keep 9 = some (.aload_n 0, 1) := rfl
theorem i_MO_keep_10 : i_MO_keep 10 = some (.getfield 135, 3) := rfl
theorem i_MO_keep_13 : i_MO_keep 13 = some (.putfield 214, 3) := rfl
theorem i_MO_keep_16 : i_MO_keep 16 = some (.aload_n 0, 1) := rfl
theorem i_MO_keep_17 : i_MO_keep 17 = some (.aload_n 0, 1) := rfl
theorem i_MO_keep_18 : i_MO_keep 18 = some (.getfield 138, 3) := rfl
theorem i_MO_keep_21 : i_MO_keep 21 = some (.putfield 217, 3) := rfl
theorem i_MO_keep_24 : i_MO_keep 24 = some (.aload_n 0, 1) := rfl
theorem i_MO_keep_25 : i_MO_keep 25 = some (.aload_n 0, 1) := rfl
theorem i_MO_keep_26 : i_MO_keep 26 = some (.getfield 141, 3) := rfl
theorem i_MO_keep_29 : i_MO_keep 29 = some (.putfield 220, 3) := rfl
theorem i_MO_keep_32 : i_MO_keep 32 = some (.aload_n 0, 1) := rfl
theorem i_MO_keep_33 : i_MO_keep 33 = some (.aload_n 0, 1) := rfl
theorem i_MO_keep_34 : i_MO_keep 34 = some (.getfield 144, 3) := rfl
theorem i_MO_keep_37 : i_MO_keep 37 = some (.putfield 223, 3) := rfl
theorem i_MO_keep_40 : i_MO_keep 40 = some (.iconst 0, 1) := rfl
theorem i_MO_keep_41 : i_MO_keep 41 = some (.istore_n 1, 1) := rfl
theorem i_MO_keep_42 : i_MO_keep 42 = some (.iload_n 1, 1) := rfl
theorem i_MO_keep_43 : i_MO_keep 43 = some (.iconst 5, 1) := rfl
theorem i_MO_keep_44 : i_MO_keep 44 = some (.if_icmp .ge 45, 3) := rfl
theorem i_MO_keep_47 : i_MO_keep 47 = some (.aload_n 0, 1) := rfl
theorem i_MO_keep_48 : i_MO_keep 48 = some (.getfield 71, 3) := rfl
theorem i_MO_keep_51 : i_MO_keep 51 = some (.iload_n 1, 1) := rfl
theorem i_MO_keep_52 : i_MO_keep 52 = some (.aload_n 0, 1) := rfl
theorem i_MO_keep_53 : i_MO_keep 53 = some (.getfield 50, 3) := rfl
theorem i_MO_keep_56 : i_MO_keep 56 = some (.iload_n 1, 1) := rfl
theorem i_MO_keep_57 : i_MO_keep 57 = some (.iaload, 1) := rfl
theorem i_MO_keep_58 : i_MO_keep 58 = some (.iastore, 1) := rfl
theorem i_MO_keep_59 : i_MO_keep 59 = some (.aload_n 0, 1) := rfl
theorem i_MO_keep_60 : i_MO_keep 60 = some (.getfield 74, 3) := rfl
theorem i_MO_keep_63 : i_MO_keep 63 = some (.iload_n 1, 1) := rfl
theorem i_MO_keep_64 : i_MO_keep 64 = some (.aload_n 0, 1) := rfl
theorem i_MO_keep_65 : i_MO_keep 65 = some (.getfield 53, 3) := rfl
theorem i_MO_keep_68 : i_MO_keep 68 = some (.iload_n 1, 1) := rfl
theorem i_MO_keep_69 : i_MO_keep 69 = some (.iaload, 1) := rfl
theorem i_MO_keep_70 : i_MO_keep 70 = some (.iastore, 1) := rfl
theorem i_MO_keep_71 : i_MO_keep 71 = some (.aload_n 0, 1) := rfl
theorem i_MO_keep_72 : i_MO_keep 72 = some (.getfield 77, 3) := rfl
theorem i_MO_keep_75 : i_MO_keep 75 = some (.iload_n 1, 1) := rfl
theorem i_MO_keep_76 : i_MO_keep 76 = some (.aload_n 0, 1) := rfl
theorem i_MO_keep_77 : i_MO_keep 77 = some (.getfield 56, 3) := rfl
theorem i_MO_keep_80 : i_MO_keep 80 = some (.iload_n 1, 1) := rfl
theorem i_MO_keep_81 : i_MO_keep 81 = some (.iaload, 1) := rfl
theorem i_MO_keep_82 : i_MO_keep 82 = some (.iastore, 1) := rfl
theorem i_MO_keep_83 : i_MO_keep 83 = some (.iinc 1 1, 3) := rfl
theorem i_MO_keep_86 : i_MO_keep 86 = some (.goto (-44), 3) := rfl
theorem i_MO_keep_89 : i_MO_keep 89 = some (.iconst 0, 1) := rfl
theorem i_MO_keep_90 : i_MO_keep 90 = some (.istore_n 1, 1) := rfl
theorem i_MO_keep_91 : i_MO_keep 91 = some (.iload_n 1, 1) := rfl
theorem i_MO_keep_92 : i_MO_keep 92 = some (.bipush 40, 2) := rfl
theorem i_MO_keep_94 : i_MO_keep 94 = some (.if_icmp .ge 33, 3) := rfl
theorem i_MO_keep_97 : i_MO_keep 97 = some (.aload_n 0, 1) := rfl
theorem i_MO_keep_98 : i_MO_keep 98 = some (.getfield 83, 3) := rfl
theorem i_MO_keep_101 : i_MO_keep 101 = some (.iload_n 1, 1) := rfl
theorem i_MO_keep_102 : i_MO_keep 102 = some (.aload_n 0, 1) := rfl
theorem i_MO_keep_103 : i_MO_keep 103 = some (.getfield 62, 3) := rfl
theorem i_MO_keep_106 : i_MO_keep 106 = some (.iload_n 1, 1) := rfl
theorem i_MO_keep_107 : i_MO_keep 107 = some (.iaload, 1) := rfl
theorem i_MO_keep_108 : i_MO_keep 108 = some (.iastore, 1) := rfl
theorem i_MO_keep_109 : i_MO_keep 109 = some (.aload_n 0, 1) := rfl
theorem i_MO_keep_110 : i_MO_keep 110 = some (.getfield 86, 3) := rfl
theorem i_MO_keep_113 : i_MO_keep 113 = some (.iload_n 1, 1) := rfl
theorem i_MO_keep_114 : i_MO_keep 114 = some (.aload_n 0, 1) := rfl
theorem i_MO_keep_115 : i_MO_keep 115 = some (.getfield 65, 3) := rfl
theorem i_MO_keep_118 : i_MO_keep 118 = some (.iload_n 1, 1) := rfl
theorem i_MO_keep_119 : i_MO_keep 119 = some (.iaload, 1) := rfl
theorem i_MO_keep_120 : i_MO_keep 120 = some (.iastore, 1) := rfl
theorem i_MO_keep_121 : i_MO_keep 121 = some (.iinc 1 1, 3) := rfl
theorem i_MO_keep_124 : i_MO_keep 124 = some (.goto (-33), 3) := rfl
theorem i_MO_keep_127 : i_MO_keep 127 = some (.iconst 0, 1) := rfl
theorem i_MO_keep_128 : i_MO_keep 128 = some (.istore_n 1, 1) := rfl
theorem i_MO_keep_129 : i_MO_keep 129 = some (.iload_n 1, 1) := rfl
theorem i_MO_keep_130 : i_MO_keep 130 = some (.sipush 2000, 3) := rfl
theorem i_MO_keep_133 : i_MO_keep 133 = some (.if_icmp .gt 33, 3) := rfl
theorem i_MO_keep_136 : i_MO_keep 136 = some (.aload_n 0, 1) := rfl
theorem i_MO_keep_137 : i_MO_keep 137 = some (.getfield 80, 3) := rfl
theorem i_MO_keep_140 : i_MO_keep 140 = some (.iload_n 1, 1) := rfl
theorem i_MO_keep_141 : i_MO_keep 141 = some (.aload_n 0, 1) := rfl
theorem i_MO_keep_142 : i_MO_keep 142 = some (.getfield 59, 3) := rfl
theorem i_MO_keep_145 : i_MO_keep 145 = some (.iload_n 1, 1) := rfl
theorem i_MO_keep_146 : i_MO_keep 146 = some (.iaload, 1) := rfl
theorem i_MO_keep_147 : i_MO_keep 147 = some (.iastore, 1) := rfl
theorem i_MO_keep_148 : i_MO_keep 148 = some (.aload_n 0, 1) := rfl
theorem i_MO_keep_149 : i_MO_keep 149 = some (.getfield 89, 3) := rfl
theorem i_MO_keep_152 : i_MO_keep 152 = some (.iload_n 1, 1) := rfl
theorem i_MO_keep_153 : i_MO_keep 153 = some (.aload_n 0, 1) := rfl
set_option maxRecDepth 100000 in
theorem i_MO_keep_154 : i_MO_keep 154 = some (.getfield 68, 3) := rfl
set_option maxRecDepth 100000 in
theorem i_MO_keep_157 : i_MO_keep 157 = some (.iload_n 1, 1) := rfl
set_option maxRecDepth 100000 in
theorem i_MO_keep_158 : i_MO_keep 158 = some (.iaload, 1) := rfl
set_option maxRecDepth 100000 in
theorem i_MO_keep_159 : i_MO_keep 159 = some (.iastore, 1) := rfl
set_option maxRecDepth 100000 in
theorem i_MO_keep_160 : i_MO_keep 160 = some (.iinc 1 1, 3) := rfl
set_option maxRecDepth 100000 in
theorem i_MO_keep_163 : i_MO_keep 163 = some (.goto (-34), 3) := rfl
set_option maxRecDepth 100000 in
theorem i_MO_keep_166 : i_MO_keep 166 = some (.return_, 1) := rfl
abbrev w_MO_keep : List Jvm.Cond := Jvm.Cond.code y_MO_keep b_MO_keep 2 none :: vw_W
theorem c_MO_keep : Jvm.Cond.code y_MO_keep b_MO_keep 2 none ∈ vw_W := vw_t 1054 (by decide +kernel) (by decide +kernel)
abbrev r_MO_keep : Room := { frames := 0, cells := 0, slots := 0, locals := 0 }
abbrev b_MO_layBack : ByteArray := prog_13_method_33_code
abbrev y_MO_layBack : MethodName := ⟨"ServerDeskModel", "layBack", "()V"⟩
def q_MO_layBack : List (Nat × Instr × Nat) := [(0, .aload_n 0, 1), (1, .aload_n 0, 1), (2, .getfield 211, 3), (5, .putfield 132, 3), (8, .aload_n 0, 1), (9, .aload_n 0, 1), (10, .getfield 214, 3), (13, .putfield 135, 3), (16, .aload_n 0, 1), (17, .aload_n 0, 1), (18, .getfield 217, 3), (21, .putfield 138, 3), (24, .aload_n 0, 1), (25, .aload_n 0, 1), (26, .getfield 220, 3), (29, .putfield 141, 3), (32, .aload_n 0, 1), (33, .aload_n 0, 1), (34, .getfield 223, 3), (37, .putfield 144, 3), (40, .iconst 0, 1), (41, .istore_n 1, 1), (42, .iload_n 1, 1), (43, .iconst 5, 1), (44, .if_icmp .ge 45, 3), (47, .aload_n 0, 1), (48, .getfield 50, 3), (51, .iload_n 1, 1), (52, .aload_n 0, 1), (53, .getfield 71, 3), (56, .iload_n 1, 1), (57, .iaload, 1), (58, .iastore, 1), (59, .aload_n 0, 1), (60, .getfield 53, 3), (63, .iload_n 1, 1), (64, .aload_n 0, 1), (65, .getfield 74, 3), (68, .iload_n 1, 1), (69, .iaload, 1), (70, .iastore, 1), (71, .aload_n 0, 1), (72, .getfield 56, 3), (75, .iload_n 1, 1), (76, .aload_n 0, 1), (77, .getfield 77, 3), (80, .iload_n 1, 1), (81, .iaload, 1), (82, .iastore, 1), (83, .iinc 1 1, 3), (86, .goto (-44), 3), (89, .iconst 0, 1), (90, .istore_n 1, 1), (91, .iload_n 1, 1), (92, .bipush 40, 2), (94, .if_icmp .ge 33, 3), (97, .aload_n 0, 1), (98, .getfield 62, 3), (101, .iload_n 1, 1), (102, .aload_n 0, 1), (103, .getfield 83, 3), (106, .iload_n 1, 1), (107, .iaload, 1), (108, .iastore, 1), (109, .aload_n 0, 1), (110, .getfield 65, 3), (113, .iload_n 1, 1), (114, .aload_n 0, 1), (115, .getfield 86, 3), (118, .iload_n 1, 1), (119, .iaload, 1), (120, .iastore, 1), (121, .iinc 1 1, 3), (124, .goto (-33), 3), (127, .iconst 0, 1), (128, .istore_n 1, 1), (129, .iload_n 1, 1), (130, .sipush 2000, 3), (133, .if_icmp .gt 33, 3), (136, .aload_n 0, 1), (137, .getfield 59, 3), (140, .iload_n 1, 1), (141, .aload_n 0, 1), (142, .getfield 80, 3), (145, .iload_n 1, 1), (146, .iaload, 1), (147, .iastore, 1), (148, .aload_n 0, 1), (149, .getfield 68, 3), (152, .iload_n 1, 1), (153, .aload_n 0, 1), (154, .getfield 89, 3), (157, .iload_n 1, 1), (158, .iaload, 1), (159, .iastore, 1), (160, .iinc 1 1, 3), (163, .goto (-34), 3), (166, .return_, 1)]
def i_MO_layBack : Nat → Option (Instr × Nat) := am_find q_MO_layBack
theorem d_MO_layBack_0 : decode b_MO_layBack 0 = .ok (.aload_n 0, 1) := by decide +kernel
theorem d_MO_layBack_1 : decode b_MO_layBack 1 = .ok (.aload_n 0, 1) := by decide +kernel
theorem d_MO_layBack_2 : decode b_MO_layBack 2 = .ok (.getfield 211, 3) := by decide +kernel
theorem d_MO_layBack_5 : decode b_MO_layBack 5 = .ok (.putfield 132, 3) := by decide +kernel
theorem d_MO_layBack_8 : decode b_MO_layBack 8 = .ok (.aload_n 0, 1) := by decide +kernel
theorem d_MO_layBack_9 : decode b_MO_layBack 9 = .ok (.aload_n 0, 1) := by decide +kernel
theorem d_MO_layBack_10 : decode b_MO_layBack 10 = .ok (.getfield 214, 3) := by decide +kernel
theorem d_MO_layBack_13 : decode b_MO_layBack 13 = .ok (.putfield 135, 3) := by decide +kernel
theorem d_MO_layBack_16 : decode b_MO_layBack 16 = .ok (.aload_n 0, 1) := by decide +kernel
theorem d_MO_layBack_17 : decode b_MO_layBack 17 = .ok (.aload_n 0, 1) := by decide +kernel
theorem d_MO_layBack_18 : decode b_MO_layBack 18 = .ok (.getfield 217, 3) := by decide +kernel
theorem d_MO_layBack_21 : decode b_MO_layBack 21 = .ok (.putfield 138, 3) := by decide +kernel
theorem d_MO_layBack_24 : decode b_MO_layBack 24 = .ok (.aload_n 0, 1) := by decide +kernel
theorem d_MO_layBack_25 : decode b_MO_layBack 25 = .ok (.aload_n 0, 1) := by decide +kernel
theorem d_MO_layBack_26 : decode b_MO_layBack 26 = .ok (.getfield 220, 3) := by decide +kernel
theorem d_MO_layBack_29 : decode b_MO_layBack 29 = .ok (.putfield 141, 3) := by decide +kernel
theorem d_MO_layBack_32 : decode b_MO_layBack 32 = .ok (.aload_n 0, 1) := by decide +kernel
theorem d_MO_layBack_33 : decode b_MO_layBack 33 = .ok (.aload_n 0, 1) := by decide +kernel
theorem d_MO_layBack_34 : decode b_MO_layBack 34 = .ok (.getfield 223, 3) := by decide +kernel
theorem d_MO_layBack_37 : decode b_MO_layBack 37 = .ok (.putfield 144, 3) := by decide +kernel
theorem d_MO_layBack_40 : decode b_MO_layBack 40 = .ok (.iconst 0, 1) := by decide +kernel
theorem d_MO_layBack_41 : decode b_MO_layBack 41 = .ok (.istore_n 1, 1) := by decide +kernel
theorem d_MO_layBack_42 : decode b_MO_layBack 42 = .ok (.iload_n 1, 1) := by decide +kernel
theorem d_MO_layBack_43 : decode b_MO_layBack 43 = .ok (.iconst 5, 1) := by decide +kernel
theorem d_MO_layBack_44 : decode b_MO_layBack 44 = .ok (.if_icmp .ge 45, 3) := by decide +kernel
theorem d_MO_layBack_47 : decode b_MO_layBack 47 = .ok (.aload_n 0, 1) := by decide +kernel
theorem d_MO_layBack_48 : decode b_MO_layBack 48 = .ok (.getfield 50, 3) := by decide +kernel
theorem d_MO_layBack_51 : decode b_MO_layBack 51 = .ok (.iload_n 1, 1) := by decide +kernel
theorem d_MO_layBack_52 : decode b_MO_layBack 52 = .ok (.aload_n 0, 1) := by decide +kernel
theorem d_MO_layBack_53 : decode b_MO_layBack 53 = .ok (.getfield 71, 3) := by decide +kernel
theorem d_MO_layBack_56 : decode b_MO_layBack 56 = .ok (.iload_n 1, 1) := by decide +kernel
theorem d_MO_layBack_57 : decode b_MO_layBack 57 = .ok (.iaload, 1) := by decide +kernel
theorem d_MO_layBack_58 : decode b_MO_layBack 58 = .ok (.iastore, 1) := by decide +kernel
theorem d_MO_layBack_59 : decode b_MO_layBack 59 = .ok (.aload_n 0, 1) := by decide +kernel
theorem d_MO_layBack_60 : decode b_MO_layBack 60 = .ok (.getfield 53, 3) := by decide +kernel
theorem d_MO_layBack_63 : decode b_MO_layBack 63 = .ok (.iload_n 1, 1) := by decide +kernel
theorem d_MO_layBack_64 : decode b_MO_layBack 64 = .ok (.aload_n 0, 1) := by decide +kernel
theorem d_MO_layBack_65 : decode b_MO_layBack 65 = .ok (.getfield 74, 3) := by decide +kernel
theorem d_MO_layBack_68 : decode b_MO_layBack 68 = .ok (.iload_n 1, 1) := by decide +kernel
theorem d_MO_layBack_69 : decode b_MO_layBack 69 = .ok (.iaload, 1) := by decide +kernel
theorem d_MO_layBack_70 : decode b_MO_layBack 70 = .ok (.iastore, 1) := by decide +kernel
theorem d_MO_layBack_71 : decode b_MO_layBack 71 = .ok (.aload_n 0, 1) := by decide +kernel
theorem d_MO_layBack_72 : decode b_MO_layBack 72 = .ok (.getfield 56, 3) := by decide +kernel
theorem d_MO_layBack_75 : decode b_MO_layBack 75 = .ok (.iload_n 1, 1) := by decide +kernel
theorem d_MO_layBack_76 : decode b_MO_layBack 76 = .ok (.aload_n 0, 1) := by decide +kernel
theorem d_MO_layBack_77 : decode b_MO_layBack 77 = .ok (.getfield 77, 3) := by decide +kernel
theorem d_MO_layBack_80 : decode b_MO_layBack 80 = .ok (.iload_n 1, 1) := by decide +kernel
theorem d_MO_layBack_81 : decode b_MO_layBack 81 = .ok (.iaload, 1) := by decide +kernel
theorem d_MO_layBack_82 : decode b_MO_layBack 82 = .ok (.iastore, 1) := by decide +kernel
theorem d_MO_layBack_83 : decode b_MO_layBack 83 = .ok (.iinc 1 1, 3) := by decide +kernel
theorem d_MO_layBack_86 : decode b_MO_layBack 86 = .ok (.goto (-44), 3) := by decide +kernel
theorem d_MO_layBack_89 : decode b_MO_layBack 89 = .ok (.iconst 0, 1) := by decide +kernel
theorem d_MO_layBack_90 : decode b_MO_layBack 90 = .ok (.istore_n 1, 1) := by decide +kernel
theorem d_MO_layBack_91 : decode b_MO_layBack 91 = .ok (.iload_n 1, 1) := by decide +kernel
theorem d_MO_layBack_92 : decode b_MO_layBack 92 = .ok (.bipush 40, 2) := by decide +kernel
theorem d_MO_layBack_94 : decode b_MO_layBack 94 = .ok (.if_icmp .ge 33, 3) := by decide +kernel
theorem d_MO_layBack_97 : decode b_MO_layBack 97 = .ok (.aload_n 0, 1) := by decide +kernel
theorem d_MO_layBack_98 : decode b_MO_layBack 98 = .ok (.getfield 62, 3) := by decide +kernel
theorem d_MO_layBack_101 : decode b_MO_layBack 101 = .ok (.iload_n 1, 1) := by decide +kernel
theorem d_MO_layBack_102 : decode b_MO_layBack 102 = .ok (.aload_n 0, 1) := by decide +kernel
theorem d_MO_layBack_103 : decode b_MO_layBack 103 = .ok (.getfield 83, 3) := by decide +kernel
theorem d_MO_layBack_106 : decode b_MO_layBack 106 = .ok (.iload_n 1, 1) := by decide +kernel
theorem d_MO_layBack_107 : decode b_MO_layBack 107 = .ok (.iaload, 1) := by decide +kernel
theorem d_MO_layBack_108 : decode b_MO_layBack 108 = .ok (.iastore, 1) := by decide +kernel
theorem d_MO_layBack_109 : decode b_MO_layBack 109 = .ok (.aload_n 0, 1) := by decide +kernel
theorem d_MO_layBack_110 : decode b_MO_layBack 110 = .ok (.getfield 65, 3) := by decide +kernel
theorem d_MO_layBack_113 : decode b_MO_layBack 113 = .ok (.iload_n 1, 1) := by decide +kernel
theorem d_MO_layBack_114 : decode b_MO_layBack 114 = .ok (.aload_n 0, 1) := by decide +kernel
theorem d_MO_layBack_115 : decode b_MO_layBack 115 = .ok (.getfield 86, 3) := by decide +kernel
theorem d_MO_layBack_118 : decode b_MO_layBack 118 = .ok (.iload_n 1, 1) := by decide +kernel
theorem d_MO_layBack_119 : decode b_MO_layBack 119 = .ok (.iaload, 1) := by decide +kernel
theorem d_MO_layBack_120 : decode b_MO_layBack 120 = .ok (.iastore, 1) := by decide +kernel
theorem d_MO_layBack_121 : decode b_MO_layBack 121 = .ok (.iinc 1 1, 3) := by decide +kernel
theorem d_MO_layBack_124 : decode b_MO_layBack 124 = .ok (.goto (-33), 3) := by decide +kernel
theorem d_MO_layBack_127 : decode b_MO_layBack 127 = .ok (.iconst 0, 1) := by decide +kernel
theorem d_MO_layBack_128 : decode b_MO_layBack 128 = .ok (.istore_n 1, 1) := by decide +kernel
theorem d_MO_layBack_129 : decode b_MO_layBack 129 = .ok (.iload_n 1, 1) := by decide +kernel
theorem d_MO_layBack_130 : decode b_MO_layBack 130 = .ok (.sipush 2000, 3) := by decide +kernel
theorem d_MO_layBack_133 : decode b_MO_layBack 133 = .ok (.if_icmp .gt 33, 3) := by decide +kernel
theorem d_MO_layBack_136 : decode b_MO_layBack 136 = .ok (.aload_n 0, 1) := by decide +kernel
theorem d_MO_layBack_137 : decode b_MO_layBack 137 = .ok (.getfield 59, 3) := by decide +kernel
theorem d_MO_layBack_140 : decode b_MO_layBack 140 = .ok (.iload_n 1, 1) := by decide +kernel
theorem d_MO_layBack_141 : decode b_MO_layBack 141 = .ok (.aload_n 0, 1) := by decide +kernel
theorem d_MO_layBack_142 : decode b_MO_layBack 142 = .ok (.getfield 80, 3) := by decide +kernel
theorem d_MO_layBack_145 : decode b_MO_layBack 145 = .ok (.iload_n 1, 1) := by decide +kernel
theorem d_MO_layBack_146 : decode b_MO_layBack 146 = .ok (.iaload, 1) := by decide +kernel
theorem d_MO_layBack_147 : decode b_MO_layBack 147 = .ok (.iastore, 1) := by decide +kernel
theorem d_MO_layBack_148 : decode b_MO_layBack 148 = .ok (.aload_n 0, 1) := by decide +kernel
theorem d_MO_layBack_149 : decode b_MO_layBack 149 = .ok (.getfield 68, 3) := by decide +kernel
theorem d_MO_layBack_152 : decode b_MO_layBack 152 = .ok (.iload_n 1, 1) := by decide +kernel
theorem d_MO_layBack_153 : decode b_MO_layBack 153 = .ok (.aload_n 0, 1) := by decide +kernel
theorem d_MO_layBack_154 : decode b_MO_layBack 154 = .ok (.getfield 89, 3) := by decide +kernel
theorem d_MO_layBack_157 : decode b_MO_layBack 157 = .ok (.iload_n 1, 1) := by decide +kernel
theorem d_MO_layBack_158 : decode b_MO_layBack 158 = .ok (.iaload, 1) := by decide +kernel
theorem d_MO_layBack_159 : decode b_MO_layBack 159 = .ok (.iastore, 1) := by decide +kernel
theorem d_MO_layBack_160 : decode b_MO_layBack 160 = .ok (.iinc 1 1, 3) := by decide +kernel
theorem d_MO_layBack_163 : decode b_MO_layBack 163 = .ok (.goto (-34), 3) := by decide +kernel
theorem d_MO_layBack_166 : decode b_MO_layBack 166 = .ok (.return_, 1) := by decide +kernel
theorem d_MO_layBack : ∀ z ∈ q_MO_layBack, decode b_MO_layBack z.1 = .ok z.2 := List.forall_mem_cons.mpr ⟨d_MO_layBack_0, List.forall_mem_cons.mpr ⟨d_MO_layBack_1, List.forall_mem_cons.mpr ⟨d_MO_layBack_2, List.forall_mem_cons.mpr ⟨d_MO_layBack_5, List.forall_mem_cons.mpr ⟨d_MO_layBack_8, List.forall_mem_cons.mpr ⟨d_MO_layBack_9, List.forall_mem_cons.mpr ⟨d_MO_layBack_10, List.forall_mem_cons.mpr ⟨d_MO_layBack_13, List.forall_mem_cons.mpr ⟨d_MO_layBack_16, List.forall_mem_cons.mpr ⟨d_MO_layBack_17, List.forall_mem_cons.mpr ⟨d_MO_layBack_18, List.forall_mem_cons.mpr ⟨d_MO_layBack_21, List.forall_mem_cons.mpr ⟨d_MO_layBack_24, List.forall_mem_cons.mpr ⟨d_MO_layBack_25, List.forall_mem_cons.mpr ⟨d_MO_layBack_26, List.forall_mem_cons.mpr ⟨d_MO_layBack_29, List.forall_mem_cons.mpr ⟨d_MO_layBack_32, List.forall_mem_cons.mpr ⟨d_MO_layBack_33, List.forall_mem_cons.mpr ⟨d_MO_layBack_34, List.forall_mem_cons.mpr ⟨d_MO_layBack_37, List.forall_mem_cons.mpr ⟨d_MO_layBack_40, List.forall_mem_cons.mpr ⟨d_MO_layBack_41, List.forall_mem_cons.mpr ⟨d_MO_layBack_42, List.forall_mem_cons.mpr ⟨d_MO_layBack_43, List.forall_mem_cons.mpr ⟨d_MO_layBack_44, List.forall_mem_cons.mpr ⟨d_MO_layBack_47, List.forall_mem_cons.mpr ⟨d_MO_layBack_48, List.forall_mem_cons.mpr ⟨d_MO_layBack_51, List.forall_mem_cons.mpr ⟨d_MO_layBack_52, List.forall_mem_cons.mpr ⟨d_MO_layBack_53, List.forall_mem_cons.mpr ⟨d_MO_layBack_56, List.forall_mem_cons.mpr ⟨d_MO_layBack_57, List.forall_mem_cons.mpr ⟨d_MO_layBack_58, List.forall_mem_cons.mpr ⟨d_MO_layBack_59, List.forall_mem_cons.mpr ⟨d_MO_layBack_60, List.forall_mem_cons.mpr ⟨d_MO_layBack_63, List.forall_mem_cons.mpr ⟨d_MO_layBack_64, List.forall_mem_cons.mpr ⟨d_MO_layBack_65, List.forall_mem_cons.mpr ⟨d_MO_layBack_68, List.forall_mem_cons.mpr ⟨d_MO_layBack_69, List.forall_mem_cons.mpr ⟨d_MO_layBack_70, List.forall_mem_cons.mpr ⟨d_MO_layBack_71, List.forall_mem_cons.mpr ⟨d_MO_layBack_72, List.forall_mem_cons.mpr ⟨d_MO_layBack_75, List.forall_mem_cons.mpr ⟨d_MO_layBack_76, List.forall_mem_cons.mpr ⟨d_MO_layBack_77, List.forall_mem_cons.mpr ⟨d_MO_layBack_80, List.forall_mem_cons.mpr ⟨d_MO_layBack_81, List.forall_mem_cons.mpr ⟨d_MO_layBack_82, List.forall_mem_cons.mpr ⟨d_MO_layBack_83, List.forall_mem_cons.mpr ⟨d_MO_layBack_86, List.forall_mem_cons.mpr ⟨d_MO_layBack_89, List.forall_mem_cons.mpr ⟨d_MO_layBack_90, List.forall_mem_cons.mpr ⟨d_MO_layBack_91, List.forall_mem_cons.mpr ⟨d_MO_layBack_92, List.forall_mem_cons.mpr ⟨d_MO_layBack_94, List.forall_mem_cons.mpr ⟨d_MO_layBack_97, List.forall_mem_cons.mpr ⟨d_MO_layBack_98, List.forall_mem_cons.mpr ⟨d_MO_layBack_101, List.forall_mem_cons.mpr ⟨d_MO_layBack_102, List.forall_mem_cons.mpr ⟨d_MO_layBack_103, List.forall_mem_cons.mpr ⟨d_MO_layBack_106, List.forall_mem_cons.mpr ⟨d_MO_layBack_107, List.forall_mem_cons.mpr ⟨d_MO_layBack_108, List.forall_mem_cons.mpr ⟨d_MO_layBack_109, List.forall_mem_cons.mpr ⟨d_MO_layBack_110, List.forall_mem_cons.mpr ⟨d_MO_layBack_113, List.forall_mem_cons.mpr ⟨d_MO_layBack_114, List.forall_mem_cons.mpr ⟨d_MO_layBack_115, List.forall_mem_cons.mpr ⟨d_MO_layBack_118, List.forall_mem_cons.mpr ⟨d_MO_layBack_119, List.forall_mem_cons.mpr ⟨d_MO_layBack_120, List.forall_mem_cons.mpr ⟨d_MO_layBack_121, List.forall_mem_cons.mpr ⟨d_MO_layBack_124, List.forall_mem_cons.mpr ⟨d_MO_layBack_127, List.forall_mem_cons.mpr ⟨d_MO_layBack_128, List.forall_mem_cons.mpr ⟨d_MO_layBack_129, List.forall_mem_cons.mpr ⟨d_MO_layBack_130, List.forall_mem_cons.mpr ⟨d_MO_layBack_133, List.forall_mem_cons.mpr ⟨d_MO_layBack_136, List.forall_mem_cons.mpr ⟨d_MO_layBack_137, List.forall_mem_cons.mpr ⟨d_MO_layBack_140, List.forall_mem_cons.mpr ⟨d_MO_layBack_141, List.forall_mem_cons.mpr ⟨d_MO_layBack_142, List.forall_mem_cons.mpr ⟨d_MO_layBack_145, List.forall_mem_cons.mpr ⟨d_MO_layBack_146, List.forall_mem_cons.mpr ⟨d_MO_layBack_147, List.forall_mem_cons.mpr ⟨d_MO_layBack_148, List.forall_mem_cons.mpr ⟨d_MO_layBack_149, List.forall_mem_cons.mpr ⟨d_MO_layBack_152, List.forall_mem_cons.mpr ⟨d_MO_layBack_153, List.forall_mem_cons.mpr ⟨d_MO_layBack_154, List.forall_mem_cons.mpr ⟨d_MO_layBack_157, List.forall_mem_cons.mpr ⟨d_MO_layBack_158, List.forall_mem_cons.mpr ⟨d_MO_layBack_159, List.forall_mem_cons.mpr ⟨d_MO_layBack_160, List.forall_mem_cons.mpr ⟨d_MO_layBack_163, List.forall_mem_cons.mpr ⟨d_MO_layBack_166, fun _ h => absurd h List.not_mem_nil⟩⟩⟩⟩⟩⟩⟩⟩⟩⟩⟩⟩⟩⟩⟩⟩⟩⟩⟩⟩⟩⟩⟩⟩⟩⟩⟩⟩⟩⟩⟩⟩⟩⟩⟩⟩⟩⟩⟩⟩⟩⟩⟩⟩⟩⟩⟩⟩⟩⟩⟩⟩⟩⟩⟩⟩⟩⟩⟩⟩⟩⟩⟩⟩⟩⟩⟩⟩⟩⟩⟩⟩⟩⟩⟩⟩⟩⟩⟩⟩⟩⟩⟩⟩⟩⟩⟩⟩⟩⟩⟩⟩⟩⟩⟩⟩⟩⟩
theorem i_MO_layBack_ok : ∀ pc i n, i_MO_layBack pc = some (i, n) → decode b_MO_layBack pc = .ok (i, n) := fun pc i n h => d_MO_layBack (pc, i, n) (am_find_mem h)
theorem i_MO_layBack_0 : i_MO_layBack 0 = some (.aload_n 0, 1) := rfl
theorem i_MO_layBack_1 : i_MO_layBack 1 = some (.aload_n 0, 1) := rfl
theorem i_MO_layBack_2 : i_MO_layBack 2 = some (.getfield 211, 3) := rfl
theorem i_MO_layBack_5 : i_MO_layBack 5 = some (.putfield 132, 3) := rfl
theorem i_MO_layBack_8 : i_MO_layBack 8 = some (.aload_n 0, 1) := rfl
theorem i_MO_layBack_9 : i_MO_layBack 9 = some (.aload_n 0, 1) := rfl
theorem i_MO_layBack_10 : i_MO_layBack 10 = some (.getfield 214, 3) := rfl
theorem i_MO_layBack_13 : i_MO_layBack 13 = some (.putfield 135, 3) := rfl
theorem i_MO_layBack_16 : i_MO_layBack 16 = some (.aload_n 0, 1) := rfl
theorem i_MO_layBack_17 : i_MO_layBack 17 = some (.aload_n 0, 1) := rfl
theorem i_MO_layBack_18 : i_MO_layBack 18 = some (.getfield 217, 3) := rfl
theorem i_MO_layBack_21 : i_MO_layBack 21 = some (.putfield 138, 3) := rfl
theorem i_MO_layBack_24 : i_MO_layBack 24 = some (.aload_n 0, 1) := rfl
theorem i_MO_layBack_25 : i_MO_layBack 25 = some (.aload_n 0, 1) := rfl
theorem i_MO_layBack_26 : i_MO_layBack 26 = some (.getfield 220, 3) := rfl
theorem i_MO_layBack_29 : i_MO_layBack 29 = some (.putfield 141, 3) := rfl
theorem i_MO_layBack_32 : i_MO_layBack 32 = some (.aload_n 0, 1) := rfl
theorem i_MO_layBack_33 : i_MO_layBack 33 = some (.aload_n 0, 1) := rfl
theorem i_MO_layBack_34 : i_MO_layBack 34 = some (.getfield 223, 3) := rfl
theorem i_MO_layBack_37 : i_MO_layBack 37 = some (.putfield 144, 3) := rfl
theorem i_MO_layBack_40 : i_MO_layBack 40 = some (.iconst 0, 1) := rfl
theorem i_MO_layBack_41 : i_MO_layBack 41 = some (.istore_n 1, 1) := rfl
theorem i_MO_layBack_42 : i_MO_layBack 42 = some (.iload_n 1, 1) := rfl
theorem i_MO_layBack_43 : i_MO_layBack 43 = some (.iconst 5, 1) := rfl
theorem i_MO_layBack_44 : i_MO_layBack 44 = some (.if_icmp .ge 45, 3) := rfl
theorem i_MO_layBack_47 : i_MO_layBack 47 = some (.aload_n 0, 1) := rfl
theorem i_MO_layBack_48 : i_MO_layBack 48 = some (.getfield 50, 3) := rfl
theorem i_MO_layBack_51 : i_MO_layBack 51 = some (.iload_n 1, 1) := rfl
theorem i_MO_layBack_52 : i_MO_layBack 52 = some (.aload_n 0, 1) := rfl
theorem i_MO_layBack_53 : i_MO_layBack 53 = some (.getfield 71, 3) := rfl
theorem i_MO_layBack_56 : i_MO_layBack 56 = some (.iload_n 1, 1) := rfl
theorem i_MO_layBack_57 : i_MO_layBack 57 = some (.iaload, 1) := rfl
theorem i_MO_layBack_58 : i_MO_layBack 58 = some (.iastore, 1) := rfl
theorem i_MO_layBack_59 : i_MO_layBack 59 = some (.aload_n 0, 1) := rfl
theorem i_MO_layBack_60 : i_MO_layBack 60 = some (.getfield 53, 3) := rfl
theorem i_MO_layBack_63 : i_MO_layBack 63 = some (.iload_n 1, 1) := rfl
theorem i_MO_layBack_64 : i_MO_layBack 64 = some (.aload_n 0, 1) := rfl
theorem i_MO_layBack_65 : i_MO_layBack 65 = some (.getfield 74, 3) := rfl
theorem i_MO_layBack_68 : i_MO_layBack 68 = some (.iload_n 1, 1) := rfl
theorem i_MO_layBack_69 : i_MO_layBack 69 = some (.iaload, 1) := rfl
theorem i_MO_layBack_70 : i_MO_layBack 70 = some (.iastore, 1) := rfl
theorem i_MO_layBack_71 : i_MO_layBack 71 = some (.aload_n 0, 1) := rfl
theorem i_MO_layBack_72 : i_MO_layBack 72 = some (.getfield 56, 3) := rfl
theorem i_MO_layBack_75 : i_MO_layBack 75 = some (.iload_n 1, 1) := rfl
theorem i_MO_layBack_76 : i_MO_layBack 76 = some (.aload_n 0, 1) := rfl
theorem i_MO_layBack_77 : i_MO_layBack 77 = some (.getfield 77, 3) := rfl
theorem i_MO_layBack_80 : i_MO_layBack 80 = some (.iload_n 1, 1) := rfl
theorem i_MO_layBack_81 : i_MO_layBack 81 = some (.iaload, 1) := rfl
theorem i_MO_layBack_82 : i_MO_layBack 82 = some (.iastore, 1) := rfl
theorem i_MO_layBack_83 : i_MO_layBack 83 = some (.iinc 1 1, 3) := rfl
theorem i_MO_layBack_86 : i_MO_layBack 86 = some (.goto (-44), 3) := rfl
theorem i_MO_layBack_89 : i_MO_layBack 89 = some (.iconst 0, 1) := rfl
theorem i_MO_layBack_90 : i_MO_layBack 90 = some (.istore_n 1, 1) := rfl
theorem i_MO_layBack_91 : i_MO_layBack 91 = some (.iload_n 1, 1) := rfl
theorem i_MO_layBack_92 : i_MO_layBack 92 = some (.bipush 40, 2) := rfl
theorem i_MO_layBack_94 : i_MO_layBack 94 = some (.if_icmp .ge 33, 3) := rfl
theorem i_MO_layBack_97 : i_MO_layBack 97 = some (.aload_n 0, 1) := rfl
theorem i_MO_layBack_98 : i_MO_layBack 98 = some (.getfield 62, 3) := rfl
theorem i_MO_layBack_101 : i_MO_layBack 101 = some (.iload_n 1, 1) := rfl
theorem i_MO_layBack_102 : i_MO_layBack 102 = some (.aload_n 0, 1) := rfl
theorem i_MO_layBack_103 : i_MO_layBack 103 = some (.getfield 83, 3) := rfl
theorem i_MO_layBack_106 : i_MO_layBack 106 = some (.iload_n 1, 1) := rfl
theorem i_MO_layBack_107 : i_MO_layBack 107 = some (.iaload, 1) := rfl
theorem i_MO_layBack_108 : i_MO_layBack 108 = some (.iastore, 1) := rfl
theorem i_MO_layBack_109 : i_MO_layBack 109 = some (.aload_n 0, 1) := rfl
theorem i_MO_layBack_110 : i_MO_layBack 110 = some (.getfield 65, 3) := rfl
theorem i_MO_layBack_113 : i_MO_layBack 113 = some (.iload_n 1, 1) := rfl
theorem i_MO_layBack_114 : i_MO_layBack 114 = some (.aload_n 0, 1) := rfl
theorem i_MO_layBack_115 : i_MO_layBack 115 = some (.getfield 86, 3) := rfl
theorem i_MO_layBack_118 : i_MO_layBack 118 = some (.iload_n 1, 1) := rfl
theorem i_MO_layBack_119 : i_MO_layBack 119 = some (.iaload, 1) := rfl
theorem i_MO_layBack_120 : i_MO_layBack 120 = some (.iastore, 1) := rfl
theorem i_MO_layBack_121 : i_MO_layBack 121 = some (.iinc 1 1, 3) := rfl
theorem i_MO_layBack_124 : i_MO_layBack 124 = some (.goto (-33), 3) := rfl
theorem i_MO_layBack_127 : i_MO_layBack 127 = some (.iconst 0, 1) := rfl
theorem i_MO_layBack_128 : i_MO_layBack 128 = some (.istore_n 1, 1) := rfl
theorem i_MO_layBack_129 : i_MO_layBack 129 = some (.iload_n 1, 1) := rfl
theorem i_MO_layBack_130 : i_MO_layBack 130 = some (.sipush 2000, 3) := rfl
theorem i_MO_layBack_133 : i_MO_layBack 133 = some (.if_icmp .gt 33, 3) := rfl
theorem i_MO_layBack_136 : i_MO_layBack 136 = some (.aload_n 0, 1) := rfl
theorem i_MO_layBack_137 : i_MO_layBack 137 = some (.getfield 59, 3) := rfl
theorem i_MO_layBack_140 : i_MO_layBack 140 = some (.iload_n 1, 1) := rfl
theorem i_MO_layBack_141 : i_MO_layBack 141 = some (.aload_n 0, 1) := rfl
theorem i_MO_layBack_142 : i_MO_layBack 142 = some (.getfield 80, 3) := rfl
theorem i_MO_layBack_145 : i_MO_layBack 145 = some (.iload_n 1, 1) := rfl
theorem i_MO_layBack_146 : i_MO_layBack 146 = some (.iaload, 1) := rfl
theorem i_MO_layBack_147 : i_MO_layBack 147 = some (.iastore, 1) := rfl
theorem i_MO_layBack_148 : i_MO_layBack 148 = some (.aload_n 0, 1) := rfl
theorem i_MO_layBack_149 : i_MO_layBack 149 = some (.getfield 68, 3) := rfl
theorem i_MO_layBack_152 : i_MO_layBack 152 = some (.iload_n 1, 1) := rfl
theorem i_MO_layBack_153 : i_MO_layBack 153 = some (.aload_n 0, 1) := rfl
set_option maxRecDepth 100000 in
theorem i_MO_layBack_154 : i_MO_layBack 154 = some (.getfield 89, 3) := rfl
set_option maxRecDepth 100000 in
theorem i_MO_layBack_157 : i_MO_layBack 157 = some (.iload_n 1, 1) := rfl
set_option maxRecDepth 100000 in
theorem i_MO_layBack_158 : i_MO_layBack 158 = some (.iaload, 1) := rfl
set_option maxRecDepth 100000 in
theorem i_MO_layBack_159 : i_MO_layBack 159 = some (.iastore, 1) := rfl
set_option maxRecDepth 100000 in
theorem i_MO_layBack_160 : i_MO_layBack 160 = some (.iinc 1 1, 3) := rfl
set_option maxRecDepth 100000 in
theorem i_MO_layBack_163 : i_MO_layBack 163 = some (.goto (-34), 3) := rfl
set_option maxRecDepth 100000 in
theorem i_MO_layBack_166 : i_MO_layBack 166 = some (.return_, 1) := rfl
abbrev w_MO_layBack : List Jvm.Cond := Jvm.Cond.code y_MO_layBack b_MO_layBack 2 none :: vw_W
theorem c_MO_layBack : Jvm.Cond.code y_MO_layBack b_MO_layBack 2 none ∈ vw_W := vw_t 1058 (by decide +kernel) (by decide +kernel)
abbrev r_MO_layBack : Room := { frames := 0, cells := 0, slots := 0, locals := 0 }
abbrev b_MO_early : ByteArray := prog_13_method_30_code
abbrev y_MO_early : MethodName := ⟨"ServerDeskModel", "early", "(II)V"⟩
def q_MO_early : List (Nat × Instr × Nat) := [(0, .iload_n 1, 1), (1, .iconst 0, 1), (2, .aload_n 0, 1), (3, .getfield 96, 3), (6, .iconst 1, 1), (7, .isub, 1), (8, .invokestatic 103, 3), (11, .istore_n 3, 1), (12, .iload_n 3, 1), (13, .ifCond .eq 15, 3), (16, .iload_n 2, 1), (17, .iconst 1, 1), (18, .aload_n 0, 1), (19, .getfield 16, 3), (22, .iload_n 1, 1), (23, .iaload, 1), (24, .invokestatic 103, 3), (27, .istore_n 3, 1), (28, .aload_n 0, 1), (29, .iload_n 3, 1), (30, .ifCond .ne 7, 3), (33, .iconst 1, 1), (34, .goto 25, 3), (37, .aload_n 0, 1), (38, .getfield 111, 3), (41, .ifCond .eq 13, 3), (44, .aload_n 0, 1), (45, .getfield 204, 3), (48, .sipush 200, 3), (51, .if_icmp .ne 7, 3), (54, .iconst 2, 1), (55, .goto 4, 3), (58, .iconst 0, 1), (59, .putfield 92, 3), (62, .aload_n 0, 1), (63, .getfield 92, 3), (66, .ifCond .le 4, 3), (69, .return_, 1), (70, .aload_n 0, 1), (71, .getfield 41, 3), (74, .aload_n 0, 1), (75, .getfield 204, 3), (78, .iload_n 1, 1), (79, .iastore, 1), (80, .aload_n 0, 1), (81, .getfield 44, 3), (84, .aload_n 0, 1), (85, .getfield 204, 3), (88, .iload_n 2, 1), (89, .iastore, 1), (90, .aload_n 0, 1), (91, .getfield 47, 3), (94, .aload_n 0, 1), (95, .getfield 204, 3), (98, .aload_n 0, 1), (99, .getfield 132, 3), (102, .iastore, 1), (103, .aload_n 0, 1), (104, .dup, 1), (105, .getfield 204, 3), (108, .iconst 1, 1), (109, .iadd, 1), (110, .putfield 204, 3), (113, .aload_n 0, 1), (114, .iload_n 1, 1), (115, .iload_n 2, 1), (116, .invokevirtual 207, 3), (119, .return_, 1)]
def i_MO_early : Nat → Option (Instr × Nat) := am_find q_MO_early
theorem d_MO_early_0 : decode b_MO_early 0 = .ok (.iload_n 1, 1) := by decide +kernel
theorem d_MO_early_1 : decode b_MO_early 1 = .ok (.iconst 0, 1) := by decide +kernel
theorem d_MO_early_2 : decode b_MO_early 2 = .ok (.aload_n 0, 1) := by decide +kernel
theorem d_MO_early_3 : decode b_MO_early 3 = .ok (.getfield 96, 3) := by decide +kernel
theorem d_MO_early_6 : decode b_MO_early 6 = .ok (.iconst 1, 1) := by decide +kernel
theorem d_MO_early_7 : decode b_MO_early 7 = .ok (.isub, 1) := by decide +kernel
theorem d_MO_early_8 : decode b_MO_early 8 = .ok (.invokestatic 103, 3) := by decide +kernel
theorem d_MO_early_11 : decode b_MO_early 11 = .ok (.istore_n 3, 1) := by decide +kernel
theorem d_MO_early_12 : decode b_MO_early 12 = .ok (.iload_n 3, 1) := by decide +kernel
theorem d_MO_early_13 : decode b_MO_early 13 = .ok (.ifCond .eq 15, 3) := by decide +kernel
theorem d_MO_early_16 : decode b_MO_early 16 = .ok (.iload_n 2, 1) := by decide +kernel
theorem d_MO_early_17 : decode b_MO_early 17 = .ok (.iconst 1, 1) := by decide +kernel
theorem d_MO_early_18 : decode b_MO_early 18 = .ok (.aload_n 0, 1) := by decide +kernel
theorem d_MO_early_19 : decode b_MO_early 19 = .ok (.getfield 16, 3) := by decide +kernel
theorem d_MO_early_22 : decode b_MO_early 22 = .ok (.iload_n 1, 1) := by decide +kernel
theorem d_MO_early_23 : decode b_MO_early 23 = .ok (.iaload, 1) := by decide +kernel
theorem d_MO_early_24 : decode b_MO_early 24 = .ok (.invokestatic 103, 3) := by decide +kernel
theorem d_MO_early_27 : decode b_MO_early 27 = .ok (.istore_n 3, 1) := by decide +kernel
theorem d_MO_early_28 : decode b_MO_early 28 = .ok (.aload_n 0, 1) := by decide +kernel
theorem d_MO_early_29 : decode b_MO_early 29 = .ok (.iload_n 3, 1) := by decide +kernel
theorem d_MO_early_30 : decode b_MO_early 30 = .ok (.ifCond .ne 7, 3) := by decide +kernel
theorem d_MO_early_33 : decode b_MO_early 33 = .ok (.iconst 1, 1) := by decide +kernel
theorem d_MO_early_34 : decode b_MO_early 34 = .ok (.goto 25, 3) := by decide +kernel
theorem d_MO_early_37 : decode b_MO_early 37 = .ok (.aload_n 0, 1) := by decide +kernel
theorem d_MO_early_38 : decode b_MO_early 38 = .ok (.getfield 111, 3) := by decide +kernel
theorem d_MO_early_41 : decode b_MO_early 41 = .ok (.ifCond .eq 13, 3) := by decide +kernel
theorem d_MO_early_44 : decode b_MO_early 44 = .ok (.aload_n 0, 1) := by decide +kernel
theorem d_MO_early_45 : decode b_MO_early 45 = .ok (.getfield 204, 3) := by decide +kernel
theorem d_MO_early_48 : decode b_MO_early 48 = .ok (.sipush 200, 3) := by decide +kernel
theorem d_MO_early_51 : decode b_MO_early 51 = .ok (.if_icmp .ne 7, 3) := by decide +kernel
theorem d_MO_early_54 : decode b_MO_early 54 = .ok (.iconst 2, 1) := by decide +kernel
theorem d_MO_early_55 : decode b_MO_early 55 = .ok (.goto 4, 3) := by decide +kernel
theorem d_MO_early_58 : decode b_MO_early 58 = .ok (.iconst 0, 1) := by decide +kernel
theorem d_MO_early_59 : decode b_MO_early 59 = .ok (.putfield 92, 3) := by decide +kernel
theorem d_MO_early_62 : decode b_MO_early 62 = .ok (.aload_n 0, 1) := by decide +kernel
theorem d_MO_early_63 : decode b_MO_early 63 = .ok (.getfield 92, 3) := by decide +kernel
theorem d_MO_early_66 : decode b_MO_early 66 = .ok (.ifCond .le 4, 3) := by decide +kernel
theorem d_MO_early_69 : decode b_MO_early 69 = .ok (.return_, 1) := by decide +kernel
theorem d_MO_early_70 : decode b_MO_early 70 = .ok (.aload_n 0, 1) := by decide +kernel
theorem d_MO_early_71 : decode b_MO_early 71 = .ok (.getfield 41, 3) := by decide +kernel
theorem d_MO_early_74 : decode b_MO_early 74 = .ok (.aload_n 0, 1) := by decide +kernel
theorem d_MO_early_75 : decode b_MO_early 75 = .ok (.getfield 204, 3) := by decide +kernel
theorem d_MO_early_78 : decode b_MO_early 78 = .ok (.iload_n 1, 1) := by decide +kernel
theorem d_MO_early_79 : decode b_MO_early 79 = .ok (.iastore, 1) := by decide +kernel
theorem d_MO_early_80 : decode b_MO_early 80 = .ok (.aload_n 0, 1) := by decide +kernel
theorem d_MO_early_81 : decode b_MO_early 81 = .ok (.getfield 44, 3) := by decide +kernel
theorem d_MO_early_84 : decode b_MO_early 84 = .ok (.aload_n 0, 1) := by decide +kernel
theorem d_MO_early_85 : decode b_MO_early 85 = .ok (.getfield 204, 3) := by decide +kernel
theorem d_MO_early_88 : decode b_MO_early 88 = .ok (.iload_n 2, 1) := by decide +kernel
theorem d_MO_early_89 : decode b_MO_early 89 = .ok (.iastore, 1) := by decide +kernel
theorem d_MO_early_90 : decode b_MO_early 90 = .ok (.aload_n 0, 1) := by decide +kernel
theorem d_MO_early_91 : decode b_MO_early 91 = .ok (.getfield 47, 3) := by decide +kernel
theorem d_MO_early_94 : decode b_MO_early 94 = .ok (.aload_n 0, 1) := by decide +kernel
theorem d_MO_early_95 : decode b_MO_early 95 = .ok (.getfield 204, 3) := by decide +kernel
theorem d_MO_early_98 : decode b_MO_early 98 = .ok (.aload_n 0, 1) := by decide +kernel
theorem d_MO_early_99 : decode b_MO_early 99 = .ok (.getfield 132, 3) := by decide +kernel
theorem d_MO_early_102 : decode b_MO_early 102 = .ok (.iastore, 1) := by decide +kernel
theorem d_MO_early_103 : decode b_MO_early 103 = .ok (.aload_n 0, 1) := by decide +kernel
theorem d_MO_early_104 : decode b_MO_early 104 = .ok (.dup, 1) := by decide +kernel
theorem d_MO_early_105 : decode b_MO_early 105 = .ok (.getfield 204, 3) := by decide +kernel
theorem d_MO_early_108 : decode b_MO_early 108 = .ok (.iconst 1, 1) := by decide +kernel
theorem d_MO_early_109 : decode b_MO_early 109 = .ok (.iadd, 1) := by decide +kernel
theorem d_MO_early_110 : decode b_MO_early 110 = .ok (.putfield 204, 3) := by decide +kernel
theorem d_MO_early_113 : decode b_MO_early 113 = .ok (.aload_n 0, 1) := by decide +kernel
theorem d_MO_early_114 : decode b_MO_early 114 = .ok (.iload_n 1, 1) := by decide +kernel
theorem d_MO_early_115 : decode b_MO_early 115 = .ok (.iload_n 2, 1) := by decide +kernel
theorem d_MO_early_116 : decode b_MO_early 116 = .ok (.invokevirtual 207, 3) := by decide +kernel
theorem d_MO_early_119 : decode b_MO_early 119 = .ok (.return_, 1) := by decide +kernel
theorem d_MO_early : ∀ z ∈ q_MO_early, decode b_MO_early z.1 = .ok z.2 := List.forall_mem_cons.mpr ⟨d_MO_early_0, List.forall_mem_cons.mpr ⟨d_MO_early_1, List.forall_mem_cons.mpr ⟨d_MO_early_2, List.forall_mem_cons.mpr ⟨d_MO_early_3, List.forall_mem_cons.mpr ⟨d_MO_early_6, List.forall_mem_cons.mpr ⟨d_MO_early_7, List.forall_mem_cons.mpr ⟨d_MO_early_8, List.forall_mem_cons.mpr ⟨d_MO_early_11, List.forall_mem_cons.mpr ⟨d_MO_early_12, List.forall_mem_cons.mpr ⟨d_MO_early_13, List.forall_mem_cons.mpr ⟨d_MO_early_16, List.forall_mem_cons.mpr ⟨d_MO_early_17, List.forall_mem_cons.mpr ⟨d_MO_early_18, List.forall_mem_cons.mpr ⟨d_MO_early_19, List.forall_mem_cons.mpr ⟨d_MO_early_22, List.forall_mem_cons.mpr ⟨d_MO_early_23, List.forall_mem_cons.mpr ⟨d_MO_early_24, List.forall_mem_cons.mpr ⟨d_MO_early_27, List.forall_mem_cons.mpr ⟨d_MO_early_28, List.forall_mem_cons.mpr ⟨d_MO_early_29, List.forall_mem_cons.mpr ⟨d_MO_early_30, List.forall_mem_cons.mpr ⟨d_MO_early_33, List.forall_mem_cons.mpr ⟨d_MO_early_34, List.forall_mem_cons.mpr ⟨d_MO_early_37, List.forall_mem_cons.mpr ⟨d_MO_early_38, List.forall_mem_cons.mpr ⟨d_MO_early_41, List.forall_mem_cons.mpr ⟨d_MO_early_44, List.forall_mem_cons.mpr ⟨d_MO_early_45, List.forall_mem_cons.mpr ⟨d_MO_early_48, List.forall_mem_cons.mpr ⟨d_MO_early_51, List.forall_mem_cons.mpr ⟨d_MO_early_54, List.forall_mem_cons.mpr ⟨d_MO_early_55, List.forall_mem_cons.mpr ⟨d_MO_early_58, List.forall_mem_cons.mpr ⟨d_MO_early_59, List.forall_mem_cons.mpr ⟨d_MO_early_62, List.forall_mem_cons.mpr ⟨d_MO_early_63, List.forall_mem_cons.mpr ⟨d_MO_early_66, List.forall_mem_cons.mpr ⟨d_MO_early_69, List.forall_mem_cons.mpr ⟨d_MO_early_70, List.forall_mem_cons.mpr ⟨d_MO_early_71, List.forall_mem_cons.mpr ⟨d_MO_early_74, List.forall_mem_cons.mpr ⟨d_MO_early_75, List.forall_mem_cons.mpr ⟨d_MO_early_78, List.forall_mem_cons.mpr ⟨d_MO_early_79, List.forall_mem_cons.mpr ⟨d_MO_early_80, List.forall_mem_cons.mpr ⟨d_MO_early_81, List.forall_mem_cons.mpr ⟨d_MO_early_84, List.forall_mem_cons.mpr ⟨d_MO_early_85, List.forall_mem_cons.mpr ⟨d_MO_early_88, List.forall_mem_cons.mpr ⟨d_MO_early_89, List.forall_mem_cons.mpr ⟨d_MO_early_90, List.forall_mem_cons.mpr ⟨d_MO_early_91, List.forall_mem_cons.mpr ⟨d_MO_early_94, List.forall_mem_cons.mpr ⟨d_MO_early_95, List.forall_mem_cons.mpr ⟨d_MO_early_98, List.forall_mem_cons.mpr ⟨d_MO_early_99, List.forall_mem_cons.mpr ⟨d_MO_early_102, List.forall_mem_cons.mpr ⟨d_MO_early_103, List.forall_mem_cons.mpr ⟨d_MO_early_104, List.forall_mem_cons.mpr ⟨d_MO_early_105, List.forall_mem_cons.mpr ⟨d_MO_early_108, List.forall_mem_cons.mpr ⟨d_MO_early_109, List.forall_mem_cons.mpr ⟨d_MO_early_110, List.forall_mem_cons.mpr ⟨d_MO_early_113, List.forall_mem_cons.mpr ⟨d_MO_early_114, List.forall_mem_cons.mpr ⟨d_MO_early_115, List.forall_mem_cons.mpr ⟨d_MO_early_116, List.forall_mem_cons.mpr ⟨d_MO_early_119, fun _ h => absurd h List.not_mem_nil⟩⟩⟩⟩⟩⟩⟩⟩⟩⟩⟩⟩⟩⟩⟩⟩⟩⟩⟩⟩⟩⟩⟩⟩⟩⟩⟩⟩⟩⟩⟩⟩⟩⟩⟩⟩⟩⟩⟩⟩⟩⟩⟩⟩⟩⟩⟩⟩⟩⟩⟩⟩⟩⟩⟩⟩⟩⟩⟩⟩⟩⟩⟩⟩⟩⟩⟩⟩
theorem i_MO_early_ok : ∀ pc i n, i_MO_early pc = some (i, n) → decode b_MO_early pc = .ok (i, n) := fun pc i n h => d_MO_early (pc, i, n) (am_find_mem h)
theorem i_MO_early_0 : i_MO_early 0 = some (.iload_n 1, 1) := rfl
theorem i_MO_early_1 : i_MO_early 1 = some (.iconst 0, 1) := rfl
theorem i_MO_early_2 : i_MO_early 2 = some (.aload_n 0, 1) := rfl
theorem i_MO_early_3 : i_MO_early 3 = some (.getfield 96, 3) := rfl
theorem i_MO_early_6 : i_MO_early 6 = some (.iconst 1, 1) := rfl
theorem i_MO_early_7 : i_MO_early 7 = some (.isub, 1) := rfl
theorem i_MO_early_8 : i_MO_early 8 = some (.invokestatic 103, 3) := rfl
theorem i_MO_early_11 : i_MO_early 11 = some (.istore_n 3, 1) := rfl
theorem i_MO_early_12 : i_MO_early 12 = some (.iload_n 3, 1) := rfl
theorem i_MO_early_13 : i_MO_early 13 = some (.ifCond .eq 15, 3) := rfl
theorem i_MO_early_16 : i_MO_early 16 = some (.iload_n 2, 1) := rfl
theorem i_MO_early_17 : i_MO_early 17 = some (.iconst 1, 1) := rfl
theorem i_MO_early_18 : i_MO_early 18 = some (.aload_n 0, 1) := rfl
theorem i_MO_early_19 : i_MO_early 19 = some (.getfield 16, 3) := rfl
theorem i_MO_early_22 : i_MO_early 22 = some (.iload_n 1, 1) := rfl
theorem i_MO_early_23 : i_MO_early 23 = some (.iaload, 1) := rfl
theorem i_MO_early_24 : i_MO_early 24 = some (.invokestatic 103, 3) := rfl
theorem i_MO_early_27 : i_MO_early 27 = some (.istore_n 3, 1) := rfl
theorem i_MO_early_28 : i_MO_early 28 = some (.aload_n 0, 1) := rfl
theorem i_MO_early_29 : i_MO_early 29 = some (.iload_n 3, 1) := rfl
theorem i_MO_early_30 : i_MO_early 30 = some (.ifCond .ne 7, 3) := rfl
theorem i_MO_early_33 : i_MO_early 33 = some (.iconst 1, 1) := rfl
theorem i_MO_early_34 : i_MO_early 34 = some (.goto 25, 3) := rfl
theorem i_MO_early_37 : i_MO_early 37 = some (.aload_n 0, 1) := rfl
theorem i_MO_early_38 : i_MO_early 38 = some (.getfield 111, 3) := rfl
theorem i_MO_early_41 : i_MO_early 41 = some (.ifCond .eq 13, 3) := rfl
theorem i_MO_early_44 : i_MO_early 44 = some (.aload_n 0, 1) := rfl
theorem i_MO_early_45 : i_MO_early 45 = some (.getfield 204, 3) := rfl
theorem i_MO_early_48 : i_MO_early 48 = some (.sipush 200, 3) := rfl
theorem i_MO_early_51 : i_MO_early 51 = some (.if_icmp .ne 7, 3) := rfl
theorem i_MO_early_54 : i_MO_early 54 = some (.iconst 2, 1) := rfl
theorem i_MO_early_55 : i_MO_early 55 = some (.goto 4, 3) := rfl
theorem i_MO_early_58 : i_MO_early 58 = some (.iconst 0, 1) := rfl
theorem i_MO_early_59 : i_MO_early 59 = some (.putfield 92, 3) := rfl
theorem i_MO_early_62 : i_MO_early 62 = some (.aload_n 0, 1) := rfl
theorem i_MO_early_63 : i_MO_early 63 = some (.getfield 92, 3) := rfl
theorem i_MO_early_66 : i_MO_early 66 = some (.ifCond .le 4, 3) := rfl
theorem i_MO_early_69 : i_MO_early 69 = some (.return_, 1) := rfl
theorem i_MO_early_70 : i_MO_early 70 = some (.aload_n 0, 1) := rfl
theorem i_MO_early_71 : i_MO_early 71 = some (.getfield 41, 3) := rfl
theorem i_MO_early_74 : i_MO_early 74 = some (.aload_n 0, 1) := rfl
theorem i_MO_early_75 : i_MO_early 75 = some (.getfield 204, 3) := rfl
theorem i_MO_early_78 : i_MO_early 78 = some (.iload_n 1, 1) := rfl
theorem i_MO_early_79 : i_MO_early 79 = some (.iastore, 1) := rfl
theorem i_MO_early_80 : i_MO_early 80 = some (.aload_n 0, 1) := rfl
theorem i_MO_early_81 : i_MO_early 81 = some (.getfield 44, 3) := rfl
theorem i_MO_early_84 : i_MO_early 84 = some (.aload_n 0, 1) := rfl
theorem i_MO_early_85 : i_MO_early 85 = some (.getfield 204, 3) := rfl
theorem i_MO_early_88 : i_MO_early 88 = some (.iload_n 2, 1) := rfl
theorem i_MO_early_89 : i_MO_early 89 = some (.iastore, 1) := rfl
theorem i_MO_early_90 : i_MO_early 90 = some (.aload_n 0, 1) := rfl
theorem i_MO_early_91 : i_MO_early 91 = some (.getfield 47, 3) := rfl
theorem i_MO_early_94 : i_MO_early 94 = some (.aload_n 0, 1) := rfl
theorem i_MO_early_95 : i_MO_early 95 = some (.getfield 204, 3) := rfl
theorem i_MO_early_98 : i_MO_early 98 = some (.aload_n 0, 1) := rfl
theorem i_MO_early_99 : i_MO_early 99 = some (.getfield 132, 3) := rfl
theorem i_MO_early_102 : i_MO_early 102 = some (.iastore, 1) := rfl
theorem i_MO_early_103 : i_MO_early 103 = some (.aload_n 0, 1) := rfl
theorem i_MO_early_104 : i_MO_early 104 = some (.dup, 1) := rfl
theorem i_MO_early_105 : i_MO_early 105 = some (.getfield 204, 3) := rfl
theorem i_MO_early_108 : i_MO_early 108 = some (.iconst 1, 1) := rfl
theorem i_MO_early_109 : i_MO_early 109 = some (.iadd, 1) := rfl
theorem i_MO_early_110 : i_MO_early 110 = some (.putfield 204, 3) := rfl
theorem i_MO_early_113 : i_MO_early 113 = some (.aload_n 0, 1) := rfl
theorem i_MO_early_114 : i_MO_early 114 = some (.iload_n 1, 1) := rfl
theorem i_MO_early_115 : i_MO_early 115 = some (.iload_n 2, 1) := rfl
theorem i_MO_early_116 : i_MO_early 116 = some (.invokevirtual 207, 3) := rfl
theorem i_MO_early_119 : i_MO_early 119 = some (.return_, 1) := rfl
abbrev w_MO_early : List Jvm.Cond := Jvm.Cond.code y_MO_early b_MO_early 4 none :: vw_W
theorem c_MO_early : Jvm.Cond.code y_MO_early b_MO_early 4 none ∈ vw_W := vw_t 1062 (by decide +kernel) (by decide +kernel)
abbrev r_MO_early : Room := { frames := 1, cells := 0, slots := 0, locals := 22 }
abbrev b_MO_tell : ByteArray := prog_13_method_31_code
abbrev y_MO_tell : MethodName := ⟨"ServerDeskModel", "tell", "(II)V"⟩
def q_MO_tell : List (Nat × Instr × Nat) := [(0, .aload_n 0, 1), (1, .getfield 56, 3), (4, .iload_n 1, 1), (5, .aload_n 0, 1), (6, .getfield 56, 3), (9, .iload_n 1, 1), (10, .iaload, 1), (11, .ifCond .eq 13, 3), (14, .iload_n 2, 1), (15, .aload_n 0, 1), (16, .getfield 56, 3), (19, .iload_n 1, 1), (20, .iaload, 1), (21, .if_icmp .ge 7, 3), (24, .iload_n 2, 1), (25, .goto 9, 3), (28, .aload_n 0, 1), (29, .getfield 56, 3), (32, .iload_n 1, 1), (33, .iaload, 1), (34, .iastore, 1), (35, .return_, 1)]
def i_MO_tell : Nat → Option (Instr × Nat) := am_find q_MO_tell
theorem d_MO_tell_0 : decode b_MO_tell 0 = .ok (.aload_n 0, 1) := by decide +kernel
theorem d_MO_tell_1 : decode b_MO_tell 1 = .ok (.getfield 56, 3) := by decide +kernel
theorem d_MO_tell_4 : decode b_MO_tell 4 = .ok (.iload_n 1, 1) := by decide +kernel
theorem d_MO_tell_5 : decode b_MO_tell 5 = .ok (.aload_n 0, 1) := by decide +kernel
theorem d_MO_tell_6 : decode b_MO_tell 6 = .ok (.getfield 56, 3) := by decide +kernel
theorem d_MO_tell_9 : decode b_MO_tell 9 = .ok (.iload_n 1, 1) := by decide +kernel
theorem d_MO_tell_10 : decode b_MO_tell 10 = .ok (.iaload, 1) := by decide +kernel
theorem d_MO_tell_11 : decode b_MO_tell 11 = .ok (.ifCond .eq 13, 3) := by decide +kernel
theorem d_MO_tell_14 : decode b_MO_tell 14 = .ok (.iload_n 2, 1) := by decide +kernel
theorem d_MO_tell_15 : decode b_MO_tell 15 = .ok (.aload_n 0, 1) := by decide +kernel
theorem d_MO_tell_16 : decode b_MO_tell 16 = .ok (.getfield 56, 3) := by decide +kernel
theorem d_MO_tell_19 : decode b_MO_tell 19 = .ok (.iload_n 1, 1) := by decide +kernel
theorem d_MO_tell_20 : decode b_MO_tell 20 = .ok (.iaload, 1) := by decide +kernel
theorem d_MO_tell_21 : decode b_MO_tell 21 = .ok (.if_icmp .ge 7, 3) := by decide +kernel
theorem d_MO_tell_24 : decode b_MO_tell 24 = .ok (.iload_n 2, 1) := by decide +kernel
theorem d_MO_tell_25 : decode b_MO_tell 25 = .ok (.goto 9, 3) := by decide +kernel
theorem d_MO_tell_28 : decode b_MO_tell 28 = .ok (.aload_n 0, 1) := by decide +kernel
theorem d_MO_tell_29 : decode b_MO_tell 29 = .ok (.getfield 56, 3) := by decide +kernel
theorem d_MO_tell_32 : decode b_MO_tell 32 = .ok (.iload_n 1, 1) := by decide +kernel
theorem d_MO_tell_33 : decode b_MO_tell 33 = .ok (.iaload, 1) := by decide +kernel
theorem d_MO_tell_34 : decode b_MO_tell 34 = .ok (.iastore, 1) := by decide +kernel
theorem d_MO_tell_35 : decode b_MO_tell 35 = .ok (.return_, 1) := by decide +kernel
theorem d_MO_tell : ∀ z ∈ q_MO_tell, decode b_MO_tell z.1 = .ok z.2 := List.forall_mem_cons.mpr ⟨d_MO_tell_0, List.forall_mem_cons.mpr ⟨d_MO_tell_1, List.forall_mem_cons.mpr ⟨d_MO_tell_4, List.forall_mem_cons.mpr ⟨d_MO_tell_5, List.forall_mem_cons.mpr ⟨d_MO_tell_6, List.forall_mem_cons.mpr ⟨d_MO_tell_9, List.forall_mem_cons.mpr ⟨d_MO_tell_10, List.forall_mem_cons.mpr ⟨d_MO_tell_11, List.forall_mem_cons.mpr ⟨d_MO_tell_14, List.forall_mem_cons.mpr ⟨d_MO_tell_15, List.forall_mem_cons.mpr ⟨d_MO_tell_16, List.forall_mem_cons.mpr ⟨d_MO_tell_19, List.forall_mem_cons.mpr ⟨d_MO_tell_20, List.forall_mem_cons.mpr ⟨d_MO_tell_21, List.forall_mem_cons.mpr ⟨d_MO_tell_24, List.forall_mem_cons.mpr ⟨d_MO_tell_25, List.forall_mem_cons.mpr ⟨d_MO_tell_28, List.forall_mem_cons.mpr ⟨d_MO_tell_29, List.forall_mem_cons.mpr ⟨d_MO_tell_32, List.forall_mem_cons.mpr ⟨d_MO_tell_33, List.forall_mem_cons.mpr ⟨d_MO_tell_34, List.forall_mem_cons.mpr ⟨d_MO_tell_35, fun _ h => absurd h List.not_mem_nil⟩⟩⟩⟩⟩⟩⟩⟩⟩⟩⟩⟩⟩⟩⟩⟩⟩⟩⟩⟩⟩⟩
theorem i_MO_tell_ok : ∀ pc i n, i_MO_tell pc = some (i, n) → decode b_MO_tell pc = .ok (i, n) := fun pc i n h => d_MO_tell (pc, i, n) (am_find_mem h)
theorem i_MO_tell_0 : i_MO_tell 0 = some (.aload_n 0, 1) := rfl
theorem i_MO_tell_1 : i_MO_tell 1 = some (.getfield 56, 3) := rfl
theorem i_MO_tell_4 : i_MO_tell 4 = some (.iload_n 1, 1) := rfl
theorem i_MO_tell_5 : i_MO_tell 5 = some (.aload_n 0, 1) := rfl
theorem i_MO_tell_6 : i_MO_tell 6 = some (.getfield 56, 3) := rfl
theorem i_MO_tell_9 : i_MO_tell 9 = some (.iload_n 1, 1) := rfl
theorem i_MO_tell_10 : i_MO_tell 10 = some (.iaload, 1) := rfl
theorem i_MO_tell_11 : i_MO_tell 11 = some (.ifCond .eq 13, 3) := rfl
theorem i_MO_tell_14 : i_MO_tell 14 = some (.iload_n 2, 1) := rfl
theorem i_MO_tell_15 : i_MO_tell 15 = some (.aload_n 0, 1) := rfl
theorem i_MO_tell_16 : i_MO_tell 16 = some (.getfield 56, 3) := rfl
theorem i_MO_tell_19 : i_MO_tell 19 = some (.iload_n 1, 1) := rfl
theorem i_MO_tell_20 : i_MO_tell 20 = some (.iaload, 1) := rfl
theorem i_MO_tell_21 : i_MO_tell 21 = some (.if_icmp .ge 7, 3) := rfl
theorem i_MO_tell_24 : i_MO_tell 24 = some (.iload_n 2, 1) := rfl
theorem i_MO_tell_25 : i_MO_tell 25 = some (.goto 9, 3) := rfl
theorem i_MO_tell_28 : i_MO_tell 28 = some (.aload_n 0, 1) := rfl
theorem i_MO_tell_29 : i_MO_tell 29 = some (.getfield 56, 3) := rfl
theorem i_MO_tell_32 : i_MO_tell 32 = some (.iload_n 1, 1) := rfl
theorem i_MO_tell_33 : i_MO_tell 33 = some (.iaload, 1) := rfl
theorem i_MO_tell_34 : i_MO_tell 34 = some (.iastore, 1) := rfl
theorem i_MO_tell_35 : i_MO_tell 35 = some (.return_, 1) := rfl
abbrev w_MO_tell : List Jvm.Cond := Jvm.Cond.code y_MO_tell b_MO_tell 3 none :: vw_W
theorem c_MO_tell : Jvm.Cond.code y_MO_tell b_MO_tell 3 none ∈ vw_W := vw_t 1066 (by decide +kernel) (by decide +kernel)
abbrev r_MO_tell : Room := { frames := 0, cells := 0, slots := 0, locals := 0 }
abbrev b_MO_ended : ByteArray := prog_13_method_34_code
abbrev y_MO_ended : MethodName := ⟨"ServerDeskModel", "ended", "(I)I"⟩
def q_MO_ended : List (Nat × Instr × Nat) := [(0, .aload_n 0, 1), (1, .iload_n 1, 1), (2, .iconst 0, 1), (3, .aload_n 0, 1), (4, .getfield 185, 3), (7, .iconst 1, 1), (8, .isub, 1), (9, .invokestatic 103, 3), (12, .ifCond .eq 7, 3), (15, .iconst 0, 1), (16, .goto 4, 3), (19, .iconst 1, 1), (20, .putfield 92, 3), (23, .aload_n 0, 1), (24, .getfield 92, 3), (27, .ifCond .le 7, 3), (30, .iconst 0, 1), (31, .goto 9, 3), (34, .aload_n 0, 1), (35, .getfield 65, 3), (38, .iload_n 1, 1), (39, .iaload, 1), (40, .ireturn, 1)]
def i_MO_ended : Nat → Option (Instr × Nat) := am_find q_MO_ended
theorem d_MO_ended_0 : decode b_MO_ended 0 = .ok (.aload_n 0, 1) := by decide +kernel
theorem d_MO_ended_1 : decode b_MO_ended 1 = .ok (.iload_n 1, 1) := by decide +kernel
theorem d_MO_ended_2 : decode b_MO_ended 2 = .ok (.iconst 0, 1) := by decide +kernel
theorem d_MO_ended_3 : decode b_MO_ended 3 = .ok (.aload_n 0, 1) := by decide +kernel
theorem d_MO_ended_4 : decode b_MO_ended 4 = .ok (.getfield 185, 3) := by decide +kernel
theorem d_MO_ended_7 : decode b_MO_ended 7 = .ok (.iconst 1, 1) := by decide +kernel
theorem d_MO_ended_8 : decode b_MO_ended 8 = .ok (.isub, 1) := by decide +kernel
theorem d_MO_ended_9 : decode b_MO_ended 9 = .ok (.invokestatic 103, 3) := by decide +kernel
theorem d_MO_ended_12 : decode b_MO_ended 12 = .ok (.ifCond .eq 7, 3) := by decide +kernel
theorem d_MO_ended_15 : decode b_MO_ended 15 = .ok (.iconst 0, 1) := by decide +kernel
theorem d_MO_ended_16 : decode b_MO_ended 16 = .ok (.goto 4, 3) := by decide +kernel
theorem d_MO_ended_19 : decode b_MO_ended 19 = .ok (.iconst 1, 1) := by decide +kernel
theorem d_MO_ended_20 : decode b_MO_ended 20 = .ok (.putfield 92, 3) := by decide +kernel
theorem d_MO_ended_23 : decode b_MO_ended 23 = .ok (.aload_n 0, 1) := by decide +kernel
theorem d_MO_ended_24 : decode b_MO_ended 24 = .ok (.getfield 92, 3) := by decide +kernel
theorem d_MO_ended_27 : decode b_MO_ended 27 = .ok (.ifCond .le 7, 3) := by decide +kernel
theorem d_MO_ended_30 : decode b_MO_ended 30 = .ok (.iconst 0, 1) := by decide +kernel
theorem d_MO_ended_31 : decode b_MO_ended 31 = .ok (.goto 9, 3) := by decide +kernel
theorem d_MO_ended_34 : decode b_MO_ended 34 = .ok (.aload_n 0, 1) := by decide +kernel
theorem d_MO_ended_35 : decode b_MO_ended 35 = .ok (.getfield 65, 3) := by decide +kernel
theorem d_MO_ended_38 : decode b_MO_ended 38 = .ok (.iload_n 1, 1) := by decide +kernel
theorem d_MO_ended_39 : decode b_MO_ended 39 = .ok (.iaload, 1) := by decide +kernel
theorem d_MO_ended_40 : decode b_MO_ended 40 = .ok (.ireturn, 1) := by decide +kernel
theorem d_MO_ended : ∀ z ∈ q_MO_ended, decode b_MO_ended z.1 = .ok z.2 := List.forall_mem_cons.mpr ⟨d_MO_ended_0, List.forall_mem_cons.mpr ⟨d_MO_ended_1, List.forall_mem_cons.mpr ⟨d_MO_ended_2, List.forall_mem_cons.mpr ⟨d_MO_ended_3, List.forall_mem_cons.mpr ⟨d_MO_ended_4, List.forall_mem_cons.mpr ⟨d_MO_ended_7, List.forall_mem_cons.mpr ⟨d_MO_ended_8, List.forall_mem_cons.mpr ⟨d_MO_ended_9, List.forall_mem_cons.mpr ⟨d_MO_ended_12, List.forall_mem_cons.mpr ⟨d_MO_ended_15, List.forall_mem_cons.mpr ⟨d_MO_ended_16, List.forall_mem_cons.mpr ⟨d_MO_ended_19, List.forall_mem_cons.mpr ⟨d_MO_ended_20, List.forall_mem_cons.mpr ⟨d_MO_ended_23, List.forall_mem_cons.mpr ⟨d_MO_ended_24, List.forall_mem_cons.mpr ⟨d_MO_ended_27, List.forall_mem_cons.mpr ⟨d_MO_ended_30, List.forall_mem_cons.mpr ⟨d_MO_ended_31, List.forall_mem_cons.mpr ⟨d_MO_ended_34, List.forall_mem_cons.mpr ⟨d_MO_ended_35, List.forall_mem_cons.mpr ⟨d_MO_ended_38, List.forall_mem_cons.mpr ⟨d_MO_ended_39, List.forall_mem_cons.mpr ⟨d_MO_ended_40, fun _ h => absurd h List.not_mem_nil⟩⟩⟩⟩⟩⟩⟩⟩⟩⟩⟩⟩⟩⟩⟩⟩⟩⟩⟩⟩⟩⟩⟩
theorem i_MO_ended_ok : ∀ pc i n, i_MO_ended pc = some (i, n) → decode b_MO_ended pc = .ok (i, n) := fun pc i n h => d_MO_ended (pc, i, n) (am_find_mem h)
theorem i_MO_ended_0 : i_MO_ended 0 = some (.aload_n 0, 1) := rfl
theorem i_MO_ended_1 : i_MO_ended 1 = some (.iload_n 1, 1) := rfl
theorem i_MO_ended_2 : i_MO_ended 2 = some (.iconst 0, 1) := rfl
theorem i_MO_ended_3 : i_MO_ended 3 = some (.aload_n 0, 1) := rfl
theorem i_MO_ended_4 : i_MO_ended 4 = some (.getfield 185, 3) := rfl
theorem i_MO_ended_7 : i_MO_ended 7 = some (.iconst 1, 1) := rfl
theorem i_MO_ended_8 : i_MO_ended 8 = some (.isub, 1) := rfl
theorem i_MO_ended_9 : i_MO_ended 9 = some (.invokestatic 103, 3) := rfl
theorem i_MO_ended_12 : i_MO_ended 12 = some (.ifCond .eq 7, 3) := rfl
theorem i_MO_ended_15 : i_MO_ended 15 = some (.iconst 0, 1) := rfl
theorem i_MO_ended_16 : i_MO_ended 16 = some (.goto 4, 3) := rfl
theorem i_MO_ended_19 : i_MO_ended 19 = some (.iconst 1, 1) := rfl
theorem i_MO_ended_20 : i_MO_ended 20 = some (.putfield 92, 3) := rfl
theorem i_MO_ended_23 : i_MO_ended 23 = some (.aload_n 0, 1) := rfl
theorem i_MO_ended_24 : i_MO_ended 24 = some (.getfield 92, 3) := rfl
theorem i_MO_ended_27 : i_MO_ended 27 = some (.ifCond .le 7, 3) := rfl
theorem i_MO_ended_30 : i_MO_ended 30 = some (.iconst 0, 1) := rfl
theorem i_MO_ended_31 : i_MO_ended 31 = some (.goto 9, 3) := rfl
theorem i_MO_ended_34 : i_MO_ended 34 = some (.aload_n 0, 1) := rfl
theorem i_MO_ended_35 : i_MO_ended 35 = some (.getfield 65, 3) := rfl
theorem i_MO_ended_38 : i_MO_ended 38 = some (.iload_n 1, 1) := rfl
theorem i_MO_ended_39 : i_MO_ended 39 = some (.iaload, 1) := rfl
theorem i_MO_ended_40 : i_MO_ended 40 = some (.ireturn, 1) := rfl
abbrev w_MO_ended : List Jvm.Cond := Jvm.Cond.code y_MO_ended b_MO_ended 2 (some .int) :: vw_W
theorem c_MO_ended : Jvm.Cond.code y_MO_ended b_MO_ended 2 (some .int) ∈ vw_W := vw_t 1070 (by decide +kernel) (by decide +kernel)
abbrev r_MO_ended : Room := { frames := 1, cells := 0, slots := 0, locals := 22 }
abbrev b_MO_slack : ByteArray := prog_13_method_35_code
abbrev y_MO_slack : MethodName := ⟨"ServerDeskModel", "slack", "()I"⟩
def q_MO_slack : List (Nat × Instr × Nat) := [(0, .aload_n 0, 1), (1, .aload_n 0, 1), (2, .getfield 111, 3), (5, .ifCond .eq 7, 3), (8, .iconst 0, 1), (9, .goto 4, 3), (12, .iconst 1, 1), (13, .putfield 92, 3), (16, .aload_n 0, 1), (17, .getfield 92, 3), (20, .ifCond .le 7, 3), (23, .iconst 0, 1), (24, .goto 8, 3), (27, .aload_n 0, 1), (28, .iconst 0, 1), (29, .invokevirtual 162, 3), (32, .ireturn, 1)]
def i_MO_slack : Nat → Option (Instr × Nat) := am_find q_MO_slack
theorem d_MO_slack_0 : decode b_MO_slack 0 = .ok (.aload_n 0, 1) := by decide +kernel
theorem d_MO_slack_1 : decode b_MO_slack 1 = .ok (.aload_n 0, 1) := by decide +kernel
theorem d_MO_slack_2 : decode b_MO_slack 2 = .ok (.getfield 111, 3) := by decide +kernel
theorem d_MO_slack_5 : decode b_MO_slack 5 = .ok (.ifCond .eq 7, 3) := by decide +kernel
theorem d_MO_slack_8 : decode b_MO_slack 8 = .ok (.iconst 0, 1) := by decide +kernel
theorem d_MO_slack_9 : decode b_MO_slack 9 = .ok (.goto 4, 3) := by decide +kernel
theorem d_MO_slack_12 : decode b_MO_slack 12 = .ok (.iconst 1, 1) := by decide +kernel
theorem d_MO_slack_13 : decode b_MO_slack 13 = .ok (.putfield 92, 3) := by decide +kernel
theorem d_MO_slack_16 : decode b_MO_slack 16 = .ok (.aload_n 0, 1) := by decide +kernel
theorem d_MO_slack_17 : decode b_MO_slack 17 = .ok (.getfield 92, 3) := by decide +kernel
theorem d_MO_slack_20 : decode b_MO_slack 20 = .ok (.ifCond .le 7, 3) := by decide +kernel
theorem d_MO_slack_23 : decode b_MO_slack 23 = .ok (.iconst 0, 1) := by decide +kernel
theorem d_MO_slack_24 : decode b_MO_slack 24 = .ok (.goto 8, 3) := by decide +kernel
theorem d_MO_slack_27 : decode b_MO_slack 27 = .ok (.aload_n 0, 1) := by decide +kernel
theorem d_MO_slack_28 : decode b_MO_slack 28 = .ok (.iconst 0, 1) := by decide +kernel
theorem d_MO_slack_29 : decode b_MO_slack 29 = .ok (.invokevirtual 162, 3) := by decide +kernel
theorem d_MO_slack_32 : decode b_MO_slack 32 = .ok (.ireturn, 1) := by decide +kernel
theorem d_MO_slack : ∀ z ∈ q_MO_slack, decode b_MO_slack z.1 = .ok z.2 := List.forall_mem_cons.mpr ⟨d_MO_slack_0, List.forall_mem_cons.mpr ⟨d_MO_slack_1, List.forall_mem_cons.mpr ⟨d_MO_slack_2, List.forall_mem_cons.mpr ⟨d_MO_slack_5, List.forall_mem_cons.mpr ⟨d_MO_slack_8, List.forall_mem_cons.mpr ⟨d_MO_slack_9, List.forall_mem_cons.mpr ⟨d_MO_slack_12, List.forall_mem_cons.mpr ⟨d_MO_slack_13, List.forall_mem_cons.mpr ⟨d_MO_slack_16, List.forall_mem_cons.mpr ⟨d_MO_slack_17, List.forall_mem_cons.mpr ⟨d_MO_slack_20, List.forall_mem_cons.mpr ⟨d_MO_slack_23, List.forall_mem_cons.mpr ⟨d_MO_slack_24, List.forall_mem_cons.mpr ⟨d_MO_slack_27, List.forall_mem_cons.mpr ⟨d_MO_slack_28, List.forall_mem_cons.mpr ⟨d_MO_slack_29, List.forall_mem_cons.mpr ⟨d_MO_slack_32, fun _ h => absurd h List.not_mem_nil⟩⟩⟩⟩⟩⟩⟩⟩⟩⟩⟩⟩⟩⟩⟩⟩⟩
theorem i_MO_slack_ok : ∀ pc i n, i_MO_slack pc = some (i, n) → decode b_MO_slack pc = .ok (i, n) := fun pc i n h => d_MO_slack (pc, i, n) (am_find_mem h)
theorem i_MO_slack_0 : i_MO_slack 0 = some (.aload_n 0, 1) := rfl
theorem i_MO_slack_1 : i_MO_slack 1 = some (.aload_n 0, 1) := rfl
theorem i_MO_slack_2 : i_MO_slack 2 = some (.getfield 111, 3) := rfl
theorem i_MO_slack_5 : i_MO_slack 5 = some (.ifCond .eq 7, 3) := rfl
theorem i_MO_slack_8 : i_MO_slack 8 = some (.iconst 0, 1) := rfl
theorem i_MO_slack_9 : i_MO_slack 9 = some (.goto 4, 3) := rfl
theorem i_MO_slack_12 : i_MO_slack 12 = some (.iconst 1, 1) := rfl
theorem i_MO_slack_13 : i_MO_slack 13 = some (.putfield 92, 3) := rfl
theorem i_MO_slack_16 : i_MO_slack 16 = some (.aload_n 0, 1) := rfl
theorem i_MO_slack_17 : i_MO_slack 17 = some (.getfield 92, 3) := rfl
theorem i_MO_slack_20 : i_MO_slack 20 = some (.ifCond .le 7, 3) := rfl
theorem i_MO_slack_23 : i_MO_slack 23 = some (.iconst 0, 1) := rfl
theorem i_MO_slack_24 : i_MO_slack 24 = some (.goto 8, 3) := rfl
theorem i_MO_slack_27 : i_MO_slack 27 = some (.aload_n 0, 1) := rfl
theorem i_MO_slack_28 : i_MO_slack 28 = some (.iconst 0, 1) := rfl
theorem i_MO_slack_29 : i_MO_slack 29 = some (.invokevirtual 162, 3) := rfl
theorem i_MO_slack_32 : i_MO_slack 32 = some (.ireturn, 1) := rfl
abbrev w_MO_slack : List Jvm.Cond := Jvm.Cond.code y_MO_slack b_MO_slack 1 (some .int) :: vw_W
theorem c_MO_slack : Jvm.Cond.code y_MO_slack b_MO_slack 1 (some .int) ∈ vw_W := vw_t 1074 (by decide +kernel) (by decide +kernel)
abbrev r_MO_slack : Room := { frames := 5, cells := 0, slots := 0, locals := 120 }
abbrev b_MO_trace : ByteArray := prog_13_method_36_code
abbrev y_MO_trace : MethodName := ⟨"ServerDeskModel", "trace", "(I)I"⟩
def q_MO_trace : List (Nat × Instr × Nat) := [(0, .aload_n 0, 1), (1, .aload_n 0, 1), (2, .getfield 111, 3), (5, .ifCond .eq 21, 3), (8, .iload_n 1, 1), (9, .iconst 0, 1), (10, .aload_n 0, 1), (11, .getfield 132, 3), (14, .iconst 1, 1), (15, .isub, 1), (16, .invokestatic 103, 3), (19, .ifCond .eq 7, 3), (22, .iconst 0, 1), (23, .goto 4, 3), (26, .iconst 1, 1), (27, .putfield 92, 3), (30, .aload_n 0, 1), (31, .getfield 92, 3), (34, .ifCond .le 7, 3), (37, .iconst 0, 1), (38, .goto 9, 3), (41, .aload_n 0, 1), (42, .getfield 68, 3), (45, .iload_n 1, 1), (46, .iaload, 1), (47, .ireturn, 1)]
def i_MO_trace : Nat → Option (Instr × Nat) := am_find q_MO_trace
theorem d_MO_trace_0 : decode b_MO_trace 0 = .ok (.aload_n 0, 1) := by decide +kernel
theorem d_MO_trace_1 : decode b_MO_trace 1 = .ok (.aload_n 0, 1) := by decide +kernel
theorem d_MO_trace_2 : decode b_MO_trace 2 = .ok (.getfield 111, 3) := by decide +kernel
theorem d_MO_trace_5 : decode b_MO_trace 5 = .ok (.ifCond .eq 21, 3) := by decide +kernel
theorem d_MO_trace_8 : decode b_MO_trace 8 = .ok (.iload_n 1, 1) := by decide +kernel
theorem d_MO_trace_9 : decode b_MO_trace 9 = .ok (.iconst 0, 1) := by decide +kernel
theorem d_MO_trace_10 : decode b_MO_trace 10 = .ok (.aload_n 0, 1) := by decide +kernel
theorem d_MO_trace_11 : decode b_MO_trace 11 = .ok (.getfield 132, 3) := by decide +kernel
theorem d_MO_trace_14 : decode b_MO_trace 14 = .ok (.iconst 1, 1) := by decide +kernel
theorem d_MO_trace_15 : decode b_MO_trace 15 = .ok (.isub, 1) := by decide +kernel
theorem d_MO_trace_16 : decode b_MO_trace 16 = .ok (.invokestatic 103, 3) := by decide +kernel
theorem d_MO_trace_19 : decode b_MO_trace 19 = .ok (.ifCond .eq 7, 3) := by decide +kernel
theorem d_MO_trace_22 : decode b_MO_trace 22 = .ok (.iconst 0, 1) := by decide +kernel
theorem d_MO_trace_23 : decode b_MO_trace 23 = .ok (.goto 4, 3) := by decide +kernel
theorem d_MO_trace_26 : decode b_MO_trace 26 = .ok (.iconst 1, 1) := by decide +kernel
theorem d_MO_trace_27 : decode b_MO_trace 27 = .ok (.putfield 92, 3) := by decide +kernel
theorem d_MO_trace_30 : decode b_MO_trace 30 = .ok (.aload_n 0, 1) := by decide +kernel
theorem d_MO_trace_31 : decode b_MO_trace 31 = .ok (.getfield 92, 3) := by decide +kernel
theorem d_MO_trace_34 : decode b_MO_trace 34 = .ok (.ifCond .le 7, 3) := by decide +kernel
theorem d_MO_trace_37 : decode b_MO_trace 37 = .ok (.iconst 0, 1) := by decide +kernel
theorem d_MO_trace_38 : decode b_MO_trace 38 = .ok (.goto 9, 3) := by decide +kernel
theorem d_MO_trace_41 : decode b_MO_trace 41 = .ok (.aload_n 0, 1) := by decide +kernel
theorem d_MO_trace_42 : decode b_MO_trace 42 = .ok (.getfield 68, 3) := by decide +kernel
theorem d_MO_trace_45 : decode b_MO_trace 45 = .ok (.iload_n 1, 1) := by decide +kernel
theorem d_MO_trace_46 : decode b_MO_trace 46 = .ok (.iaload, 1) := by decide +kernel
theorem d_MO_trace_47 : decode b_MO_trace 47 = .ok (.ireturn, 1) := by decide +kernel
theorem d_MO_trace : ∀ z ∈ q_MO_trace, decode b_MO_trace z.1 = .ok z.2 := List.forall_mem_cons.mpr ⟨d_MO_trace_0, List.forall_mem_cons.mpr ⟨d_MO_trace_1, List.forall_mem_cons.mpr ⟨d_MO_trace_2, List.forall_mem_cons.mpr ⟨d_MO_trace_5, List.forall_mem_cons.mpr ⟨d_MO_trace_8, List.forall_mem_cons.mpr ⟨d_MO_trace_9, List.forall_mem_cons.mpr ⟨d_MO_trace_10, List.forall_mem_cons.mpr ⟨d_MO_trace_11, List.forall_mem_cons.mpr ⟨d_MO_trace_14, List.forall_mem_cons.mpr ⟨d_MO_trace_15, List.forall_mem_cons.mpr ⟨d_MO_trace_16, List.forall_mem_cons.mpr ⟨d_MO_trace_19, List.forall_mem_cons.mpr ⟨d_MO_trace_22, List.forall_mem_cons.mpr ⟨d_MO_trace_23, List.forall_mem_cons.mpr ⟨d_MO_trace_26, List.forall_mem_cons.mpr ⟨d_MO_trace_27, List.forall_mem_cons.mpr ⟨d_MO_trace_30, List.forall_mem_cons.mpr ⟨d_MO_trace_31, List.forall_mem_cons.mpr ⟨d_MO_trace_34, List.forall_mem_cons.mpr ⟨d_MO_trace_37, List.forall_mem_cons.mpr ⟨d_MO_trace_38, List.forall_mem_cons.mpr ⟨d_MO_trace_41, List.forall_mem_cons.mpr ⟨d_MO_trace_42, List.forall_mem_cons.mpr ⟨d_MO_trace_45, List.forall_mem_cons.mpr ⟨d_MO_trace_46, List.forall_mem_cons.mpr ⟨d_MO_trace_47, fun _ h => absurd h List.not_mem_nil⟩⟩⟩⟩⟩⟩⟩⟩⟩⟩⟩⟩⟩⟩⟩⟩⟩⟩⟩⟩⟩⟩⟩⟩⟩⟩
theorem i_MO_trace_ok : ∀ pc i n, i_MO_trace pc = some (i, n) → decode b_MO_trace pc = .ok (i, n) := fun pc i n h => d_MO_trace (pc, i, n) (am_find_mem h)
theorem i_MO_trace_0 : i_MO_trace 0 = some (.aload_n 0, 1) := rfl
theorem i_MO_trace_1 : i_MO_trace 1 = some (.aload_n 0, 1) := rfl
theorem i_MO_trace_2 : i_MO_trace 2 = some (.getfield 111, 3) := rfl
theorem i_MO_trace_5 : i_MO_trace 5 = some (.ifCond .eq 21, 3) := rfl
theorem i_MO_trace_8 : i_MO_trace 8 = some (.iload_n 1, 1) := rfl
theorem i_MO_trace_9 : i_MO_trace 9 = some (.iconst 0, 1) := rfl
theorem i_MO_trace_10 : i_MO_trace 10 = some (.aload_n 0, 1) := rfl
theorem i_MO_trace_11 : i_MO_trace 11 = some (.getfield 132, 3) := rfl
theorem i_MO_trace_14 : i_MO_trace 14 = some (.iconst 1, 1) := rfl
theorem i_MO_trace_15 : i_MO_trace 15 = some (.isub, 1) := rfl
theorem i_MO_trace_16 : i_MO_trace 16 = some (.invokestatic 103, 3) := rfl
theorem i_MO_trace_19 : i_MO_trace 19 = some (.ifCond .eq 7, 3) := rfl
theorem i_MO_trace_22 : i_MO_trace 22 = some (.iconst 0, 1) := rfl
theorem i_MO_trace_23 : i_MO_trace 23 = some (.goto 4, 3) := rfl
theorem i_MO_trace_26 : i_MO_trace 26 = some (.iconst 1, 1) := rfl
theorem i_MO_trace_27 : i_MO_trace 27 = some (.putfield 92, 3) := rfl
theorem i_MO_trace_30 : i_MO_trace 30 = some (.aload_n 0, 1) := rfl
theorem i_MO_trace_31 : i_MO_trace 31 = some (.getfield 92, 3) := rfl
theorem i_MO_trace_34 : i_MO_trace 34 = some (.ifCond .le 7, 3) := rfl
theorem i_MO_trace_37 : i_MO_trace 37 = some (.iconst 0, 1) := rfl
theorem i_MO_trace_38 : i_MO_trace 38 = some (.goto 9, 3) := rfl
theorem i_MO_trace_41 : i_MO_trace 41 = some (.aload_n 0, 1) := rfl
theorem i_MO_trace_42 : i_MO_trace 42 = some (.getfield 68, 3) := rfl
theorem i_MO_trace_45 : i_MO_trace 45 = some (.iload_n 1, 1) := rfl
theorem i_MO_trace_46 : i_MO_trace 46 = some (.iaload, 1) := rfl
theorem i_MO_trace_47 : i_MO_trace 47 = some (.ireturn, 1) := rfl
abbrev w_MO_trace : List Jvm.Cond := Jvm.Cond.code y_MO_trace b_MO_trace 2 (some .int) :: vw_W
theorem c_MO_trace : Jvm.Cond.code y_MO_trace b_MO_trace 2 (some .int) ∈ vw_W := vw_t 1078 (by decide +kernel) (by decide +kernel)
abbrev r_MO_trace : Room := { frames := 1, cells := 0, slots := 0, locals := 22 }
abbrev b_MO_served : ByteArray := prog_13_method_37_code
abbrev y_MO_served : MethodName := ⟨"ServerDeskModel", "served", "(II)I"⟩
def q_MO_served : List (Nat × Instr × Nat) := [(0, .aload_n 0, 1), (1, .iload_n 1, 1), (2, .ifCond .lt 20, 3), (5, .iload_n 1, 1), (6, .iload_n 2, 1), (7, .if_icmp .gt 15, 3), (10, .iload_n 2, 1), (11, .aload_n 0, 1), (12, .getfield 132, 3), (15, .if_icmp .gt 7, 3), (18, .iconst 0, 1), (19, .goto 4, 3), (22, .iconst 1, 1), (23, .putfield 92, 3), (26, .iconst 0, 1), (27, .istore_n 3, 1), (28, .iload_n 1, 1), (29, .istore 4, 2), (31, .iload 4, 2), (33, .iload_n 2, 1), (34, .if_icmp .ge 34, 3), (37, .aload_n 0, 1), (38, .getfield 92, 3), (41, .ifCond .ne 27, 3), (44, .iload_n 3, 1), (45, .aload_n 0, 1), (46, .getfield 68, 3), (49, .iload 4, 2), (51, .iaload, 1), (52, .ifCond .ge 7, 3), (55, .iconst 1, 1), (56, .goto 4, 3), (59, .iconst 0, 1), (60, .iadd, 1), (61, .istore_n 3, 1), (62, .iinc 4 1, 3), (65, .goto (-34), 3), (68, .iload_n 3, 1), (69, .ireturn, 1)]
def i_MO_served : Nat → Option (Instr × Nat) := am_find q_MO_served
theorem d_MO_served_0 : decode b_MO_served 0 = .ok (.aload_n 0, 1) := by decide +kernel
theorem d_MO_served_1 : decode b_MO_served 1 = .ok (.iload_n 1, 1) := by decide +kernel
theorem d_MO_served_2 : decode b_MO_served 2 = .ok (.ifCond .lt 20, 3) := by decide +kernel
theorem d_MO_served_5 : decode b_MO_served 5 = .ok (.iload_n 1, 1) := by decide +kernel
theorem d_MO_served_6 : decode b_MO_served 6 = .ok (.iload_n 2, 1) := by decide +kernel
theorem d_MO_served_7 : decode b_MO_served 7 = .ok (.if_icmp .gt 15, 3) := by decide +kernel
theorem d_MO_served_10 : decode b_MO_served 10 = .ok (.iload_n 2, 1) := by decide +kernel
theorem d_MO_served_11 : decode b_MO_served 11 = .ok (.aload_n 0, 1) := by decide +kernel
theorem d_MO_served_12 : decode b_MO_served 12 = .ok (.getfield 132, 3) := by decide +kernel
theorem d_MO_served_15 : decode b_MO_served 15 = .ok (.if_icmp .gt 7, 3) := by decide +kernel
theorem d_MO_served_18 : decode b_MO_served 18 = .ok (.iconst 0, 1) := by decide +kernel
theorem d_MO_served_19 : decode b_MO_served 19 = .ok (.goto 4, 3) := by decide +kernel
theorem d_MO_served_22 : decode b_MO_served 22 = .ok (.iconst 1, 1) := by decide +kernel
theorem d_MO_served_23 : decode b_MO_served 23 = .ok (.putfield 92, 3) := by decide +kernel
theorem d_MO_served_26 : decode b_MO_served 26 = .ok (.iconst 0, 1) := by decide +kernel
theorem d_MO_served_27 : decode b_MO_served 27 = .ok (.istore_n 3, 1) := by decide +kernel
theorem d_MO_served_28 : decode b_MO_served 28 = .ok (.iload_n 1, 1) := by decide +kernel
theorem d_MO_served_29 : decode b_MO_served 29 = .ok (.istore 4, 2) := by decide +kernel
theorem d_MO_served_31 : decode b_MO_served 31 = .ok (.iload 4, 2) := by decide +kernel
theorem d_MO_served_33 : decode b_MO_served 33 = .ok (.iload_n 2, 1) := by decide +kernel
theorem d_MO_served_34 : decode b_MO_served 34 = .ok (.if_icmp .ge 34, 3) := by decide +kernel
theorem d_MO_served_37 : decode b_MO_served 37 = .ok (.aload_n 0, 1) := by decide +kernel
theorem d_MO_served_38 : decode b_MO_served 38 = .ok (.getfield 92, 3) := by decide +kernel
theorem d_MO_served_41 : decode b_MO_served 41 = .ok (.ifCond .ne 27, 3) := by decide +kernel
theorem d_MO_served_44 : decode b_MO_served 44 = .ok (.iload_n 3, 1) := by decide +kernel
theorem d_MO_served_45 : decode b_MO_served 45 = .ok (.aload_n 0, 1) := by decide +kernel
theorem d_MO_served_46 : decode b_MO_served 46 = .ok (.getfield 68, 3) := by decide +kernel
theorem d_MO_served_49 : decode b_MO_served 49 = .ok (.iload 4, 2) := by decide +kernel
theorem d_MO_served_51 : decode b_MO_served 51 = .ok (.iaload, 1) := by decide +kernel
theorem d_MO_served_52 : decode b_MO_served 52 = .ok (.ifCond .ge 7, 3) := by decide +kernel
theorem d_MO_served_55 : decode b_MO_served 55 = .ok (.iconst 1, 1) := by decide +kernel
theorem d_MO_served_56 : decode b_MO_served 56 = .ok (.goto 4, 3) := by decide +kernel
theorem d_MO_served_59 : decode b_MO_served 59 = .ok (.iconst 0, 1) := by decide +kernel
theorem d_MO_served_60 : decode b_MO_served 60 = .ok (.iadd, 1) := by decide +kernel
theorem d_MO_served_61 : decode b_MO_served 61 = .ok (.istore_n 3, 1) := by decide +kernel
theorem d_MO_served_62 : decode b_MO_served 62 = .ok (.iinc 4 1, 3) := by decide +kernel
theorem d_MO_served_65 : decode b_MO_served 65 = .ok (.goto (-34), 3) := by decide +kernel
theorem d_MO_served_68 : decode b_MO_served 68 = .ok (.iload_n 3, 1) := by decide +kernel
theorem d_MO_served_69 : decode b_MO_served 69 = .ok (.ireturn, 1) := by decide +kernel
theorem d_MO_served : ∀ z ∈ q_MO_served, decode b_MO_served z.1 = .ok z.2 := List.forall_mem_cons.mpr ⟨d_MO_served_0, List.forall_mem_cons.mpr ⟨d_MO_served_1, List.forall_mem_cons.mpr ⟨d_MO_served_2, List.forall_mem_cons.mpr ⟨d_MO_served_5, List.forall_mem_cons.mpr ⟨d_MO_served_6, List.forall_mem_cons.mpr ⟨d_MO_served_7, List.forall_mem_cons.mpr ⟨d_MO_served_10, List.forall_mem_cons.mpr ⟨d_MO_served_11, List.forall_mem_cons.mpr ⟨d_MO_served_12, List.forall_mem_cons.mpr ⟨d_MO_served_15, List.forall_mem_cons.mpr ⟨d_MO_served_18, List.forall_mem_cons.mpr ⟨d_MO_served_19, List.forall_mem_cons.mpr ⟨d_MO_served_22, List.forall_mem_cons.mpr ⟨d_MO_served_23, List.forall_mem_cons.mpr ⟨d_MO_served_26, List.forall_mem_cons.mpr ⟨d_MO_served_27, List.forall_mem_cons.mpr ⟨d_MO_served_28, List.forall_mem_cons.mpr ⟨d_MO_served_29, List.forall_mem_cons.mpr ⟨d_MO_served_31, List.forall_mem_cons.mpr ⟨d_MO_served_33, List.forall_mem_cons.mpr ⟨d_MO_served_34, List.forall_mem_cons.mpr ⟨d_MO_served_37, List.forall_mem_cons.mpr ⟨d_MO_served_38, List.forall_mem_cons.mpr ⟨d_MO_served_41, List.forall_mem_cons.mpr ⟨d_MO_served_44, List.forall_mem_cons.mpr ⟨d_MO_served_45, List.forall_mem_cons.mpr ⟨d_MO_served_46, List.forall_mem_cons.mpr ⟨d_MO_served_49, List.forall_mem_cons.mpr ⟨d_MO_served_51, List.forall_mem_cons.mpr ⟨d_MO_served_52, List.forall_mem_cons.mpr ⟨d_MO_served_55, List.forall_mem_cons.mpr ⟨d_MO_served_56, List.forall_mem_cons.mpr ⟨d_MO_served_59, List.forall_mem_cons.mpr ⟨d_MO_served_60, List.forall_mem_cons.mpr ⟨d_MO_served_61, List.forall_mem_cons.mpr ⟨d_MO_served_62, List.forall_mem_cons.mpr ⟨d_MO_served_65, List.forall_mem_cons.mpr ⟨d_MO_served_68, List.forall_mem_cons.mpr ⟨d_MO_served_69, fun _ h => absurd h List.not_mem_nil⟩⟩⟩⟩⟩⟩⟩⟩⟩⟩⟩⟩⟩⟩⟩⟩⟩⟩⟩⟩⟩⟩⟩⟩⟩⟩⟩⟩⟩⟩⟩⟩⟩⟩⟩⟩⟩⟩⟩
theorem i_MO_served_ok : ∀ pc i n, i_MO_served pc = some (i, n) → decode b_MO_served pc = .ok (i, n) := fun pc i n h => d_MO_served (pc, i, n) (am_find_mem h)
theorem i_MO_served_0 : i_MO_served 0 = some (.aload_n 0, 1) := rfl
theorem i_MO_served_1 : i_MO_served 1 = some (.iload_n 1, 1) := rfl
theorem i_MO_served_2 : i_MO_served 2 = some (.ifCond .lt 20, 3) := rfl
theorem i_MO_served_5 : i_MO_served 5 = some (.iload_n 1, 1) := rfl
theorem i_MO_served_6 : i_MO_served 6 = some (.iload_n 2, 1) := rfl
theorem i_MO_served_7 : i_MO_served 7 = some (.if_icmp .gt 15, 3) := rfl
theorem i_MO_served_10 : i_MO_served 10 = some (.iload_n 2, 1) := rfl
theorem i_MO_served_11 : i_MO_served 11 = some (.aload_n 0, 1) := rfl
theorem i_MO_served_12 : i_MO_served 12 = some (.getfield 132, 3) := rfl
theorem i_MO_served_15 : i_MO_served 15 = some (.if_icmp .gt 7, 3) := rfl
theorem i_MO_served_18 : i_MO_served 18 = some (.iconst 0, 1) := rfl
theorem i_MO_served_19 : i_MO_served 19 = some (.goto 4, 3) := rfl
theorem i_MO_served_22 : i_MO_served 22 = some (.iconst 1, 1) := rfl
theorem i_MO_served_23 : i_MO_served 23 = some (.putfield 92, 3) := rfl
theorem i_MO_served_26 : i_MO_served 26 = some (.iconst 0, 1) := rfl
theorem i_MO_served_27 : i_MO_served 27 = some (.istore_n 3, 1) := rfl
theorem i_MO_served_28 : i_MO_served 28 = some (.iload_n 1, 1) := rfl
theorem i_MO_served_29 : i_MO_served 29 = some (.istore 4, 2) := rfl
theorem i_MO_served_31 : i_MO_served 31 = some (.iload 4, 2) := rfl
theorem i_MO_served_33 : i_MO_served 33 = some (.iload_n 2, 1) := rfl
theorem i_MO_served_34 : i_MO_served 34 = some (.if_icmp .ge 34, 3) := rfl
theorem i_MO_served_37 : i_MO_served 37 = some (.aload_n 0, 1) := rfl
theorem i_MO_served_38 : i_MO_served 38 = some (.getfield 92, 3) := rfl
theorem i_MO_served_41 : i_MO_served 41 = some (.ifCond .ne 27, 3) := rfl
theorem i_MO_served_44 : i_MO_served 44 = some (.iload_n 3, 1) := rfl
theorem i_MO_served_45 : i_MO_served 45 = some (.aload_n 0, 1) := rfl
theorem i_MO_served_46 : i_MO_served 46 = some (.getfield 68, 3) := rfl
theorem i_MO_served_49 : i_MO_served 49 = some (.iload 4, 2) := rfl
theorem i_MO_served_51 : i_MO_served 51 = some (.iaload, 1) := rfl
theorem i_MO_served_52 : i_MO_served 52 = some (.ifCond .ge 7, 3) := rfl
theorem i_MO_served_55 : i_MO_served 55 = some (.iconst 1, 1) := rfl
theorem i_MO_served_56 : i_MO_served 56 = some (.goto 4, 3) := rfl
theorem i_MO_served_59 : i_MO_served 59 = some (.iconst 0, 1) := rfl
theorem i_MO_served_60 : i_MO_served 60 = some (.iadd, 1) := rfl
theorem i_MO_served_61 : i_MO_served 61 = some (.istore_n 3, 1) := rfl
theorem i_MO_served_62 : i_MO_served 62 = some (.iinc 4 1, 3) := rfl
theorem i_MO_served_65 : i_MO_served 65 = some (.goto (-34), 3) := rfl
theorem i_MO_served_68 : i_MO_served 68 = some (.iload_n 3, 1) := rfl
theorem i_MO_served_69 : i_MO_served 69 = some (.ireturn, 1) := rfl
abbrev w_MO_served : List Jvm.Cond := Jvm.Cond.code y_MO_served b_MO_served 5 (some .int) :: vw_W
theorem c_MO_served : Jvm.Cond.code y_MO_served b_MO_served 5 (some .int) ∈ vw_W := vw_t 1082 (by decide +kernel) (by decide +kernel)
abbrev r_MO_served : Room := { frames := 0, cells := 0, slots := 0, locals := 0 }
abbrev b_MO_replay : ByteArray := prog_13_method_38_code
abbrev y_MO_replay : MethodName := ⟨"ServerDeskModel", "replay", "(I)I"⟩
def q_MO_replay : List (Nat × Instr × Nat) := [(0, .aload_n 0, 1), (1, .iload_n 1, 1), (2, .iconst 0, 1), (3, .iconst 3, 1), (4, .invokestatic 103, 3), (7, .ifCond .ne 7, 3), (10, .iconst 1, 1), (11, .goto 27, 3), (14, .aload_n 0, 1), (15, .getfield 111, 3), (18, .ifCond .ne 7, 3), (21, .iconst 2, 1), (22, .goto 16, 3), (25, .aload_n 0, 1), (26, .iload_n 1, 1), (27, .invokevirtual 121, 3), (30, .ifCond .ne 7, 3), (33, .iconst 3, 1), (34, .goto 4, 3), (37, .iconst 0, 1), (38, .putfield 92, 3), (41, .aload_n 0, 1), (42, .getfield 92, 3), (45, .ifCond .le 5, 3), (48, .iconst 0, 1), (49, .ireturn, 1), (50, .aload_n 0, 1), (51, .invokevirtual 198, 3), (54, .aload_n 0, 1), (55, .getfield 132, 3), (58, .istore_n 2, 1), (59, .aload_n 0, 1), (60, .iload_n 1, 1), (61, .invokevirtual 128, 3), (64, .iconst 0, 1), (65, .istore_n 3, 1), (66, .iconst 0, 1), (67, .istore 4, 2), (69, .aload_n 0, 1), (70, .getfield 132, 3), (73, .iload_n 2, 1), (74, .if_icmp .ge 89, 3), (77, .iload_n 3, 1), (78, .aload_n 0, 1), (79, .getfield 185, 3), (82, .if_icmp .ge 26, 3), (85, .aload_n 0, 1), (86, .getfield 34, 3), (89, .iload_n 3, 1), (90, .iaload, 1), (91, .aload_n 0, 1), (92, .getfield 132, 3), (95, .if_icmp .ne 13, 3), (98, .aload_n 0, 1), (99, .invokevirtual 188, 3), (102, .iinc 3 1, 3), (105, .goto (-28), 3), (108, .iload 4, 2), (110, .aload_n 0, 1), (111, .getfield 204, 3), (114, .if_icmp .ge 41, 3), (117, .aload_n 0, 1), (118, .getfield 47, 3), (121, .iload 4, 2), (123, .iaload, 1), (124, .aload_n 0, 1), (125, .getfield 132, 3), (128, .if_icmp .ne 27, 3), (131, .aload_n 0, 1), (132, .aload_n 0, 1), (133, .getfield 41, 3), (136, .iload 4, 2), (138, .iaload, 1), (139, .aload_n 0, 1), (140, .getfield 44, 3), (143, .iload 4, 2), (145, .iaload, 1), (146, .invokevirtual 207, 3), (149, .iinc 4 1, 3), (152, .goto (-44), 3), (155, .aload_n 0, 1), (156, .invokevirtual 182, 3), (159, .pop, 1), (160, .goto (-91), 3), (163, .aload_n 0, 1), (164, .iconst 0, 1), (165, .putfield 226, 3), (168, .aload_n 0, 1), (169, .iconst 0, 1), (170, .putfield 229, 3), (173, .aload_n 0, 1), (174, .aload_n 0, 1), (175, .getfield 144, 3), (178, .putfield 232, 3), (181, .iconst 0, 1), (182, .istore 5, 2), (184, .iconst 0, 1), (185, .istore 6, 2), (187, .iload 6, 2), (189, .aload_n 0, 1), (190, .getfield 141, 3), (193, .if_icmp .ge 52, 3), (196, .aload_n 0, 1), (197, .getfield 62, 3), (200, .iload 6, 2), (202, .iaload, 1), (203, .ifCond .le 6, 3), (206, .goto 33, 3), (209, .aload_n 0, 1), (210, .dup, 1), (211, .getfield 226, 3), (214, .iconst 1, 1), (215, .iadd, 1), (216, .putfield 226, 3), (219, .iload 5, 2), (221, .aload_n 0, 1), (222, .getfield 65, 3), (225, .iload 6, 2), (227, .iaload, 1), (228, .aload_n 0, 1), (229, .getfield 34, 3), (232, .iload 6, 2), (234, .iaload, 1), (235, .isub, 1), (236, .iadd, 1), (237, .istore 5, 2), (239, .iinc 6 1, 3), (242, .goto (-55), 3), (245, .iconst 0, 1), (246, .istore 6, 2), (248, .iload 6, 2), (250, .iload_n 2, 1), (251, .if_icmp .ge 40, 3), (254, .aload_n 0, 1), (255, .dup, 1), (256, .getfield 229, 3), (259, .aload_n 0, 1), (260, .getfield 68, 3), (263, .iload 6, 2), (265, .iaload, 1), (266, .aload_n 0, 1), (267, .getfield 89, 3), (270, .iload 6, 2), (272, .iaload, 1), (273, .if_icmp .ne 7, 3), (276, .iconst 1, 1), (277, .goto 4, 3), (280, .iconst 0, 1), (281, .iadd, 1), (282, .putfield 229, 3), (285, .iinc 6 1, 3), (288, .goto (-40), 3), (291, .aload_n 0, 1), (292, .invokevirtual 201, 3), (295, .iload 5, 2), (297, .ireturn, 1)]
def i_MO_replay : Nat → Option (Instr × Nat) := am_find q_MO_replay
theorem d_MO_replay_0 : decode b_MO_replay 0 = .ok (.aload_n 0, 1) := by decide +kernel
theorem d_MO_replay_1 : decode b_MO_replay 1 = .ok (.iload_n 1, 1) := by decide +kernel
theorem d_MO_replay_2 : decode b_MO_replay 2 = .ok (.iconst 0, 1) := by decide +kernel
theorem d_MO_replay_3 : decode b_MO_replay 3 = .ok (.iconst 3, 1) := by decide +kernel
theorem d_MO_replay_4 : decode b_MO_replay 4 = .ok (.invokestatic 103, 3) := by decide +kernel
theorem d_MO_replay_7 : decode b_MO_replay 7 = .ok (.ifCond .ne 7, 3) := by decide +kernel
theorem d_MO_replay_10 : decode b_MO_replay 10 = .ok (.iconst 1, 1) := by decide +kernel
theorem d_MO_replay_11 : decode b_MO_replay 11 = .ok (.goto 27, 3) := by decide +kernel
theorem d_MO_replay_14 : decode b_MO_replay 14 = .ok (.aload_n 0, 1) := by decide +kernel
theorem d_MO_replay_15 : decode b_MO_replay 15 = .ok (.getfield 111, 3) := by decide +kernel
theorem d_MO_replay_18 : decode b_MO_replay 18 = .ok (.ifCond .ne 7, 3) := by decide +kernel
theorem d_MO_replay_21 : decode b_MO_replay 21 = .ok (.iconst 2, 1) := by decide +kernel
theorem d_MO_replay_22 : decode b_MO_replay 22 = .ok (.goto 16, 3) := by decide +kernel
theorem d_MO_replay_25 : decode b_MO_replay 25 = .ok (.aload_n 0, 1) := by decide +kernel
theorem d_MO_replay_26 : decode b_MO_replay 26 = .ok (.iload_n 1, 1) := by decide +kernel
theorem d_MO_replay_27 : decode b_MO_replay 27 = .ok (.invokevirtual 121, 3) := by decide +kernel
theorem d_MO_replay_30 : decode b_MO_replay 30 = .ok (.ifCond .ne 7, 3) := by decide +kernel
theorem d_MO_replay_33 : decode b_MO_replay 33 = .ok (.iconst 3, 1) := by decide +kernel
theorem d_MO_replay_34 : decode b_MO_replay 34 = .ok (.goto 4, 3) := by decide +kernel
theorem d_MO_replay_37 : decode b_MO_replay 37 = .ok (.iconst 0, 1) := by decide +kernel
theorem d_MO_replay_38 : decode b_MO_replay 38 = .ok (.putfield 92, 3) := by decide +kernel
theorem d_MO_replay_41 : decode b_MO_replay 41 = .ok (.aload_n 0, 1) := by decide +kernel
theorem d_MO_replay_42 : decode b_MO_replay 42 = .ok (.getfield 92, 3) := by decide +kernel
theorem d_MO_replay_45 : decode b_MO_replay 45 = .ok (.ifCond .le 5, 3) := by decide +kernel
theorem d_MO_replay_48 : decode b_MO_replay 48 = .ok (.iconst 0, 1) := by decide +kernel
theorem d_MO_replay_49 : decode b_MO_replay 49 = .ok (.ireturn, 1) := by decide +kernel
theorem d_MO_replay_50 : decode b_MO_replay 50 = .ok (.aload_n 0, 1) := by decide +kernel
theorem d_MO_replay_51 : decode b_MO_replay 51 = .ok (.invokevirtual 198, 3) := by decide +kernel
theorem d_MO_replay_54 : decode b_MO_replay 54 = .ok (.aload_n 0, 1) := by decide +kernel
theorem d_MO_replay_55 : decode b_MO_replay 55 = .ok (.getfield 132, 3) := by decide +kernel
theorem d_MO_replay_58 : decode b_MO_replay 58 = .ok (.istore_n 2, 1) := by decide +kernel
theorem d_MO_replay_59 : decode b_MO_replay 59 = .ok (.aload_n 0, 1) := by decide +kernel
theorem d_MO_replay_60 : decode b_MO_replay 60 = .ok (.iload_n 1, 1) := by decide +kernel
theorem d_MO_replay_61 : decode b_MO_replay 61 = .ok (.invokevirtual 128, 3) := by decide +kernel
theorem d_MO_replay_64 : decode b_MO_replay 64 = .ok (.iconst 0, 1) := by decide +kernel
theorem d_MO_replay_65 : decode b_MO_replay 65 = .ok (.istore_n 3, 1) := by decide +kernel
theorem d_MO_replay_66 : decode b_MO_replay 66 = .ok (.iconst 0, 1) := by decide +kernel
theorem d_MO_replay_67 : decode b_MO_replay 67 = .ok (.istore 4, 2) := by decide +kernel
theorem d_MO_replay_69 : decode b_MO_replay 69 = .ok (.aload_n 0, 1) := by decide +kernel
theorem d_MO_replay_70 : decode b_MO_replay 70 = .ok (.getfield 132, 3) := by decide +kernel
theorem d_MO_replay_73 : decode b_MO_replay 73 = .ok (.iload_n 2, 1) := by decide +kernel
theorem d_MO_replay_74 : decode b_MO_replay 74 = .ok (.if_icmp .ge 89, 3) := by decide +kernel
theorem d_MO_replay_77 : decode b_MO_replay 77 = .ok (.iload_n 3, 1) := by decide +kernel
theorem d_MO_replay_78 : decode b_MO_replay 78 = .ok (.aload_n 0, 1) := by decide +kernel
theorem d_MO_replay_79 : decode b_MO_replay 79 = .ok (.getfield 185, 3) := by decide +kernel
theorem d_MO_replay_82 : decode b_MO_replay 82 = .ok (.if_icmp .ge 26, 3) := by decide +kernel
theorem d_MO_replay_85 : decode b_MO_replay 85 = .ok (.aload_n 0, 1) := by decide +kernel
theorem d_MO_replay_86 : decode b_MO_replay 86 = .ok (.getfield 34, 3) := by decide +kernel
theorem d_MO_replay_89 : decode b_MO_replay 89 = .ok (.iload_n 3, 1) := by decide +kernel
theorem d_MO_replay_90 : decode b_MO_replay 90 = .ok (.iaload, 1) := by decide +kernel
theorem d_MO_replay_91 : decode b_MO_replay 91 = .ok (.aload_n 0, 1) := by decide +kernel
theorem d_MO_replay_92 : decode b_MO_replay 92 = .ok (.getfield 132, 3) := by decide +kernel
theorem d_MO_replay_95 : decode b_MO_replay 95 = .ok (.if_icmp .ne 13, 3) := by decide +kernel
theorem d_MO_replay_98 : decode b_MO_replay 98 = .ok (.aload_n 0, 1) := by decide +kernel
theorem d_MO_replay_99 : decode b_MO_replay 99 = .ok (.invokevirtual 188, 3) := by decide +kernel
theorem d_MO_replay_102 : decode b_MO_replay 102 = .ok (.iinc 3 1, 3) := by decide +kernel
theorem d_MO_replay_105 : decode b_MO_replay 105 = .ok (.goto (-28), 3) := by decide +kernel
theorem d_MO_replay_108 : decode b_MO_replay 108 = .ok (.iload 4, 2) := by decide +kernel
theorem d_MO_replay_110 : decode b_MO_replay 110 = .ok (.aload_n 0, 1) := by decide +kernel
theorem d_MO_replay_111 : decode b_MO_replay 111 = .ok (.getfield 204, 3) := by decide +kernel
theorem d_MO_replay_114 : decode b_MO_replay 114 = .ok (.if_icmp .ge 41, 3) := by decide +kernel
theorem d_MO_replay_117 : decode b_MO_replay 117 = .ok (.aload_n 0, 1) := by decide +kernel
theorem d_MO_replay_118 : decode b_MO_replay 118 = .ok (.getfield 47, 3) := by decide +kernel
theorem d_MO_replay_121 : decode b_MO_replay 121 = .ok (.iload 4, 2) := by decide +kernel
theorem d_MO_replay_123 : decode b_MO_replay 123 = .ok (.iaload, 1) := by decide +kernel
theorem d_MO_replay_124 : decode b_MO_replay 124 = .ok (.aload_n 0, 1) := by decide +kernel
theorem d_MO_replay_125 : decode b_MO_replay 125 = .ok (.getfield 132, 3) := by decide +kernel
theorem d_MO_replay_128 : decode b_MO_replay 128 = .ok (.if_icmp .ne 27, 3) := by decide +kernel
theorem d_MO_replay_131 : decode b_MO_replay 131 = .ok (.aload_n 0, 1) := by decide +kernel
theorem d_MO_replay_132 : decode b_MO_replay 132 = .ok (.aload_n 0, 1) := by decide +kernel
theorem d_MO_replay_133 : decode b_MO_replay 133 = .ok (.getfield 41, 3) := by decide +kernel
theorem d_MO_replay_136 : decode b_MO_replay 136 = .ok (.iload 4, 2) := by decide +kernel
theorem d_MO_replay_138 : decode b_MO_replay 138 = .ok (.iaload, 1) := by decide +kernel
theorem d_MO_replay_139 : decode b_MO_replay 139 = .ok (.aload_n 0, 1) := by decide +kernel
theorem d_MO_replay_140 : decode b_MO_replay 140 = .ok (.getfield 44, 3) := by decide +kernel
theorem d_MO_replay_143 : decode b_MO_replay 143 = .ok (.iload 4, 2) := by decide +kernel
theorem d_MO_replay_145 : decode b_MO_replay 145 = .ok (.iaload, 1) := by decide +kernel
theorem d_MO_replay_146 : decode b_MO_replay 146 = .ok (.invokevirtual 207, 3) := by decide +kernel
theorem d_MO_replay_149 : decode b_MO_replay 149 = .ok (.iinc 4 1, 3) := by decide +kernel
theorem d_MO_replay_152 : decode b_MO_replay 152 = .ok (.goto (-44), 3) := by decide +kernel
theorem d_MO_replay_155 : decode b_MO_replay 155 = .ok (.aload_n 0, 1) := by decide +kernel
theorem d_MO_replay_156 : decode b_MO_replay 156 = .ok (.invokevirtual 182, 3) := by decide +kernel
theorem d_MO_replay_159 : decode b_MO_replay 159 = .ok (.pop, 1) := by decide +kernel
theorem d_MO_replay_160 : decode b_MO_replay 160 = .ok (.goto (-91), 3) := by decide +kernel
theorem d_MO_replay_163 : decode b_MO_replay 163 = .ok (.aload_n 0, 1) := by decide +kernel
theorem d_MO_replay_164 : decode b_MO_replay 164 = .ok (.iconst 0, 1) := by decide +kernel
theorem d_MO_replay_165 : decode b_MO_replay 165 = .ok (.putfield 226, 3) := by decide +kernel
theorem d_MO_replay_168 : decode b_MO_replay 168 = .ok (.aload_n 0, 1) := by decide +kernel
theorem d_MO_replay_169 : decode b_MO_replay 169 = .ok (.iconst 0, 1) := by decide +kernel
theorem d_MO_replay_170 : decode b_MO_replay 170 = .ok (.putfield 229, 3) := by decide +kernel
theorem d_MO_replay_173 : decode b_MO_replay 173 = .ok (.aload_n 0, 1) := by decide +kernel
theorem d_MO_replay_174 : decode b_MO_replay 174 = .ok (.aload_n 0, 1) := by decide +kernel
theorem d_MO_replay_175 : decode b_MO_replay 175 = .ok (.getfield 144, 3) := by decide +kernel
theorem d_MO_replay_178 : decode b_MO_replay 178 = .ok (.putfield 232, 3) := by decide +kernel
theorem d_MO_replay_181 : decode b_MO_replay 181 = .ok (.iconst 0, 1) := by decide +kernel
theorem d_MO_replay_182 : decode b_MO_replay 182 = .ok (.istore 5, 2) := by decide +kernel
theorem d_MO_replay_184 : decode b_MO_replay 184 = .ok (.iconst 0, 1) := by decide +kernel
theorem d_MO_replay_185 : decode b_MO_replay 185 = .ok (.istore 6, 2) := by decide +kernel
theorem d_MO_replay_187 : decode b_MO_replay 187 = .ok (.iload 6, 2) := by decide +kernel
theorem d_MO_replay_189 : decode b_MO_replay 189 = .ok (.aload_n 0, 1) := by decide +kernel
theorem d_MO_replay_190 : decode b_MO_replay 190 = .ok (.getfield 141, 3) := by decide +kernel
theorem d_MO_replay_193 : decode b_MO_replay 193 = .ok (.if_icmp .ge 52, 3) := by decide +kernel
theorem d_MO_replay_196 : decode b_MO_replay 196 = .ok (.aload_n 0, 1) := by decide +kernel
theorem d_MO_replay_197 : decode b_MO_replay 197 = .ok (.getfield 62, 3) := by decide +kernel
theorem d_MO_replay_200 : decode b_MO_replay 200 = .ok (.iload 6, 2) := by decide +kernel
theorem d_MO_replay_202 : decode b_MO_replay 202 = .ok (.iaload, 1) := by decide +kernel
theorem d_MO_replay_203 : decode b_MO_replay 203 = .ok (.ifCond .le 6, 3) := by decide +kernel
theorem d_MO_replay_206 : decode b_MO_replay 206 = .ok (.goto 33, 3) := by decide +kernel
theorem d_MO_replay_209 : decode b_MO_replay 209 = .ok (.aload_n 0, 1) := by decide +kernel
theorem d_MO_replay_210 : decode b_MO_replay 210 = .ok (.dup, 1) := by decide +kernel
theorem d_MO_replay_211 : decode b_MO_replay 211 = .ok (.getfield 226, 3) := by decide +kernel
theorem d_MO_replay_214 : decode b_MO_replay 214 = .ok (.iconst 1, 1) := by decide +kernel
theorem d_MO_replay_215 : decode b_MO_replay 215 = .ok (.iadd, 1) := by decide +kernel
theorem d_MO_replay_216 : decode b_MO_replay 216 = .ok (.putfield 226, 3) := by decide +kernel
theorem d_MO_replay_219 : decode b_MO_replay 219 = .ok (.iload 5, 2) := by decide +kernel
theorem d_MO_replay_221 : decode b_MO_replay 221 = .ok (.aload_n 0, 1) := by decide +kernel
theorem d_MO_replay_222 : decode b_MO_replay 222 = .ok (.getfield 65, 3) := by decide +kernel
theorem d_MO_replay_225 : decode b_MO_replay 225 = .ok (.iload 6, 2) := by decide +kernel
theorem d_MO_replay_227 : decode b_MO_replay 227 = .ok (.iaload, 1) := by decide +kernel
theorem d_MO_replay_228 : decode b_MO_replay 228 = .ok (.aload_n 0, 1) := by decide +kernel
theorem d_MO_replay_229 : decode b_MO_replay 229 = .ok (.getfield 34, 3) := by decide +kernel
theorem d_MO_replay_232 : decode b_MO_replay 232 = .ok (.iload 6, 2) := by decide +kernel
theorem d_MO_replay_234 : decode b_MO_replay 234 = .ok (.iaload, 1) := by decide +kernel
theorem d_MO_replay_235 : decode b_MO_replay 235 = .ok (.isub, 1) := by decide +kernel
theorem d_MO_replay_236 : decode b_MO_replay 236 = .ok (.iadd, 1) := by decide +kernel
theorem d_MO_replay_237 : decode b_MO_replay 237 = .ok (.istore 5, 2) := by decide +kernel
theorem d_MO_replay_239 : decode b_MO_replay 239 = .ok (.iinc 6 1, 3) := by decide +kernel
theorem d_MO_replay_242 : decode b_MO_replay 242 = .ok (.goto (-55), 3) := by decide +kernel
theorem d_MO_replay_245 : decode b_MO_replay 245 = .ok (.iconst 0, 1) := by decide +kernel
theorem d_MO_replay_246 : decode b_MO_replay 246 = .ok (.istore 6, 2) := by decide +kernel
theorem d_MO_replay_248 : decode b_MO_replay 248 = .ok (.iload 6, 2) := by decide +kernel
theorem d_MO_replay_250 : decode b_MO_replay 250 = .ok (.iload_n 2, 1) := by decide +kernel
theorem d_MO_replay_251 : decode b_MO_replay 251 = .ok (.if_icmp .ge 40, 3) := by decide +kernel
theorem d_MO_replay_254 : decode b_MO_replay 254 = .ok (.aload_n 0, 1) := by decide +kernel
theorem d_MO_replay_255 : decode b_MO_replay 255 = .ok (.dup, 1) := by decide +kernel
theorem d_MO_replay_256 : decode b_MO_replay 256 = .ok (.getfield 229, 3) := by decide +kernel
theorem d_MO_replay_259 : decode b_MO_replay 259 = .ok (.aload_n 0, 1) := by decide +kernel
theorem d_MO_replay_260 : decode b_MO_replay 260 = .ok (.getfield 68, 3) := by decide +kernel
theorem d_MO_replay_263 : decode b_MO_replay 263 = .ok (.iload 6, 2) := by decide +kernel
theorem d_MO_replay_265 : decode b_MO_replay 265 = .ok (.iaload, 1) := by decide +kernel
theorem d_MO_replay_266 : decode b_MO_replay 266 = .ok (.aload_n 0, 1) := by decide +kernel
theorem d_MO_replay_267 : decode b_MO_replay 267 = .ok (.getfield 89, 3) := by decide +kernel
theorem d_MO_replay_270 : decode b_MO_replay 270 = .ok (.iload 6, 2) := by decide +kernel
theorem d_MO_replay_272 : decode b_MO_replay 272 = .ok (.iaload, 1) := by decide +kernel
theorem d_MO_replay_273 : decode b_MO_replay 273 = .ok (.if_icmp .ne 7, 3) := by decide +kernel
theorem d_MO_replay_276 : decode b_MO_replay 276 = .ok (.iconst 1, 1) := by decide +kernel
theorem d_MO_replay_277 : decode b_MO_replay 277 = .ok (.goto 4, 3) := by decide +kernel
theorem d_MO_replay_280 : decode b_MO_replay 280 = .ok (.iconst 0, 1) := by decide +kernel
theorem d_MO_replay_281 : decode b_MO_replay 281 = .ok (.iadd, 1) := by decide +kernel
theorem d_MO_replay_282 : decode b_MO_replay 282 = .ok (.putfield 229, 3) := by decide +kernel
theorem d_MO_replay_285 : decode b_MO_replay 285 = .ok (.iinc 6 1, 3) := by decide +kernel
theorem d_MO_replay_288 : decode b_MO_replay 288 = .ok (.goto (-40), 3) := by decide +kernel
theorem d_MO_replay_291 : decode b_MO_replay 291 = .ok (.aload_n 0, 1) := by decide +kernel
theorem d_MO_replay_292 : decode b_MO_replay 292 = .ok (.invokevirtual 201, 3) := by decide +kernel
theorem d_MO_replay_295 : decode b_MO_replay 295 = .ok (.iload 5, 2) := by decide +kernel
theorem d_MO_replay_297 : decode b_MO_replay 297 = .ok (.ireturn, 1) := by decide +kernel
theorem d_MO_replay : ∀ z ∈ q_MO_replay, decode b_MO_replay z.1 = .ok z.2 := List.forall_mem_cons.mpr ⟨d_MO_replay_0, List.forall_mem_cons.mpr ⟨d_MO_replay_1, List.forall_mem_cons.mpr ⟨d_MO_replay_2, List.forall_mem_cons.mpr ⟨d_MO_replay_3, List.forall_mem_cons.mpr ⟨d_MO_replay_4, List.forall_mem_cons.mpr ⟨d_MO_replay_7, List.forall_mem_cons.mpr ⟨d_MO_replay_10, List.forall_mem_cons.mpr ⟨d_MO_replay_11, List.forall_mem_cons.mpr ⟨d_MO_replay_14, List.forall_mem_cons.mpr ⟨d_MO_replay_15, List.forall_mem_cons.mpr ⟨d_MO_replay_18, List.forall_mem_cons.mpr ⟨d_MO_replay_21, List.forall_mem_cons.mpr ⟨d_MO_replay_22, List.forall_mem_cons.mpr ⟨d_MO_replay_25, List.forall_mem_cons.mpr ⟨d_MO_replay_26, List.forall_mem_cons.mpr ⟨d_MO_replay_27, List.forall_mem_cons.mpr ⟨d_MO_replay_30, List.forall_mem_cons.mpr ⟨d_MO_replay_33, List.forall_mem_cons.mpr ⟨d_MO_replay_34, List.forall_mem_cons.mpr ⟨d_MO_replay_37, List.forall_mem_cons.mpr ⟨d_MO_replay_38, List.forall_mem_cons.mpr ⟨d_MO_replay_41, List.forall_mem_cons.mpr ⟨d_MO_replay_42, List.forall_mem_cons.mpr ⟨d_MO_replay_45, List.forall_mem_cons.mpr ⟨d_MO_replay_48, List.forall_mem_cons.mpr ⟨d_MO_replay_49, List.forall_mem_cons.mpr ⟨d_MO_replay_50, List.forall_mem_cons.mpr ⟨d_MO_replay_51, List.forall_mem_cons.mpr ⟨d_MO_replay_54, List.forall_mem_cons.mpr ⟨d_MO_replay_55, List.forall_mem_cons.mpr ⟨d_MO_replay_58, List.forall_mem_cons.mpr ⟨d_MO_replay_59, List.forall_mem_cons.mpr ⟨d_MO_replay_60, List.forall_mem_cons.mpr ⟨d_MO_replay_61, List.forall_mem_cons.mpr ⟨d_MO_replay_64, List.forall_mem_cons.mpr ⟨d_MO_replay_65, List.forall_mem_cons.mpr ⟨d_MO_replay_66, List.forall_mem_cons.mpr ⟨d_MO_replay_67, List.forall_mem_cons.mpr ⟨d_MO_replay_69, List.forall_mem_cons.mpr ⟨d_MO_replay_70, List.forall_mem_cons.mpr ⟨d_MO_replay_73, List.forall_mem_cons.mpr ⟨d_MO_replay_74, List.forall_mem_cons.mpr ⟨d_MO_replay_77, List.forall_mem_cons.mpr ⟨d_MO_replay_78, List.forall_mem_cons.mpr ⟨d_MO_replay_79, List.forall_mem_cons.mpr ⟨d_MO_replay_82, List.forall_mem_cons.mpr ⟨d_MO_replay_85, List.forall_mem_cons.mpr ⟨d_MO_replay_86, List.forall_mem_cons.mpr ⟨d_MO_replay_89, List.forall_mem_cons.mpr ⟨d_MO_replay_90, List.forall_mem_cons.mpr ⟨d_MO_replay_91, List.forall_mem_cons.mpr ⟨d_MO_replay_92, List.forall_mem_cons.mpr ⟨d_MO_replay_95, List.forall_mem_cons.mpr ⟨d_MO_replay_98, List.forall_mem_cons.mpr ⟨d_MO_replay_99, List.forall_mem_cons.mpr ⟨d_MO_replay_102, List.forall_mem_cons.mpr ⟨d_MO_replay_105, List.forall_mem_cons.mpr ⟨d_MO_replay_108, List.forall_mem_cons.mpr ⟨d_MO_replay_110, List.forall_mem_cons.mpr ⟨d_MO_replay_111, List.forall_mem_cons.mpr ⟨d_MO_replay_114, List.forall_mem_cons.mpr ⟨d_MO_replay_117, List.forall_mem_cons.mpr ⟨d_MO_replay_118, List.forall_mem_cons.mpr ⟨d_MO_replay_121, List.forall_mem_cons.mpr ⟨d_MO_replay_123, List.forall_mem_cons.mpr ⟨d_MO_replay_124, List.forall_mem_cons.mpr ⟨d_MO_replay_125, List.forall_mem_cons.mpr ⟨d_MO_replay_128, List.forall_mem_cons.mpr ⟨d_MO_replay_131, List.forall_mem_cons.mpr ⟨d_MO_replay_132, List.forall_mem_cons.mpr ⟨d_MO_replay_133, List.forall_mem_cons.mpr ⟨d_MO_replay_136, List.forall_mem_cons.mpr ⟨d_MO_replay_138, List.forall_mem_cons.mpr ⟨d_MO_replay_139, List.forall_mem_cons.mpr ⟨d_MO_replay_140, List.forall_mem_cons.mpr ⟨d_MO_replay_143, List.forall_mem_cons.mpr ⟨d_MO_replay_145, List.forall_mem_cons.mpr ⟨d_MO_replay_146, List.forall_mem_cons.mpr ⟨d_MO_replay_149, List.forall_mem_cons.mpr ⟨d_MO_replay_152, List.forall_mem_cons.mpr ⟨d_MO_replay_155, List.forall_mem_cons.mpr ⟨d_MO_replay_156, List.forall_mem_cons.mpr ⟨d_MO_replay_159, List.forall_mem_cons.mpr ⟨d_MO_replay_160, List.forall_mem_cons.mpr ⟨d_MO_replay_163, List.forall_mem_cons.mpr ⟨d_MO_replay_164, List.forall_mem_cons.mpr ⟨d_MO_replay_165, List.forall_mem_cons.mpr ⟨d_MO_replay_168, List.forall_mem_cons.mpr ⟨d_MO_replay_169, List.forall_mem_cons.mpr ⟨d_MO_replay_170, List.forall_mem_cons.mpr ⟨d_MO_replay_173, List.forall_mem_cons.mpr ⟨d_MO_replay_174, List.forall_mem_cons.mpr ⟨d_MO_replay_175, List.forall_mem_cons.mpr ⟨d_MO_replay_178, List.forall_mem_cons.mpr ⟨d_MO_replay_181, List.forall_mem_cons.mpr ⟨d_MO_replay_182, List.forall_mem_cons.mpr ⟨d_MO_replay_184, List.forall_mem_cons.mpr ⟨d_MO_replay_185, List.forall_mem_cons.mpr ⟨d_MO_replay_187, List.forall_mem_cons.mpr ⟨d_MO_replay_189, List.forall_mem_cons.mpr ⟨d_MO_replay_190, List.forall_mem_cons.mpr ⟨d_MO_replay_193, List.forall_mem_cons.mpr ⟨d_MO_replay_196, List.forall_mem_cons.mpr ⟨d_MO_replay_197, List.forall_mem_cons.mpr ⟨d_MO_replay_200, List.forall_mem_cons.mpr ⟨d_MO_replay_202, List.forall_mem_cons.mpr ⟨d_MO_replay_203, List.forall_mem_cons.mpr ⟨d_MO_replay_206, List.forall_mem_cons.mpr ⟨d_MO_replay_209, List.forall_mem_cons.mpr ⟨d_MO_replay_210, List.forall_mem_cons.mpr ⟨d_MO_replay_211, List.forall_mem_cons.mpr ⟨d_MO_replay_214, List.forall_mem_cons.mpr ⟨d_MO_replay_215, List.forall_mem_cons.mpr ⟨d_MO_replay_216, List.forall_mem_cons.mpr ⟨d_MO_replay_219, List.forall_mem_cons.mpr ⟨d_MO_replay_221, List.forall_mem_cons.mpr ⟨d_MO_replay_222, List.forall_mem_cons.mpr ⟨d_MO_replay_225, List.forall_mem_cons.mpr ⟨d_MO_replay_227, List.forall_mem_cons.mpr ⟨d_MO_replay_228, List.forall_mem_cons.mpr ⟨d_MO_replay_229, List.forall_mem_cons.mpr ⟨d_MO_replay_232, List.forall_mem_cons.mpr ⟨d_MO_replay_234, List.forall_mem_cons.mpr ⟨d_MO_replay_235, List.forall_mem_cons.mpr ⟨d_MO_replay_236, List.forall_mem_cons.mpr ⟨d_MO_replay_237, List.forall_mem_cons.mpr ⟨d_MO_replay_239, List.forall_mem_cons.mpr ⟨d_MO_replay_242, List.forall_mem_cons.mpr ⟨d_MO_replay_245, List.forall_mem_cons.mpr ⟨d_MO_replay_246, List.forall_mem_cons.mpr ⟨d_MO_replay_248, List.forall_mem_cons.mpr ⟨d_MO_replay_250, List.forall_mem_cons.mpr ⟨d_MO_replay_251, List.forall_mem_cons.mpr ⟨d_MO_replay_254, List.forall_mem_cons.mpr ⟨d_MO_replay_255, List.forall_mem_cons.mpr ⟨d_MO_replay_256, List.forall_mem_cons.mpr ⟨d_MO_replay_259, List.forall_mem_cons.mpr ⟨d_MO_replay_260, List.forall_mem_cons.mpr ⟨d_MO_replay_263, List.forall_mem_cons.mpr ⟨d_MO_replay_265, List.forall_mem_cons.mpr ⟨d_MO_replay_266, List.forall_mem_cons.mpr ⟨d_MO_replay_267, List.forall_mem_cons.mpr ⟨d_MO_replay_270, List.forall_mem_cons.mpr ⟨d_MO_replay_272, List.forall_mem_cons.mpr ⟨d_MO_replay_273, List.forall_mem_cons.mpr ⟨d_MO_replay_276, List.forall_mem_cons.mpr ⟨d_MO_replay_277, List.forall_mem_cons.mpr ⟨d_MO_replay_280, List.forall_mem_cons.mpr ⟨d_MO_replay_281, List.forall_mem_cons.mpr ⟨d_MO_replay_282, List.forall_mem_cons.mpr ⟨d_MO_replay_285, List.forall_mem_cons.mpr ⟨d_MO_replay_288, List.forall_mem_cons.mpr ⟨d_MO_replay_291, List.forall_mem_cons.mpr ⟨d_MO_replay_292, List.forall_mem_cons.mpr ⟨d_MO_replay_295, List.forall_mem_cons.mpr ⟨d_MO_replay_297, fun _ h => absurd h List.not_mem_nil⟩⟩⟩⟩⟩⟩⟩⟩⟩⟩⟩⟩⟩⟩⟩⟩⟩⟩⟩⟩⟩⟩⟩⟩⟩⟩⟩⟩⟩⟩⟩⟩⟩⟩⟩⟩⟩⟩⟩⟩⟩⟩⟩⟩⟩⟩⟩⟩⟩⟩⟩⟩⟩⟩⟩⟩⟩⟩⟩⟩⟩⟩⟩⟩⟩⟩⟩⟩⟩⟩⟩⟩⟩⟩⟩⟩⟩⟩⟩⟩⟩⟩⟩⟩⟩⟩⟩⟩⟩⟩⟩⟩⟩⟩⟩⟩⟩⟩⟩⟩⟩⟩⟩⟩⟩⟩⟩⟩⟩⟩⟩⟩⟩⟩⟩⟩⟩⟩⟩⟩⟩⟩⟩⟩⟩⟩⟩⟩⟩⟩⟩⟩⟩⟩⟩⟩⟩⟩⟩⟩⟩⟩⟩⟩⟩⟩⟩⟩⟩⟩⟩⟩⟩⟩⟩⟩
theorem i_MO_replay_ok : ∀ pc i n, i_MO_replay pc = some (i, n) → decode b_MO_replay pc = .ok (i, n) := fun pc i n h => d_MO_replay (pc, i, n) (am_find_mem h)
theorem i_MO_replay_0 : i_MO_replay 0 = some (.aload_n 0, 1) := rfl
theorem i_MO_replay_1 : i_MO_replay 1 = some (.iload_n 1, 1) := rfl
theorem i_MO_replay_2 : i_MO_replay 2 = some (.iconst 0, 1) := rfl
theorem i_MO_replay_3 : i_MO_replay 3 = some (.iconst 3, 1) := rfl
theorem i_MO_replay_4 : i_MO_replay 4 = some (.invokestatic 103, 3) := rfl
theorem i_MO_replay_7 : i_MO_replay 7 = some (.ifCond .ne 7, 3) := rfl
theorem i_MO_replay_10 : i_MO_replay 10 = some (.iconst 1, 1) := rfl
theorem i_MO_replay_11 : i_MO_replay 11 = some (.goto 27, 3) := rfl
theorem i_MO_replay_14 : i_MO_replay 14 = some (.aload_n 0, 1) := rfl
theorem i_MO_replay_15 : i_MO_replay 15 = some (.getfield 111, 3) := rfl
theorem i_MO_replay_18 : i_MO_replay 18 = some (.ifCond .ne 7, 3) := rfl
theorem i_MO_replay_21 : i_MO_replay 21 = some (.iconst 2, 1) := rfl
theorem i_MO_replay_22 : i_MO_replay 22 = some (.goto 16, 3) := rfl
theorem i_MO_replay_25 : i_MO_replay 25 = some (.aload_n 0, 1) := rfl
theorem i_MO_replay_26 : i_MO_replay 26 = some (.iload_n 1, 1) := rfl
theorem i_MO_replay_27 : i_MO_replay 27 = some (.invokevirtual 121, 3) := rfl
theorem i_MO_replay_30 : i_MO_replay 30 = some (.ifCond .ne 7, 3) := rfl
theorem i_MO_replay_33 : i_MO_replay 33 = some (.iconst 3, 1) := rfl
theorem i_MO_replay_34 : i_MO_replay 34 = some (.goto 4, 3) := rfl
theorem i_MO_replay_37 : i_MO_replay 37 = some (.iconst 0, 1) := rfl
theorem i_MO_replay_38 : i_MO_replay 38 = some (.putfield 92, 3) := rfl
theorem i_MO_replay_41 : i_MO_replay 41 = some (.aload_n 0, 1) := rfl
theorem i_MO_replay_42 : i_MO_replay 42 = some (.getfield 92, 3) := rfl
theorem i_MO_replay_45 : i_MO_replay 45 = some (.ifCond .le 5, 3) := rfl
theorem i_MO_replay_48 : i_MO_replay 48 = some (.iconst 0, 1) := rfl
theorem i_MO_replay_49 : i_MO_replay 49 = some (.ireturn, 1) := rfl
theorem i_MO_replay_50 : i_MO_replay 50 = some (.aload_n 0, 1) := rfl
theorem i_MO_replay_51 : i_MO_replay 51 = some (.invokevirtual 198, 3) := rfl
theorem i_MO_replay_54 : i_MO_replay 54 = some (.aload_n 0, 1) := rfl
theorem i_MO_replay_55 : i_MO_replay 55 = some (.getfield 132, 3) := rfl
theorem i_MO_replay_58 : i_MO_replay 58 = some (.istore_n 2, 1) := rfl
theorem i_MO_replay_59 : i_MO_replay 59 = some (.aload_n 0, 1) := rfl
theorem i_MO_replay_60 : i_MO_replay 60 = some (.iload_n 1, 1) := rfl
theorem i_MO_replay_61 : i_MO_replay 61 = some (.invokevirtual 128, 3) := rfl
theorem i_MO_replay_64 : i_MO_replay 64 = some (.iconst 0, 1) := rfl
theorem i_MO_replay_65 : i_MO_replay 65 = some (.istore_n 3, 1) := rfl
theorem i_MO_replay_66 : i_MO_replay 66 = some (.iconst 0, 1) := rfl
theorem i_MO_replay_67 : i_MO_replay 67 = some (.istore 4, 2) := rfl
theorem i_MO_replay_69 : i_MO_replay 69 = some (.aload_n 0, 1) := rfl
theorem i_MO_replay_70 : i_MO_replay 70 = some (.getfield 132, 3) := rfl
theorem i_MO_replay_73 : i_MO_replay 73 = some (.iload_n 2, 1) := rfl
theorem i_MO_replay_74 : i_MO_replay 74 = some (.if_icmp .ge 89, 3) := rfl
theorem i_MO_replay_77 : i_MO_replay 77 = some (.iload_n 3, 1) := rfl
theorem i_MO_replay_78 : i_MO_replay 78 = some (.aload_n 0, 1) := rfl
theorem i_MO_replay_79 : i_MO_replay 79 = some (.getfield 185, 3) := rfl
theorem i_MO_replay_82 : i_MO_replay 82 = some (.if_icmp .ge 26, 3) := rfl
theorem i_MO_replay_85 : i_MO_replay 85 = some (.aload_n 0, 1) := rfl
theorem i_MO_replay_86 : i_MO_replay 86 = some (.getfield 34, 3) := rfl
theorem i_MO_replay_89 : i_MO_replay 89 = some (.iload_n 3, 1) := rfl
theorem i_MO_replay_90 : i_MO_replay 90 = some (.iaload, 1) := rfl
theorem i_MO_replay_91 : i_MO_replay 91 = some (.aload_n 0, 1) := rfl
theorem i_MO_replay_92 : i_MO_replay 92 = some (.getfield 132, 3) := rfl
theorem i_MO_replay_95 : i_MO_replay 95 = some (.if_icmp .ne 13, 3) := rfl
theorem i_MO_replay_98 : i_MO_replay 98 = some (.aload_n 0, 1) := rfl
theorem i_MO_replay_99 : i_MO_replay 99 = some (.invokevirtual 188, 3) := rfl
theorem i_MO_replay_102 : i_MO_replay 102 = some (.iinc 3 1, 3) := rfl
theorem i_MO_replay_105 : i_MO_replay 105 = some (.goto (-28), 3) := rfl
theorem i_MO_replay_108 : i_MO_replay 108 = some (.iload 4, 2) := rfl
theorem i_MO_replay_110 : i_MO_replay 110 = some (.aload_n 0, 1) := rfl
theorem i_MO_replay_111 : i_MO_replay 111 = some (.getfield 204, 3) := rfl
theorem i_MO_replay_114 : i_MO_replay 114 = some (.if_icmp .ge 41, 3) := rfl
theorem i_MO_replay_117 : i_MO_replay 117 = some (.aload_n 0, 1) := rfl
theorem i_MO_replay_118 : i_MO_replay 118 = some (.getfield 47, 3) := rfl
theorem i_MO_replay_121 : i_MO_replay 121 = some (.iload 4, 2) := rfl
theorem i_MO_replay_123 : i_MO_replay 123 = some (.iaload, 1) := rfl
theorem i_MO_replay_124 : i_MO_replay 124 = some (.aload_n 0, 1) := rfl
theorem i_MO_replay_125 : i_MO_replay 125 = some (.getfield 132, 3) := rfl
theorem i_MO_replay_128 : i_MO_replay 128 = some (.if_icmp .ne 27, 3) := rfl
theorem i_MO_replay_131 : i_MO_replay 131 = some (.aload_n 0, 1) := rfl
theorem i_MO_replay_132 : i_MO_replay 132 = some (.aload_n 0, 1) := rfl
theorem i_MO_replay_133 : i_MO_replay 133 = some (.getfield 41, 3) := rfl
theorem i_MO_replay_136 : i_MO_replay 136 = some (.iload 4, 2) := rfl
theorem i_MO_replay_138 : i_MO_replay 138 = some (.iaload, 1) := rfl
theorem i_MO_replay_139 : i_MO_replay 139 = some (.aload_n 0, 1) := rfl
theorem i_MO_replay_140 : i_MO_replay 140 = some (.getfield 44, 3) := rfl
theorem i_MO_replay_143 : i_MO_replay 143 = some (.iload 4, 2) := rfl
theorem i_MO_replay_145 : i_MO_replay 145 = some (.iaload, 1) := rfl
theorem i_MO_replay_146 : i_MO_replay 146 = some (.invokevirtual 207, 3) := rfl
theorem i_MO_replay_149 : i_MO_replay 149 = some (.iinc 4 1, 3) := rfl
theorem i_MO_replay_152 : i_MO_replay 152 = some (.goto (-44), 3) := rfl
theorem i_MO_replay_155 : i_MO_replay 155 = some (.aload_n 0, 1) := rfl
theorem i_MO_replay_156 : i_MO_replay 156 = some (.invokevirtual 182, 3) := rfl
theorem i_MO_replay_159 : i_MO_replay 159 = some (.pop, 1) := rfl
theorem i_MO_replay_160 : i_MO_replay 160 = some (.goto (-91), 3) := rfl
theorem i_MO_replay_163 : i_MO_replay 163 = some (.aload_n 0, 1) := rfl
theorem i_MO_replay_164 : i_MO_replay 164 = some (.iconst 0, 1) := rfl
theorem i_MO_replay_165 : i_MO_replay 165 = some (.putfield 226, 3) := rfl
theorem i_MO_replay_168 : i_MO_replay 168 = some (.aload_n 0, 1) := rfl
theorem i_MO_replay_169 : i_MO_replay 169 = some (.iconst 0, 1) := rfl
theorem i_MO_replay_170 : i_MO_replay 170 = some (.putfield 229, 3) := rfl
theorem i_MO_replay_173 : i_MO_replay 173 = some (.aload_n 0, 1) := rfl
set_option maxRecDepth 100000 in
theorem i_MO_replay_174 : i_MO_replay 174 = some (.aload_n 0, 1) := rfl
set_option maxRecDepth 100000 in
theorem i_MO_replay_175 : i_MO_replay 175 = some (.getfield 144, 3) := rfl
set_option maxRecDepth 100000 in
theorem i_MO_replay_178 : i_MO_replay 178 = some (.putfield 232, 3) := rfl
set_option maxRecDepth 100000 in
theorem i_MO_replay_181 : i_MO_replay 181 = some (.iconst 0, 1) := rfl
set_option maxRecDepth 100000 in
theorem i_MO_replay_182 : i_MO_replay 182 = some (.istore 5, 2) := rfl
set_option maxRecDepth 100000 in
theorem i_MO_replay_184 : i_MO_replay 184 = some (.iconst 0, 1) := rfl
set_option maxRecDepth 100000 in
theorem i_MO_replay_185 : i_MO_replay 185 = some (.istore 6, 2) := rfl
set_option maxRecDepth 100000 in
theorem i_MO_replay_187 : i_MO_replay 187 = some (.iload 6, 2) := rfl
set_option maxRecDepth 100000 in
theorem i_MO_replay_189 : i_MO_replay 189 = some (.aload_n 0, 1) := rfl
set_option maxRecDepth 100000 in
theorem i_MO_replay_190 : i_MO_replay 190 = some (.getfield 141, 3) := rfl
set_option maxRecDepth 100000 in
theorem i_MO_replay_193 : i_MO_replay 193 = some (.if_icmp .ge 52, 3) := rfl
set_option maxRecDepth 100000 in
theorem i_MO_replay_196 : i_MO_replay 196 = some (.aload_n 0, 1) := rfl
set_option maxRecDepth 100000 in
theorem i_MO_replay_197 : i_MO_replay 197 = some (.getfield 62, 3) := rfl
set_option maxRecDepth 100000 in
theorem i_MO_replay_200 : i_MO_replay 200 = some (.iload 6, 2) := rfl
set_option maxRecDepth 100000 in
theorem i_MO_replay_202 : i_MO_replay 202 = some (.iaload, 1) := rfl
set_option maxRecDepth 100000 in
theorem i_MO_replay_203 : i_MO_replay 203 = some (.ifCond .le 6, 3) := rfl
set_option maxRecDepth 100000 in
theorem i_MO_replay_206 : i_MO_replay 206 = some (.goto 33, 3) := rfl
set_option maxRecDepth 100000 in
theorem i_MO_replay_209 : i_MO_replay 209 = some (.aload_n 0, 1) := rfl
set_option maxRecDepth 100000 in
theorem i_MO_replay_210 : i_MO_replay 210 = some (.dup, 1) := rfl
set_option maxRecDepth 100000 in
theorem i_MO_replay_211 : i_MO_replay 211 = some (.getfield 226, 3) := rfl
set_option maxRecDepth 100000 in
theorem i_MO_replay_214 : i_MO_replay 214 = some (.iconst 1, 1) := rfl
set_option maxRecDepth 100000 in
theorem i_MO_replay_215 : i_MO_replay 215 = some (.iadd, 1) := rfl
set_option maxRecDepth 100000 in
theorem i_MO_replay_216 : i_MO_replay 216 = some (.putfield 226, 3) := rfl
set_option maxRecDepth 100000 in
theorem i_MO_replay_219 : i_MO_replay 219 = some (.iload 5, 2) := rfl
set_option maxRecDepth 100000 in
theorem i_MO_replay_221 : i_MO_replay 221 = some (.aload_n 0, 1) := rfl
set_option maxRecDepth 100000 in
theorem i_MO_replay_222 : i_MO_replay 222 = some (.getfield 65, 3) := rfl
set_option maxRecDepth 100000 in
theorem i_MO_replay_225 : i_MO_replay 225 = some (.iload 6, 2) := rfl
set_option maxRecDepth 100000 in
theorem i_MO_replay_227 : i_MO_replay 227 = some (.iaload, 1) := rfl
set_option maxRecDepth 100000 in
theorem i_MO_replay_228 : i_MO_replay 228 = some (.aload_n 0, 1) := rfl
set_option maxRecDepth 100000 in
theorem i_MO_replay_229 : i_MO_replay 229 = some (.getfield 34, 3) := rfl
set_option maxRecDepth 100000 in
theorem i_MO_replay_232 : i_MO_replay 232 = some (.iload 6, 2) := rfl
set_option maxRecDepth 100000 in
theorem i_MO_replay_234 : i_MO_replay 234 = some (.iaload, 1) := rfl
set_option maxRecDepth 100000 in
theorem i_MO_replay_235 : i_MO_replay 235 = some (.isub, 1) := rfl
set_option maxRecDepth 100000 in
theorem i_MO_replay_236 : i_MO_replay 236 = some (.iadd, 1) := rfl
set_option maxRecDepth 100000 in
theorem i_MO_replay_237 : i_MO_replay 237 = some (.istore 5, 2) := rfl
set_option maxRecDepth 100000 in
theorem i_MO_replay_239 : i_MO_replay 239 = some (.iinc 6 1, 3) := rfl
set_option maxRecDepth 100000 in
theorem i_MO_replay_242 : i_MO_replay 242 = some (.goto (-55), 3) := rfl
set_option maxRecDepth 100000 in
theorem i_MO_replay_245 : i_MO_replay 245 = some (.iconst 0, 1) := rfl
set_option maxRecDepth 100000 in
theorem i_MO_replay_246 : i_MO_replay 246 = some (.istore 6, 2) := rfl
set_option maxRecDepth 100000 in
theorem i_MO_replay_248 : i_MO_replay 248 = some (.iload 6, 2) := rfl
set_option maxRecDepth 100000 in
theorem i_MO_replay_250 : i_MO_replay 250 = some (.iload_n 2, 1) := rfl
set_option maxRecDepth 100000 in
theorem i_MO_replay_251 : i_MO_replay 251 = some (.if_icmp .ge 40, 3) := rfl
set_option maxRecDepth 100000 in
theorem i_MO_replay_254 : i_MO_replay 254 = some (.aload_n 0, 1) := rfl
set_option maxRecDepth 100000 in
theorem i_MO_replay_255 : i_MO_replay 255 = some (.dup, 1) := rfl
set_option maxRecDepth 100000 in
theorem i_MO_replay_256 : i_MO_replay 256 = some (.getfield 229, 3) := rfl
set_option maxRecDepth 100000 in
theorem i_MO_replay_259 : i_MO_replay 259 = some (.aload_n 0, 1) := rfl
set_option maxRecDepth 100000 in
theorem i_MO_replay_260 : i_MO_replay 260 = some (.getfield 68, 3) := rfl
set_option maxRecDepth 100000 in
theorem i_MO_replay_263 : i_MO_replay 263 = some (.iload 6, 2) := rfl
set_option maxRecDepth 100000 in
theorem i_MO_replay_265 : i_MO_replay 265 = some (.iaload, 1) := rfl
set_option maxRecDepth 100000 in
theorem i_MO_replay_266 : i_MO_replay 266 = some (.aload_n 0, 1) := rfl
set_option maxRecDepth 100000 in
theorem i_MO_replay_267 : i_MO_replay 267 = some (.getfield 89, 3) := rfl
set_option maxRecDepth 100000 in
theorem i_MO_replay_270 : i_MO_replay 270 = some (.iload 6, 2) := rfl
set_option maxRecDepth 100000 in
theorem i_MO_replay_272 : i_MO_replay 272 = some (.iaload, 1) := rfl
set_option maxRecDepth 100000 in
theorem i_MO_replay_273 : i_MO_replay 273 = some (.if_icmp .ne 7, 3) := rfl
set_option maxRecDepth 100000 in
theorem i_MO_replay_276 : i_MO_replay 276 = some (.iconst 1, 1) := rfl
set_option maxRecDepth 100000 in
theorem i_MO_replay_277 : i_MO_replay 277 = some (.goto 4, 3) := rfl
set_option maxRecDepth 100000 in
theorem i_MO_replay_280 : i_MO_replay 280 = some (.iconst 0, 1) := rfl
set_option maxRecDepth 100000 in
theorem i_MO_replay_281 : i_MO_replay 281 = some (.iadd, 1) := rfl
set_option maxRecDepth 100000 in
theorem i_MO_replay_282 : i_MO_replay 282 = some (.putfield 229, 3) := rfl
set_option maxRecDepth 100000 in
theorem i_MO_replay_285 : i_MO_replay 285 = some (.iinc 6 1, 3) := rfl
set_option maxRecDepth 100000 in
theorem i_MO_replay_288 : i_MO_replay 288 = some (.goto (-40), 3) := rfl
set_option maxRecDepth 100000 in
theorem i_MO_replay_291 : i_MO_replay 291 = some (.aload_n 0, 1) := rfl
set_option maxRecDepth 100000 in
theorem i_MO_replay_292 : i_MO_replay 292 = some (.invokevirtual 201, 3) := rfl
set_option maxRecDepth 100000 in
theorem i_MO_replay_295 : i_MO_replay 295 = some (.iload 5, 2) := rfl
set_option maxRecDepth 100000 in
theorem i_MO_replay_297 : i_MO_replay 297 = some (.ireturn, 1) := rfl
abbrev w_MO_replay : List Jvm.Cond := Jvm.Cond.code y_MO_replay b_MO_replay 7 (some .int) :: vw_W
theorem c_MO_replay : Jvm.Cond.code y_MO_replay b_MO_replay 7 (some .int) ∈ vw_W := vw_t 1086 (by decide +kernel) (by decide +kernel)
abbrev r_MO_replay : Room := { frames := 7, cells := 0, slots := 0, locals := 164 }
abbrev b_MO_state : ByteArray := prog_13_method_40_code
abbrev y_MO_state : MethodName := ⟨"ServerDeskModel", "state", "(I)I"⟩
def q_MO_state : List (Nat × Instr × Nat) := [(0, .aload_n 0, 1), (1, .iload_n 1, 1), (2, .iconst 0, 1), (3, .bipush 7, 2), (5, .invokestatic 103, 3), (8, .ifCond .eq 7, 3), (11, .iconst 0, 1), (12, .goto 4, 3), (15, .iconst 1, 1), (16, .putfield 92, 3), (19, .aload_n 0, 1), (20, .getfield 92, 3), (23, .ifCond .le 5, 3), (26, .iconst 0, 1), (27, .ireturn, 1), (28, .iload_n 1, 1), (29, .ifCond .ne 8, 3), (32, .aload_n 0, 1), (33, .getfield 226, 3), (36, .ireturn, 1), (37, .iload_n 1, 1), (38, .iconst 1, 1), (39, .if_icmp .ne 8, 3), (42, .aload_n 0, 1), (43, .getfield 229, 3), (46, .ireturn, 1), (47, .iload_n 1, 1), (48, .iconst 2, 1), (49, .if_icmp .ne 8, 3), (52, .aload_n 0, 1), (53, .getfield 144, 3), (56, .ireturn, 1), (57, .iload_n 1, 1), (58, .iconst 3, 1), (59, .if_icmp .ne 8, 3), (62, .aload_n 0, 1), (63, .getfield 232, 3), (66, .ireturn, 1), (67, .iload_n 1, 1), (68, .iconst 4, 1), (69, .if_icmp .ne 8, 3), (72, .aload_n 0, 1), (73, .getfield 132, 3), (76, .ireturn, 1), (77, .iload_n 1, 1), (78, .iconst 5, 1), (79, .if_icmp .ne 8, 3), (82, .aload_n 0, 1), (83, .invokevirtual 235, 3), (86, .ireturn, 1), (87, .iload_n 1, 1), (88, .bipush 6, 2), (90, .if_icmp .ne 8, 3), (93, .aload_n 0, 1), (94, .invokevirtual 107, 3), (97, .ireturn, 1), (98, .aload_n 0, 1), (99, .getfield 135, 3), (102, .iconst 1, 1), (103, .if_icmp .eq 11, 3), (106, .aload_n 0, 1), (107, .getfield 135, 3), (110, .iconst 2, 1), (111, .if_icmp .ne 10, 3), (114, .aload_n 0, 1), (115, .getfield 138, 3), (118, .goto 4, 3), (121, .iconst 0, 1), (122, .ireturn, 1)]
def i_MO_state : Nat → Option (Instr × Nat) := am_find q_MO_state
theorem d_MO_state_0 : decode b_MO_state 0 = .ok (.aload_n 0, 1) := by decide +kernel
theorem d_MO_state_1 : decode b_MO_state 1 = .ok (.iload_n 1, 1) := by decide +kernel
theorem d_MO_state_2 : decode b_MO_state 2 = .ok (.iconst 0, 1) := by decide +kernel
theorem d_MO_state_3 : decode b_MO_state 3 = .ok (.bipush 7, 2) := by decide +kernel
theorem d_MO_state_5 : decode b_MO_state 5 = .ok (.invokestatic 103, 3) := by decide +kernel
theorem d_MO_state_8 : decode b_MO_state 8 = .ok (.ifCond .eq 7, 3) := by decide +kernel
theorem d_MO_state_11 : decode b_MO_state 11 = .ok (.iconst 0, 1) := by decide +kernel
theorem d_MO_state_12 : decode b_MO_state 12 = .ok (.goto 4, 3) := by decide +kernel
theorem d_MO_state_15 : decode b_MO_state 15 = .ok (.iconst 1, 1) := by decide +kernel
theorem d_MO_state_16 : decode b_MO_state 16 = .ok (.putfield 92, 3) := by decide +kernel
theorem d_MO_state_19 : decode b_MO_state 19 = .ok (.aload_n 0, 1) := by decide +kernel
theorem d_MO_state_20 : decode b_MO_state 20 = .ok (.getfield 92, 3) := by decide +kernel
theorem d_MO_state_23 : decode b_MO_state 23 = .ok (.ifCond .le 5, 3) := by decide +kernel
theorem d_MO_state_26 : decode b_MO_state 26 = .ok (.iconst 0, 1) := by decide +kernel
theorem d_MO_state_27 : decode b_MO_state 27 = .ok (.ireturn, 1) := by decide +kernel
theorem d_MO_state_28 : decode b_MO_state 28 = .ok (.iload_n 1, 1) := by decide +kernel
theorem d_MO_state_29 : decode b_MO_state 29 = .ok (.ifCond .ne 8, 3) := by decide +kernel
theorem d_MO_state_32 : decode b_MO_state 32 = .ok (.aload_n 0, 1) := by decide +kernel
theorem d_MO_state_33 : decode b_MO_state 33 = .ok (.getfield 226, 3) := by decide +kernel
theorem d_MO_state_36 : decode b_MO_state 36 = .ok (.ireturn, 1) := by decide +kernel
theorem d_MO_state_37 : decode b_MO_state 37 = .ok (.iload_n 1, 1) := by decide +kernel
theorem d_MO_state_38 : decode b_MO_state 38 = .ok (.iconst 1, 1) := by decide +kernel
theorem d_MO_state_39 : decode b_MO_state 39 = .ok (.if_icmp .ne 8, 3) := by decide +kernel
theorem d_MO_state_42 : decode b_MO_state 42 = .ok (.aload_n 0, 1) := by decide +kernel
theorem d_MO_state_43 : decode b_MO_state 43 = .ok (.getfield 229, 3) := by decide +kernel
theorem d_MO_state_46 : decode b_MO_state 46 = .ok (.ireturn, 1) := by decide +kernel
theorem d_MO_state_47 : decode b_MO_state 47 = .ok (.iload_n 1, 1) := by decide +kernel
theorem d_MO_state_48 : decode b_MO_state 48 = .ok (.iconst 2, 1) := by decide +kernel
theorem d_MO_state_49 : decode b_MO_state 49 = .ok (.if_icmp .ne 8, 3) := by decide +kernel
theorem d_MO_state_52 : decode b_MO_state 52 = .ok (.aload_n 0, 1) := by decide +kernel
theorem d_MO_state_53 : decode b_MO_state 53 = .ok (.getfield 144, 3) := by decide +kernel
theorem d_MO_state_56 : decode b_MO_state 56 = .ok (.ireturn, 1) := by decide +kernel
theorem d_MO_state_57 : decode b_MO_state 57 = .ok (.iload_n 1, 1) := by decide +kernel
theorem d_MO_state_58 : decode b_MO_state 58 = .ok (.iconst 3, 1) := by decide +kernel
theorem d_MO_state_59 : decode b_MO_state 59 = .ok (.if_icmp .ne 8, 3) := by decide +kernel
theorem d_MO_state_62 : decode b_MO_state 62 = .ok (.aload_n 0, 1) := by decide +kernel
theorem d_MO_state_63 : decode b_MO_state 63 = .ok (.getfield 232, 3) := by decide +kernel
theorem d_MO_state_66 : decode b_MO_state 66 = .ok (.ireturn, 1) := by decide +kernel
theorem d_MO_state_67 : decode b_MO_state 67 = .ok (.iload_n 1, 1) := by decide +kernel
theorem d_MO_state_68 : decode b_MO_state 68 = .ok (.iconst 4, 1) := by decide +kernel
theorem d_MO_state_69 : decode b_MO_state 69 = .ok (.if_icmp .ne 8, 3) := by decide +kernel
theorem d_MO_state_72 : decode b_MO_state 72 = .ok (.aload_n 0, 1) := by decide +kernel
theorem d_MO_state_73 : decode b_MO_state 73 = .ok (.getfield 132, 3) := by decide +kernel
theorem d_MO_state_76 : decode b_MO_state 76 = .ok (.ireturn, 1) := by decide +kernel
theorem d_MO_state_77 : decode b_MO_state 77 = .ok (.iload_n 1, 1) := by decide +kernel
theorem d_MO_state_78 : decode b_MO_state 78 = .ok (.iconst 5, 1) := by decide +kernel
theorem d_MO_state_79 : decode b_MO_state 79 = .ok (.if_icmp .ne 8, 3) := by decide +kernel
theorem d_MO_state_82 : decode b_MO_state 82 = .ok (.aload_n 0, 1) := by decide +kernel
theorem d_MO_state_83 : decode b_MO_state 83 = .ok (.invokevirtual 235, 3) := by decide +kernel
theorem d_MO_state_86 : decode b_MO_state 86 = .ok (.ireturn, 1) := by decide +kernel
theorem d_MO_state_87 : decode b_MO_state 87 = .ok (.iload_n 1, 1) := by decide +kernel
theorem d_MO_state_88 : decode b_MO_state 88 = .ok (.bipush 6, 2) := by decide +kernel
theorem d_MO_state_90 : decode b_MO_state 90 = .ok (.if_icmp .ne 8, 3) := by decide +kernel
theorem d_MO_state_93 : decode b_MO_state 93 = .ok (.aload_n 0, 1) := by decide +kernel
theorem d_MO_state_94 : decode b_MO_state 94 = .ok (.invokevirtual 107, 3) := by decide +kernel
theorem d_MO_state_97 : decode b_MO_state 97 = .ok (.ireturn, 1) := by decide +kernel
theorem d_MO_state_98 : decode b_MO_state 98 = .ok (.aload_n 0, 1) := by decide +kernel
theorem d_MO_state_99 : decode b_MO_state 99 = .ok (.getfield 135, 3) := by decide +kernel
theorem d_MO_state_102 : decode b_MO_state 102 = .ok (.iconst 1, 1) := by decide +kernel
theorem d_MO_state_103 : decode b_MO_state 103 = .ok (.if_icmp .eq 11, 3) := by decide +kernel
theorem d_MO_state_106 : decode b_MO_state 106 = .ok (.aload_n 0, 1) := by decide +kernel
theorem d_MO_state_107 : decode b_MO_state 107 = .ok (.getfield 135, 3) := by decide +kernel
theorem d_MO_state_110 : decode b_MO_state 110 = .ok (.iconst 2, 1) := by decide +kernel
theorem d_MO_state_111 : decode b_MO_state 111 = .ok (.if_icmp .ne 10, 3) := by decide +kernel
theorem d_MO_state_114 : decode b_MO_state 114 = .ok (.aload_n 0, 1) := by decide +kernel
theorem d_MO_state_115 : decode b_MO_state 115 = .ok (.getfield 138, 3) := by decide +kernel
theorem d_MO_state_118 : decode b_MO_state 118 = .ok (.goto 4, 3) := by decide +kernel
theorem d_MO_state_121 : decode b_MO_state 121 = .ok (.iconst 0, 1) := by decide +kernel
theorem d_MO_state_122 : decode b_MO_state 122 = .ok (.ireturn, 1) := by decide +kernel
theorem d_MO_state : ∀ z ∈ q_MO_state, decode b_MO_state z.1 = .ok z.2 := List.forall_mem_cons.mpr ⟨d_MO_state_0, List.forall_mem_cons.mpr ⟨d_MO_state_1, List.forall_mem_cons.mpr ⟨d_MO_state_2, List.forall_mem_cons.mpr ⟨d_MO_state_3, List.forall_mem_cons.mpr ⟨d_MO_state_5, List.forall_mem_cons.mpr ⟨d_MO_state_8, List.forall_mem_cons.mpr ⟨d_MO_state_11, List.forall_mem_cons.mpr ⟨d_MO_state_12, List.forall_mem_cons.mpr ⟨d_MO_state_15, List.forall_mem_cons.mpr ⟨d_MO_state_16, List.forall_mem_cons.mpr ⟨d_MO_state_19, List.forall_mem_cons.mpr ⟨d_MO_state_20, List.forall_mem_cons.mpr ⟨d_MO_state_23, List.forall_mem_cons.mpr ⟨d_MO_state_26, List.forall_mem_cons.mpr ⟨d_MO_state_27, List.forall_mem_cons.mpr ⟨d_MO_state_28, List.forall_mem_cons.mpr ⟨d_MO_state_29, List.forall_mem_cons.mpr ⟨d_MO_state_32, List.forall_mem_cons.mpr ⟨d_MO_state_33, List.forall_mem_cons.mpr ⟨d_MO_state_36, List.forall_mem_cons.mpr ⟨d_MO_state_37, List.forall_mem_cons.mpr ⟨d_MO_state_38, List.forall_mem_cons.mpr ⟨d_MO_state_39, List.forall_mem_cons.mpr ⟨d_MO_state_42, List.forall_mem_cons.mpr ⟨d_MO_state_43, List.forall_mem_cons.mpr ⟨d_MO_state_46, List.forall_mem_cons.mpr ⟨d_MO_state_47, List.forall_mem_cons.mpr ⟨d_MO_state_48, List.forall_mem_cons.mpr ⟨d_MO_state_49, List.forall_mem_cons.mpr ⟨d_MO_state_52, List.forall_mem_cons.mpr ⟨d_MO_state_53, List.forall_mem_cons.mpr ⟨d_MO_state_56, List.forall_mem_cons.mpr ⟨d_MO_state_57, List.forall_mem_cons.mpr ⟨d_MO_state_58, List.forall_mem_cons.mpr ⟨d_MO_state_59, List.forall_mem_cons.mpr ⟨d_MO_state_62, List.forall_mem_cons.mpr ⟨d_MO_state_63, List.forall_mem_cons.mpr ⟨d_MO_state_66, List.forall_mem_cons.mpr ⟨d_MO_state_67, List.forall_mem_cons.mpr ⟨d_MO_state_68, List.forall_mem_cons.mpr ⟨d_MO_state_69, List.forall_mem_cons.mpr ⟨d_MO_state_72, List.forall_mem_cons.mpr ⟨d_MO_state_73, List.forall_mem_cons.mpr ⟨d_MO_state_76, List.forall_mem_cons.mpr ⟨d_MO_state_77, List.forall_mem_cons.mpr ⟨d_MO_state_78, List.forall_mem_cons.mpr ⟨d_MO_state_79, List.forall_mem_cons.mpr ⟨d_MO_state_82, List.forall_mem_cons.mpr ⟨d_MO_state_83, List.forall_mem_cons.mpr ⟨d_MO_state_86, List.forall_mem_cons.mpr ⟨d_MO_state_87, List.forall_mem_cons.mpr ⟨d_MO_state_88, List.forall_mem_cons.mpr ⟨d_MO_state_90, List.forall_mem_cons.mpr ⟨d_MO_state_93, List.forall_mem_cons.mpr ⟨d_MO_state_94, List.forall_mem_cons.mpr ⟨d_MO_state_97, List.forall_mem_cons.mpr ⟨d_MO_state_98, List.forall_mem_cons.mpr ⟨d_MO_state_99, List.forall_mem_cons.mpr ⟨d_MO_state_102, List.forall_mem_cons.mpr ⟨d_MO_state_103, List.forall_mem_cons.mpr ⟨d_MO_state_106, List.forall_mem_cons.mpr ⟨d_MO_state_107, List.forall_mem_cons.mpr ⟨d_MO_state_110, List.forall_mem_cons.mpr ⟨d_MO_state_111, List.forall_mem_cons.mpr ⟨d_MO_state_114, List.forall_mem_cons.mpr ⟨d_MO_state_115, List.forall_mem_cons.mpr ⟨d_MO_state_118, List.forall_mem_cons.mpr ⟨d_MO_state_121, List.forall_mem_cons.mpr ⟨d_MO_state_122, fun _ h => absurd h List.not_mem_nil⟩⟩⟩⟩⟩⟩⟩⟩⟩⟩⟩⟩⟩⟩⟩⟩⟩⟩⟩⟩⟩⟩⟩⟩⟩⟩⟩⟩⟩⟩⟩⟩⟩⟩⟩⟩⟩⟩⟩⟩⟩⟩⟩⟩⟩⟩⟩⟩⟩⟩⟩⟩⟩⟩⟩⟩⟩⟩⟩⟩⟩⟩⟩⟩⟩⟩⟩⟩⟩
theorem i_MO_state_ok : ∀ pc i n, i_MO_state pc = some (i, n) → decode b_MO_state pc = .ok (i, n) := fun pc i n h => d_MO_state (pc, i, n) (am_find_mem h)
theorem i_MO_state_0 : i_MO_state 0 = some (.aload_n 0, 1) := rfl
theorem i_MO_state_1 : i_MO_state 1 = some (.iload_n 1, 1) := rfl
theorem i_MO_state_2 : i_MO_state 2 = some (.iconst 0, 1) := rfl
theorem i_MO_state_3 : i_MO_state 3 = some (.bipush 7, 2) := rfl
theorem i_MO_state_5 : i_MO_state 5 = some (.invokestatic 103, 3) := rfl
theorem i_MO_state_8 : i_MO_state 8 = some (.ifCond .eq 7, 3) := rfl
theorem i_MO_state_11 : i_MO_state 11 = some (.iconst 0, 1) := rfl
theorem i_MO_state_12 : i_MO_state 12 = some (.goto 4, 3) := rfl
theorem i_MO_state_15 : i_MO_state 15 = some (.iconst 1, 1) := rfl
theorem i_MO_state_16 : i_MO_state 16 = some (.putfield 92, 3) := rfl
theorem i_MO_state_19 : i_MO_state 19 = some (.aload_n 0, 1) := rfl
theorem i_MO_state_20 : i_MO_state 20 = some (.getfield 92, 3) := rfl
theorem i_MO_state_23 : i_MO_state 23 = some (.ifCond .le 5, 3) := rfl
theorem i_MO_state_26 : i_MO_state 26 = some (.iconst 0, 1) := rfl
theorem i_MO_state_27 : i_MO_state 27 = some (.ireturn, 1) := rfl
theorem i_MO_state_28 : i_MO_state 28 = some (.iload_n 1, 1) := rfl
theorem i_MO_state_29 : i_MO_state 29 = some (.ifCond .ne 8, 3) := rfl
theorem i_MO_state_32 : i_MO_state 32 = some (.aload_n 0, 1) := rfl
theorem i_MO_state_33 : i_MO_state 33 = some (.getfield 226, 3) := rfl
theorem i_MO_state_36 : i_MO_state 36 = some (.ireturn, 1) := rfl
theorem i_MO_state_37 : i_MO_state 37 = some (.iload_n 1, 1) := rfl
theorem i_MO_state_38 : i_MO_state 38 = some (.iconst 1, 1) := rfl
theorem i_MO_state_39 : i_MO_state 39 = some (.if_icmp .ne 8, 3) := rfl
theorem i_MO_state_42 : i_MO_state 42 = some (.aload_n 0, 1) := rfl
theorem i_MO_state_43 : i_MO_state 43 = some (.getfield 229, 3) := rfl
theorem i_MO_state_46 : i_MO_state 46 = some (.ireturn, 1) := rfl
theorem i_MO_state_47 : i_MO_state 47 = some (.iload_n 1, 1) := rfl
theorem i_MO_state_48 : i_MO_state 48 = some (.iconst 2, 1) := rfl
theorem i_MO_state_49 : i_MO_state 49 = some (.if_icmp .ne 8, 3) := rfl
theorem i_MO_state_52 : i_MO_state 52 = some (.aload_n 0, 1) := rfl
theorem i_MO_state_53 : i_MO_state 53 = some (.getfield 144, 3) := rfl
theorem i_MO_state_56 : i_MO_state 56 = some (.ireturn, 1) := rfl
theorem i_MO_state_57 : i_MO_state 57 = some (.iload_n 1, 1) := rfl
theorem i_MO_state_58 : i_MO_state 58 = some (.iconst 3, 1) := rfl
theorem i_MO_state_59 : i_MO_state 59 = some (.if_icmp .ne 8, 3) := rfl
theorem i_MO_state_62 : i_MO_state 62 = some (.aload_n 0, 1) := rfl
theorem i_MO_state_63 : i_MO_state 63 = some (.getfield 232, 3) := rfl
theorem i_MO_state_66 : i_MO_state 66 = some (.ireturn, 1) := rfl
theorem i_MO_state_67 : i_MO_state 67 = some (.iload_n 1, 1) := rfl
theorem i_MO_state_68 : i_MO_state 68 = some (.iconst 4, 1) := rfl
theorem i_MO_state_69 : i_MO_state 69 = some (.if_icmp .ne 8, 3) := rfl
theorem i_MO_state_72 : i_MO_state 72 = some (.aload_n 0, 1) := rfl
theorem i_MO_state_73 : i_MO_state 73 = some (.getfield 132, 3) := rfl
theorem i_MO_state_76 : i_MO_state 76 = some (.ireturn, 1) := rfl
theorem i_MO_state_77 : i_MO_state 77 = some (.iload_n 1, 1) := rfl
theorem i_MO_state_78 : i_MO_state 78 = some (.iconst 5, 1) := rfl
theorem i_MO_state_79 : i_MO_state 79 = some (.if_icmp .ne 8, 3) := rfl
theorem i_MO_state_82 : i_MO_state 82 = some (.aload_n 0, 1) := rfl
theorem i_MO_state_83 : i_MO_state 83 = some (.invokevirtual 235, 3) := rfl
theorem i_MO_state_86 : i_MO_state 86 = some (.ireturn, 1) := rfl
theorem i_MO_state_87 : i_MO_state 87 = some (.iload_n 1, 1) := rfl
theorem i_MO_state_88 : i_MO_state 88 = some (.bipush 6, 2) := rfl
theorem i_MO_state_90 : i_MO_state 90 = some (.if_icmp .ne 8, 3) := rfl
theorem i_MO_state_93 : i_MO_state 93 = some (.aload_n 0, 1) := rfl
theorem i_MO_state_94 : i_MO_state 94 = some (.invokevirtual 107, 3) := rfl
theorem i_MO_state_97 : i_MO_state 97 = some (.ireturn, 1) := rfl
theorem i_MO_state_98 : i_MO_state 98 = some (.aload_n 0, 1) := rfl
theorem i_MO_state_99 : i_MO_state 99 = some (.getfield 135, 3) := rfl
theorem i_MO_state_102 : i_MO_state 102 = some (.iconst 1, 1) := rfl
theorem i_MO_state_103 : i_MO_state 103 = some (.if_icmp .eq 11, 3) := rfl
theorem i_MO_state_106 : i_MO_state 106 = some (.aload_n 0, 1) := rfl
theorem i_MO_state_107 : i_MO_state 107 = some (.getfield 135, 3) := rfl
theorem i_MO_state_110 : i_MO_state 110 = some (.iconst 2, 1) := rfl
theorem i_MO_state_111 : i_MO_state 111 = some (.if_icmp .ne 10, 3) := rfl
theorem i_MO_state_114 : i_MO_state 114 = some (.aload_n 0, 1) := rfl
theorem i_MO_state_115 : i_MO_state 115 = some (.getfield 138, 3) := rfl
theorem i_MO_state_118 : i_MO_state 118 = some (.goto 4, 3) := rfl
theorem i_MO_state_121 : i_MO_state 121 = some (.iconst 0, 1) := rfl
theorem i_MO_state_122 : i_MO_state 122 = some (.ireturn, 1) := rfl
abbrev w_MO_state : List Jvm.Cond := Jvm.Cond.code y_MO_state b_MO_state 2 (some .int) :: vw_W
theorem c_MO_state : Jvm.Cond.code y_MO_state b_MO_state 2 (some .int) ∈ vw_W := vw_t 1090 (by decide +kernel) (by decide +kernel)
abbrev r_MO_state : Room := { frames := 2, cells := 0, slots := 0, locals := 46 }
abbrev b_MO_queued : ByteArray := prog_13_method_39_code
abbrev y_MO_queued : MethodName := ⟨"ServerDeskModel", "queued", "()I"⟩
def q_MO_queued : List (Nat × Instr × Nat) := [(0, .iconst 0, 1), (1, .istore_n 1, 1), (2, .iconst 0, 1), (3, .istore_n 2, 1), (4, .iload_n 2, 1), (5, .aload_n 0, 1), (6, .getfield 141, 3), (9, .if_icmp .ge 26, 3), (12, .iload_n 1, 1), (13, .aload_n 0, 1), (14, .getfield 62, 3), (17, .iload_n 2, 1), (18, .iaload, 1), (19, .ifCond .le 7, 3), (22, .iconst 1, 1), (23, .goto 4, 3), (26, .iconst 0, 1), (27, .iadd, 1), (28, .istore_n 1, 1), (29, .iinc 2 1, 3), (32, .goto (-28), 3), (35, .iload_n 1, 1), (36, .ireturn, 1)]
def i_MO_queued : Nat → Option (Instr × Nat) := am_find q_MO_queued
theorem d_MO_queued_0 : decode b_MO_queued 0 = .ok (.iconst 0, 1) := by decide +kernel
theorem d_MO_queued_1 : decode b_MO_queued 1 = .ok (.istore_n 1, 1) := by decide +kernel
theorem d_MO_queued_2 : decode b_MO_queued 2 = .ok (.iconst 0, 1) := by decide +kernel
theorem d_MO_queued_3 : decode b_MO_queued 3 = .ok (.istore_n 2, 1) := by decide +kernel
theorem d_MO_queued_4 : decode b_MO_queued 4 = .ok (.iload_n 2, 1) := by decide +kernel
theorem d_MO_queued_5 : decode b_MO_queued 5 = .ok (.aload_n 0, 1) := by decide +kernel
theorem d_MO_queued_6 : decode b_MO_queued 6 = .ok (.getfield 141, 3) := by decide +kernel
theorem d_MO_queued_9 : decode b_MO_queued 9 = .ok (.if_icmp .ge 26, 3) := by decide +kernel
theorem d_MO_queued_12 : decode b_MO_queued 12 = .ok (.iload_n 1, 1) := by decide +kernel
theorem d_MO_queued_13 : decode b_MO_queued 13 = .ok (.aload_n 0, 1) := by decide +kernel
theorem d_MO_queued_14 : decode b_MO_queued 14 = .ok (.getfield 62, 3) := by decide +kernel
theorem d_MO_queued_17 : decode b_MO_queued 17 = .ok (.iload_n 2, 1) := by decide +kernel
theorem d_MO_queued_18 : decode b_MO_queued 18 = .ok (.iaload, 1) := by decide +kernel
theorem d_MO_queued_19 : decode b_MO_queued 19 = .ok (.ifCond .le 7, 3) := by decide +kernel
theorem d_MO_queued_22 : decode b_MO_queued 22 = .ok (.iconst 1, 1) := by decide +kernel
theorem d_MO_queued_23 : decode b_MO_queued 23 = .ok (.goto 4, 3) := by decide +kernel
theorem d_MO_queued_26 : decode b_MO_queued 26 = .ok (.iconst 0, 1) := by decide +kernel
theorem d_MO_queued_27 : decode b_MO_queued 27 = .ok (.iadd, 1) := by decide +kernel
theorem d_MO_queued_28 : decode b_MO_queued 28 = .ok (.istore_n 1, 1) := by decide +kernel
theorem d_MO_queued_29 : decode b_MO_queued 29 = .ok (.iinc 2 1, 3) := by decide +kernel
theorem d_MO_queued_32 : decode b_MO_queued 32 = .ok (.goto (-28), 3) := by decide +kernel
theorem d_MO_queued_35 : decode b_MO_queued 35 = .ok (.iload_n 1, 1) := by decide +kernel
theorem d_MO_queued_36 : decode b_MO_queued 36 = .ok (.ireturn, 1) := by decide +kernel
theorem d_MO_queued : ∀ z ∈ q_MO_queued, decode b_MO_queued z.1 = .ok z.2 := List.forall_mem_cons.mpr ⟨d_MO_queued_0, List.forall_mem_cons.mpr ⟨d_MO_queued_1, List.forall_mem_cons.mpr ⟨d_MO_queued_2, List.forall_mem_cons.mpr ⟨d_MO_queued_3, List.forall_mem_cons.mpr ⟨d_MO_queued_4, List.forall_mem_cons.mpr ⟨d_MO_queued_5, List.forall_mem_cons.mpr ⟨d_MO_queued_6, List.forall_mem_cons.mpr ⟨d_MO_queued_9, List.forall_mem_cons.mpr ⟨d_MO_queued_12, List.forall_mem_cons.mpr ⟨d_MO_queued_13, List.forall_mem_cons.mpr ⟨d_MO_queued_14, List.forall_mem_cons.mpr ⟨d_MO_queued_17, List.forall_mem_cons.mpr ⟨d_MO_queued_18, List.forall_mem_cons.mpr ⟨d_MO_queued_19, List.forall_mem_cons.mpr ⟨d_MO_queued_22, List.forall_mem_cons.mpr ⟨d_MO_queued_23, List.forall_mem_cons.mpr ⟨d_MO_queued_26, List.forall_mem_cons.mpr ⟨d_MO_queued_27, List.forall_mem_cons.mpr ⟨d_MO_queued_28, List.forall_mem_cons.mpr ⟨d_MO_queued_29, List.forall_mem_cons.mpr ⟨d_MO_queued_32, List.forall_mem_cons.mpr ⟨d_MO_queued_35, List.forall_mem_cons.mpr ⟨d_MO_queued_36, fun _ h => absurd h List.not_mem_nil⟩⟩⟩⟩⟩⟩⟩⟩⟩⟩⟩⟩⟩⟩⟩⟩⟩⟩⟩⟩⟩⟩⟩
theorem i_MO_queued_ok : ∀ pc i n, i_MO_queued pc = some (i, n) → decode b_MO_queued pc = .ok (i, n) := fun pc i n h => d_MO_queued (pc, i, n) (am_find_mem h)
theorem i_MO_queued_0 : i_MO_queued 0 = some (.iconst 0, 1) := rfl
theorem i_MO_queued_1 : i_MO_queued 1 = some (.istore_n 1, 1) := rfl
theorem i_MO_queued_2 : i_MO_queued 2 = some (.iconst 0, 1) := rfl
theorem i_MO_queued_3 : i_MO_queued 3 = some (.istore_n 2, 1) := rfl
theorem i_MO_queued_4 : i_MO_queued 4 = some (.iload_n 2, 1) := rfl
theorem i_MO_queued_5 : i_MO_queued 5 = some (.aload_n 0, 1) := rfl
theorem i_MO_queued_6 : i_MO_queued 6 = some (.getfield 141, 3) := rfl
theorem i_MO_queued_9 : i_MO_queued 9 = some (.if_icmp .ge 26, 3) := rfl
theorem i_MO_queued_12 : i_MO_queued 12 = some (.iload_n 1, 1) := rfl
theorem i_MO_queued_13 : i_MO_queued 13 = some (.aload_n 0, 1) := rfl
theorem i_MO_queued_14 : i_MO_queued 14 = some (.getfield 62, 3) := rfl
theorem i_MO_queued_17 : i_MO_queued 17 = some (.iload_n 2, 1) := rfl
theorem i_MO_queued_18 : i_MO_queued 18 = some (.iaload, 1) := rfl
theorem i_MO_queued_19 : i_MO_queued 19 = some (.ifCond .le 7, 3) := rfl
theorem i_MO_queued_22 : i_MO_queued 22 = some (.iconst 1, 1) := rfl
theorem i_MO_queued_23 : i_MO_queued 23 = some (.goto 4, 3) := rfl
theorem i_MO_queued_26 : i_MO_queued 26 = some (.iconst 0, 1) := rfl
theorem i_MO_queued_27 : i_MO_queued 27 = some (.iadd, 1) := rfl
theorem i_MO_queued_28 : i_MO_queued 28 = some (.istore_n 1, 1) := rfl
theorem i_MO_queued_29 : i_MO_queued 29 = some (.iinc 2 1, 3) := rfl
theorem i_MO_queued_32 : i_MO_queued 32 = some (.goto (-28), 3) := rfl
theorem i_MO_queued_35 : i_MO_queued 35 = some (.iload_n 1, 1) := rfl
theorem i_MO_queued_36 : i_MO_queued 36 = some (.ireturn, 1) := rfl
abbrev w_MO_queued : List Jvm.Cond := Jvm.Cond.code y_MO_queued b_MO_queued 3 (some .int) :: vw_W
theorem c_MO_queued : Jvm.Cond.code y_MO_queued b_MO_queued 3 (some .int) ∈ vw_W := vw_t 1094 (by decide +kernel) (by decide +kernel)
abbrev r_MO_queued : Room := { frames := 0, cells := 0, slots := 0, locals := 0 }
abbrev b_MO_reset : ByteArray := prog_13_method_41_code
abbrev y_MO_reset : MethodName := ⟨"ServerDeskModel", "reset", "()V"⟩
def q_MO_reset : List (Nat × Instr × Nat) := [(0, .aload_n 0, 1), (1, .iconst 0, 1), (2, .putfield 92, 3), (5, .aload_n 0, 1), (6, .iconst 0, 1), (7, .putfield 96, 3), (10, .aload_n 0, 1), (11, .iconst 0, 1), (12, .putfield 125, 3), (15, .aload_n 0, 1), (16, .iconst 0, 1), (17, .putfield 111, 3), (20, .aload_n 0, 1), (21, .iconst 0, 1), (22, .putfield 185, 3), (25, .aload_n 0, 1), (26, .iconst 0, 1), (27, .putfield 204, 3), (30, .iconst 0, 1), (31, .istore_n 1, 1), (32, .iload_n 1, 1), (33, .iconst 4, 1), (34, .if_icmp .ge 24, 3), (37, .aload_n 0, 1), (38, .getfield 25, 3), (41, .iload_n 1, 1), (42, .iconst 1, 1), (43, .iastore, 1), (44, .aload_n 0, 1), (45, .getfield 28, 3), (48, .iload_n 1, 1), (49, .bipush 60, 2), (51, .iastore, 1), (52, .iinc 1 1, 3), (55, .goto (-23), 3), (58, .aload_n 0, 1), (59, .iconst 0, 1), (60, .invokevirtual 128, 3), (63, .aload_n 0, 1), (64, .iconst 0, 1), (65, .putfield 226, 3), (68, .aload_n 0, 1), (69, .iconst 0, 1), (70, .putfield 229, 3), (73, .aload_n 0, 1), (74, .iconst 0, 1), (75, .putfield 232, 3), (78, .return_, 1)]
def i_MO_reset : Nat → Option (Instr × Nat) := am_find q_MO_reset
theorem d_MO_reset_0 : decode b_MO_reset 0 = .ok (.aload_n 0, 1) := by decide +kernel
theorem d_MO_reset_1 : decode b_MO_reset 1 = .ok (.iconst 0, 1) := by decide +kernel
theorem d_MO_reset_2 : decode b_MO_reset 2 = .ok (.putfield 92, 3) := by decide +kernel
theorem d_MO_reset_5 : decode b_MO_reset 5 = .ok (.aload_n 0, 1) := by decide +kernel
theorem d_MO_reset_6 : decode b_MO_reset 6 = .ok (.iconst 0, 1) := by decide +kernel
theorem d_MO_reset_7 : decode b_MO_reset 7 = .ok (.putfield 96, 3) := by decide +kernel
theorem d_MO_reset_10 : decode b_MO_reset 10 = .ok (.aload_n 0, 1) := by decide +kernel
theorem d_MO_reset_11 : decode b_MO_reset 11 = .ok (.iconst 0, 1) := by decide +kernel
theorem d_MO_reset_12 : decode b_MO_reset 12 = .ok (.putfield 125, 3) := by decide +kernel
theorem d_MO_reset_15 : decode b_MO_reset 15 = .ok (.aload_n 0, 1) := by decide +kernel
theorem d_MO_reset_16 : decode b_MO_reset 16 = .ok (.iconst 0, 1) := by decide +kernel
theorem d_MO_reset_17 : decode b_MO_reset 17 = .ok (.putfield 111, 3) := by decide +kernel
theorem d_MO_reset_20 : decode b_MO_reset 20 = .ok (.aload_n 0, 1) := by decide +kernel
theorem d_MO_reset_21 : decode b_MO_reset 21 = .ok (.iconst 0, 1) := by decide +kernel
theorem d_MO_reset_22 : decode b_MO_reset 22 = .ok (.putfield 185, 3) := by decide +kernel
theorem d_MO_reset_25 : decode b_MO_reset 25 = .ok (.aload_n 0, 1) := by decide +kernel
theorem d_MO_reset_26 : decode b_MO_reset 26 = .ok (.iconst 0, 1) := by decide +kernel
theorem d_MO_reset_27 : decode b_MO_reset 27 = .ok (.putfield 204, 3) := by decide +kernel
theorem d_MO_reset_30 : decode b_MO_reset 30 = .ok (.iconst 0, 1) := by decide +kernel
theorem d_MO_reset_31 : decode b_MO_reset 31 = .ok (.istore_n 1, 1) := by decide +kernel
theorem d_MO_reset_32 : decode b_MO_reset 32 = .ok (.iload_n 1, 1) := by decide +kernel
theorem d_MO_reset_33 : decode b_MO_reset 33 = .ok (.iconst 4, 1) := by decide +kernel
theorem d_MO_reset_34 : decode b_MO_reset 34 = .ok (.if_icmp .ge 24, 3) := by decide +kernel
theorem d_MO_reset_37 : decode b_MO_reset 37 = .ok (.aload_n 0, 1) := by decide +kernel
theorem d_MO_reset_38 : decode b_MO_reset 38 = .ok (.getfield 25, 3) := by decide +kernel
theorem d_MO_reset_41 : decode b_MO_reset 41 = .ok (.iload_n 1, 1) := by decide +kernel
theorem d_MO_reset_42 : decode b_MO_reset 42 = .ok (.iconst 1, 1) := by decide +kernel
theorem d_MO_reset_43 : decode b_MO_reset 43 = .ok (.iastore, 1) := by decide +kernel
theorem d_MO_reset_44 : decode b_MO_reset 44 = .ok (.aload_n 0, 1) := by decide +kernel
theorem d_MO_reset_45 : decode b_MO_reset 45 = .ok (.getfield 28, 3) := by decide +kernel
theorem d_MO_reset_48 : decode b_MO_reset 48 = .ok (.iload_n 1, 1) := by decide +kernel
theorem d_MO_reset_49 : decode b_MO_reset 49 = .ok (.bipush 60, 2) := by decide +kernel
theorem d_MO_reset_51 : decode b_MO_reset 51 = .ok (.iastore, 1) := by decide +kernel
theorem d_MO_reset_52 : decode b_MO_reset 52 = .ok (.iinc 1 1, 3) := by decide +kernel
theorem d_MO_reset_55 : decode b_MO_reset 55 = .ok (.goto (-23), 3) := by decide +kernel
theorem d_MO_reset_58 : decode b_MO_reset 58 = .ok (.aload_n 0, 1) := by decide +kernel
theorem d_MO_reset_59 : decode b_MO_reset 59 = .ok (.iconst 0, 1) := by decide +kernel
theorem d_MO_reset_60 : decode b_MO_reset 60 = .ok (.invokevirtual 128, 3) := by decide +kernel
theorem d_MO_reset_63 : decode b_MO_reset 63 = .ok (.aload_n 0, 1) := by decide +kernel
theorem d_MO_reset_64 : decode b_MO_reset 64 = .ok (.iconst 0, 1) := by decide +kernel
theorem d_MO_reset_65 : decode b_MO_reset 65 = .ok (.putfield 226, 3) := by decide +kernel
theorem d_MO_reset_68 : decode b_MO_reset 68 = .ok (.aload_n 0, 1) := by decide +kernel
theorem d_MO_reset_69 : decode b_MO_reset 69 = .ok (.iconst 0, 1) := by decide +kernel
theorem d_MO_reset_70 : decode b_MO_reset 70 = .ok (.putfield 229, 3) := by decide +kernel
theorem d_MO_reset_73 : decode b_MO_reset 73 = .ok (.aload_n 0, 1) := by decide +kernel
theorem d_MO_reset_74 : decode b_MO_reset 74 = .ok (.iconst 0, 1) := by decide +kernel
theorem d_MO_reset_75 : decode b_MO_reset 75 = .ok (.putfield 232, 3) := by decide +kernel
theorem d_MO_reset_78 : decode b_MO_reset 78 = .ok (.return_, 1) := by decide +kernel
theorem d_MO_reset : ∀ z ∈ q_MO_reset, decode b_MO_reset z.1 = .ok z.2 := List.forall_mem_cons.mpr ⟨d_MO_reset_0, List.forall_mem_cons.mpr ⟨d_MO_reset_1, List.forall_mem_cons.mpr ⟨d_MO_reset_2, List.forall_mem_cons.mpr ⟨d_MO_reset_5, List.forall_mem_cons.mpr ⟨d_MO_reset_6, List.forall_mem_cons.mpr ⟨d_MO_reset_7, List.forall_mem_cons.mpr ⟨d_MO_reset_10, List.forall_mem_cons.mpr ⟨d_MO_reset_11, List.forall_mem_cons.mpr ⟨d_MO_reset_12, List.forall_mem_cons.mpr ⟨d_MO_reset_15, List.forall_mem_cons.mpr ⟨d_MO_reset_16, List.forall_mem_cons.mpr ⟨d_MO_reset_17, List.forall_mem_cons.mpr ⟨d_MO_reset_20, List.forall_mem_cons.mpr ⟨d_MO_reset_21, List.forall_mem_cons.mpr ⟨d_MO_reset_22, List.forall_mem_cons.mpr ⟨d_MO_reset_25, List.forall_mem_cons.mpr ⟨d_MO_reset_26, List.forall_mem_cons.mpr ⟨d_MO_reset_27, List.forall_mem_cons.mpr ⟨d_MO_reset_30, List.forall_mem_cons.mpr ⟨d_MO_reset_31, List.forall_mem_cons.mpr ⟨d_MO_reset_32, List.forall_mem_cons.mpr ⟨d_MO_reset_33, List.forall_mem_cons.mpr ⟨d_MO_reset_34, List.forall_mem_cons.mpr ⟨d_MO_reset_37, List.forall_mem_cons.mpr ⟨d_MO_reset_38, List.forall_mem_cons.mpr ⟨d_MO_reset_41, List.forall_mem_cons.mpr ⟨d_MO_reset_42, List.forall_mem_cons.mpr ⟨d_MO_reset_43, List.forall_mem_cons.mpr ⟨d_MO_reset_44, List.forall_mem_cons.mpr ⟨d_MO_reset_45, List.forall_mem_cons.mpr ⟨d_MO_reset_48, List.forall_mem_cons.mpr ⟨d_MO_reset_49, List.forall_mem_cons.mpr ⟨d_MO_reset_51, List.forall_mem_cons.mpr ⟨d_MO_reset_52, List.forall_mem_cons.mpr ⟨d_MO_reset_55, List.forall_mem_cons.mpr ⟨d_MO_reset_58, List.forall_mem_cons.mpr ⟨d_MO_reset_59, List.forall_mem_cons.mpr ⟨d_MO_reset_60, List.forall_mem_cons.mpr ⟨d_MO_reset_63, List.forall_mem_cons.mpr ⟨d_MO_reset_64, List.forall_mem_cons.mpr ⟨d_MO_reset_65, List.forall_mem_cons.mpr ⟨d_MO_reset_68, List.forall_mem_cons.mpr ⟨d_MO_reset_69, List.forall_mem_cons.mpr ⟨d_MO_reset_70, List.forall_mem_cons.mpr ⟨d_MO_reset_73, List.forall_mem_cons.mpr ⟨d_MO_reset_74, List.forall_mem_cons.mpr ⟨d_MO_reset_75, List.forall_mem_cons.mpr ⟨d_MO_reset_78, fun _ h => absurd h List.not_mem_nil⟩⟩⟩⟩⟩⟩⟩⟩⟩⟩⟩⟩⟩⟩⟩⟩⟩⟩⟩⟩⟩⟩⟩⟩⟩⟩⟩⟩⟩⟩⟩⟩⟩⟩⟩⟩⟩⟩⟩⟩⟩⟩⟩⟩⟩⟩⟩⟩
theorem i_MO_reset_ok : ∀ pc i n, i_MO_reset pc = some (i, n) → decode b_MO_reset pc = .ok (i, n) := fun pc i n h => d_MO_reset (pc, i, n) (am_find_mem h)
theorem i_MO_reset_0 : i_MO_reset 0 = some (.aload_n 0, 1) := rfl
theorem i_MO_reset_1 : i_MO_reset 1 = some (.iconst 0, 1) := rfl
theorem i_MO_reset_2 : i_MO_reset 2 = some (.putfield 92, 3) := rfl
theorem i_MO_reset_5 : i_MO_reset 5 = some (.aload_n 0, 1) := rfl
theorem i_MO_reset_6 : i_MO_reset 6 = some (.iconst 0, 1) := rfl
theorem i_MO_reset_7 : i_MO_reset 7 = some (.putfield 96, 3) := rfl
theorem i_MO_reset_10 : i_MO_reset 10 = some (.aload_n 0, 1) := rfl
theorem i_MO_reset_11 : i_MO_reset 11 = some (.iconst 0, 1) := rfl
theorem i_MO_reset_12 : i_MO_reset 12 = some (.putfield 125, 3) := rfl
theorem i_MO_reset_15 : i_MO_reset 15 = some (.aload_n 0, 1) := rfl
theorem i_MO_reset_16 : i_MO_reset 16 = some (.iconst 0, 1) := rfl
theorem i_MO_reset_17 : i_MO_reset 17 = some (.putfield 111, 3) := rfl
theorem i_MO_reset_20 : i_MO_reset 20 = some (.aload_n 0, 1) := rfl
theorem i_MO_reset_21 : i_MO_reset 21 = some (.iconst 0, 1) := rfl
theorem i_MO_reset_22 : i_MO_reset 22 = some (.putfield 185, 3) := rfl
theorem i_MO_reset_25 : i_MO_reset 25 = some (.aload_n 0, 1) := rfl
theorem i_MO_reset_26 : i_MO_reset 26 = some (.iconst 0, 1) := rfl
theorem i_MO_reset_27 : i_MO_reset 27 = some (.putfield 204, 3) := rfl
theorem i_MO_reset_30 : i_MO_reset 30 = some (.iconst 0, 1) := rfl
theorem i_MO_reset_31 : i_MO_reset 31 = some (.istore_n 1, 1) := rfl
theorem i_MO_reset_32 : i_MO_reset 32 = some (.iload_n 1, 1) := rfl
theorem i_MO_reset_33 : i_MO_reset 33 = some (.iconst 4, 1) := rfl
theorem i_MO_reset_34 : i_MO_reset 34 = some (.if_icmp .ge 24, 3) := rfl
theorem i_MO_reset_37 : i_MO_reset 37 = some (.aload_n 0, 1) := rfl
theorem i_MO_reset_38 : i_MO_reset 38 = some (.getfield 25, 3) := rfl
theorem i_MO_reset_41 : i_MO_reset 41 = some (.iload_n 1, 1) := rfl
theorem i_MO_reset_42 : i_MO_reset 42 = some (.iconst 1, 1) := rfl
theorem i_MO_reset_43 : i_MO_reset 43 = some (.iastore, 1) := rfl
theorem i_MO_reset_44 : i_MO_reset 44 = some (.aload_n 0, 1) := rfl
theorem i_MO_reset_45 : i_MO_reset 45 = some (.getfield 28, 3) := rfl
theorem i_MO_reset_48 : i_MO_reset 48 = some (.iload_n 1, 1) := rfl
theorem i_MO_reset_49 : i_MO_reset 49 = some (.bipush 60, 2) := rfl
theorem i_MO_reset_51 : i_MO_reset 51 = some (.iastore, 1) := rfl
theorem i_MO_reset_52 : i_MO_reset 52 = some (.iinc 1 1, 3) := rfl
theorem i_MO_reset_55 : i_MO_reset 55 = some (.goto (-23), 3) := rfl
theorem i_MO_reset_58 : i_MO_reset 58 = some (.aload_n 0, 1) := rfl
theorem i_MO_reset_59 : i_MO_reset 59 = some (.iconst 0, 1) := rfl
theorem i_MO_reset_60 : i_MO_reset 60 = some (.invokevirtual 128, 3) := rfl
theorem i_MO_reset_63 : i_MO_reset 63 = some (.aload_n 0, 1) := rfl
theorem i_MO_reset_64 : i_MO_reset 64 = some (.iconst 0, 1) := rfl
theorem i_MO_reset_65 : i_MO_reset 65 = some (.putfield 226, 3) := rfl
theorem i_MO_reset_68 : i_MO_reset 68 = some (.aload_n 0, 1) := rfl
theorem i_MO_reset_69 : i_MO_reset 69 = some (.iconst 0, 1) := rfl
theorem i_MO_reset_70 : i_MO_reset 70 = some (.putfield 229, 3) := rfl
theorem i_MO_reset_73 : i_MO_reset 73 = some (.aload_n 0, 1) := rfl
theorem i_MO_reset_74 : i_MO_reset 74 = some (.iconst 0, 1) := rfl
theorem i_MO_reset_75 : i_MO_reset 75 = some (.putfield 232, 3) := rfl
theorem i_MO_reset_78 : i_MO_reset 78 = some (.return_, 1) := rfl
abbrev w_MO_reset : List Jvm.Cond := Jvm.Cond.code y_MO_reset b_MO_reset 2 none :: vw_W
theorem c_MO_reset : Jvm.Cond.code y_MO_reset b_MO_reset 2 none ∈ vw_W := vw_t 1098 (by decide +kernel) (by decide +kernel)
abbrev r_MO_reset : Room := { frames := 1, cells := 0, slots := 0, locals := 22 }
