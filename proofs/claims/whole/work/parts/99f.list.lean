/-! the law's own listing, by arms, and its sites (wip/whole/p99f.py) -/
theorem hp_n {y : MethodName} {n : Nat} (h : (parseMethodDescriptor y.desc).map (fun d => d.parameters.length) = some n) : ∀ sig, parseMethodDescriptor y.desc = some sig → n = sig.parameters.length := by
  intro sig h1
  rw [h1] at h
  exact (Option.some.inj h).symm
theorem hp_pay {s : State} {args : Array Value} {Ts : List Jvm.Cond} {w0 : Jvm.Cond} (hts : ∀ w ∈ Ts, w.before args s = true) (hW : ∀ w ∈ vw_W, w ∈ Ts) (h0 : w0 ∈ vw_W) : ∀ w ∈ (w0 :: vw_W), ∀ (a' : Array Value) (U : State), s.WarmedH U.vm → w.before a' U = true := by
  intro w hw a' U hU
  have h1 : w ∈ vw_W := by
    rcases List.mem_cons.mp hw with rfl | h
    · exact h0
    · exact h
  exact word_at hU (good_of_word (List.mem_filter.mp h1).2) (hts w (hW w h1))
section XSC
variable {Sg : List am_S} {L : Nat} {xs : Nat → Int} {Fd : Nat → Option (Nat × Nat × Nat)} {Ct : am_T} {Zr : am_Z} {I : Nat → Option (Instr × Nat)} {sp : Nat → Bool} {Z : am_K} {n pc q : Nat} {ls : am_L} {st : List am_V} {M : am_M}
theorem xs_scr {j : Int} (hi : I pc = some (.iaload, 1)) (hq : pc + 1 = q) (hj : 0 ≤ j ∧ j < L) (h : am_nx Sg (some (L, xs)) Fd Ct Zr I sp Z n q ls (.inl (xs j.toNat) :: st) M) : am_wp Sg (some (L, xs)) Fd Ct Zr I sp Z (n + 1) pc ls (.inl j :: .inr (.inl am_scr) :: st) M := by
  subst hq
  unfold am_wp
  rw [hi]
  refine ⟨rfl, ?_⟩
  simp only [am_ir, eq_self, if_true]
  exact ⟨hj.1, hj.2, h⟩
theorem xs_slen (hi : I pc = some (.arraylength, 1)) (hq : pc + 1 = q) (h : am_nx Sg (some (L, xs)) Fd Ct Zr I sp Z n q ls (.inl (L : Int) :: st) M) : am_wp Sg (some (L, xs)) Fd Ct Zr I sp Z (n + 1) pc ls (.inr (.inl am_scr) :: st) M := by
  subst hq
  unfold am_wp
  rw [hi]
  refine ⟨rfl, ?_⟩
  simp only [am_r, eq_self, if_true]
  exact h
end XSC
theorem d_LAW_0 : decode code 0 = .ok (.new 8, 3) := by decide +kernel
theorem d_LAW_3 : decode code 3 = .ok (.dup, 1) := by decide +kernel
theorem d_LAW_4 : decode code 4 = .ok (.invokespecial 64, 3) := by decide +kernel
theorem d_LAW_7 : decode code 7 = .ok (.astore_n 1, 1) := by decide +kernel
theorem d_LAW_8 : decode code 8 = .ok (.new 65, 3) := by decide +kernel
theorem d_LAW_11 : decode code 11 = .ok (.dup, 1) := by decide +kernel
theorem d_LAW_12 : decode code 12 = .ok (.invokespecial 67, 3) := by decide +kernel
theorem d_LAW_15 : decode code 15 = .ok (.astore_n 2, 1) := by decide +kernel
theorem d_LAW_16 : decode code 16 = .ok (.iconst 1, 1) := by decide +kernel
theorem d_LAW_17 : decode code 17 = .ok (.newarray .long, 2) := by decide +kernel
theorem d_LAW_19 : decode code 19 = .ok (.astore_n 3, 1) := by decide +kernel
theorem d_LAW_20 : decode code 20 = .ok (.iconst 0, 1) := by decide +kernel
theorem d_LAW_21 : decode code 21 = .ok (.istore 4, 2) := by decide +kernel
def q_LAH : List (Nat × Instr × Nat) := [(23, .iload 4, 2), (25, .aload_n 0, 1), (26, .arraylength, 1), (27, .iconst 5, 1), (28, .isub, 1), (29, .if_icmp .gt 863, 3), (32, .aload_n 0, 1), (33, .iload 4, 2), (35, .iaload, 1), (36, .bipush 15, 2), (38, .iand, 1), (39, .tableswitch 847 0 13 #[69, 161, 248, 272, 328, 384, 452, 500, 556, 600, 656, 724, 780, 836], 69)]
def i_LAH : Nat → Option (Instr × Nat) := am_find q_LAH
theorem d_LAH_23 : decode code 23 = .ok (.iload 4, 2) := by decide +kernel
theorem d_LAH_25 : decode code 25 = .ok (.aload_n 0, 1) := by decide +kernel
theorem d_LAH_26 : decode code 26 = .ok (.arraylength, 1) := by decide +kernel
theorem d_LAH_27 : decode code 27 = .ok (.iconst 5, 1) := by decide +kernel
theorem d_LAH_28 : decode code 28 = .ok (.isub, 1) := by decide +kernel
theorem d_LAH_29 : decode code 29 = .ok (.if_icmp .gt 863, 3) := by decide +kernel
theorem d_LAH_32 : decode code 32 = .ok (.aload_n 0, 1) := by decide +kernel
theorem d_LAH_33 : decode code 33 = .ok (.iload 4, 2) := by decide +kernel
theorem d_LAH_35 : decode code 35 = .ok (.iaload, 1) := by decide +kernel
theorem d_LAH_36 : decode code 36 = .ok (.bipush 15, 2) := by decide +kernel
theorem d_LAH_38 : decode code 38 = .ok (.iand, 1) := by decide +kernel
theorem d_LAH_39 : decode code 39 = .ok (.tableswitch 847 0 13 #[69, 161, 248, 272, 328, 384, 452, 500, 556, 600, 656, 724, 780, 836], 69) := by decide +kernel
theorem d_LAH : ∀ z ∈ q_LAH, decode code z.1 = .ok z.2 := List.forall_mem_cons.mpr ⟨d_LAH_23, List.forall_mem_cons.mpr ⟨d_LAH_25, List.forall_mem_cons.mpr ⟨d_LAH_26, List.forall_mem_cons.mpr ⟨d_LAH_27, List.forall_mem_cons.mpr ⟨d_LAH_28, List.forall_mem_cons.mpr ⟨d_LAH_29, List.forall_mem_cons.mpr ⟨d_LAH_32, List.forall_mem_cons.mpr ⟨d_LAH_33, List.forall_mem_cons.mpr ⟨d_LAH_35, List.forall_mem_cons.mpr ⟨d_LAH_36, List.forall_mem_cons.mpr ⟨d_LAH_38, List.forall_mem_cons.mpr ⟨d_LAH_39, fun _ h => absurd h List.not_mem_nil⟩⟩⟩⟩⟩⟩⟩⟩⟩⟩⟩⟩
theorem i_LAH_ok : ∀ pc i n, i_LAH pc = some (i, n) → decode code pc = .ok (i, n) := fun pc i n h => d_LAH (pc, i, n) (am_find_mem h)
theorem i_LAH_23 : i_LAH 23 = some (.iload 4, 2) := rfl
theorem i_LAH_25 : i_LAH 25 = some (.aload_n 0, 1) := rfl
theorem i_LAH_26 : i_LAH 26 = some (.arraylength, 1) := rfl
theorem i_LAH_27 : i_LAH 27 = some (.iconst 5, 1) := rfl
theorem i_LAH_28 : i_LAH 28 = some (.isub, 1) := rfl
theorem i_LAH_29 : i_LAH 29 = some (.if_icmp .gt 863, 3) := rfl
theorem i_LAH_32 : i_LAH 32 = some (.aload_n 0, 1) := rfl
theorem i_LAH_33 : i_LAH 33 = some (.iload 4, 2) := rfl
theorem i_LAH_35 : i_LAH 35 = some (.iaload, 1) := rfl
theorem i_LAH_36 : i_LAH 36 = some (.bipush 15, 2) := rfl
theorem i_LAH_38 : i_LAH 38 = some (.iand, 1) := rfl
theorem i_LAH_39 : i_LAH 39 = some (.tableswitch 847 0 13 #[69, 161, 248, 272, 328, 384, 452, 500, 556, 600, 656, 724, 780, 836], 69) := rfl
def q_LAT : List (Nat × Instr × Nat) := [(886, .iinc 4 5, 3), (889, .goto (-866), 3), (892, .iconst 1, 1), (893, .ireturn, 1)]
def i_LAT : Nat → Option (Instr × Nat) := am_find q_LAT
theorem d_LAT_886 : decode code 886 = .ok (.iinc 4 5, 3) := by decide +kernel
theorem d_LAT_889 : decode code 889 = .ok (.goto (-866), 3) := by decide +kernel
theorem d_LAT_892 : decode code 892 = .ok (.iconst 1, 1) := by decide +kernel
theorem d_LAT_893 : decode code 893 = .ok (.ireturn, 1) := by decide +kernel
theorem d_LAT : ∀ z ∈ q_LAT, decode code z.1 = .ok z.2 := List.forall_mem_cons.mpr ⟨d_LAT_886, List.forall_mem_cons.mpr ⟨d_LAT_889, List.forall_mem_cons.mpr ⟨d_LAT_892, List.forall_mem_cons.mpr ⟨d_LAT_893, fun _ h => absurd h List.not_mem_nil⟩⟩⟩⟩
theorem i_LAT_ok : ∀ pc i n, i_LAT pc = some (i, n) → decode code pc = .ok (i, n) := fun pc i n h => d_LAT (pc, i, n) (am_find_mem h)
theorem i_LAT_886 : i_LAT 886 = some (.iinc 4 5, 3) := rfl
theorem i_LAT_889 : i_LAT 889 = some (.goto (-866), 3) := rfl
theorem i_LAT_892 : i_LAT 892 = some (.iconst 1, 1) := rfl
theorem i_LAT_893 : i_LAT 893 = some (.ireturn, 1) := rfl
def q_LA0 : List (Nat × Instr × Nat) := [(108, .aload_n 1, 1), (109, .aload_n 0, 1), (110, .iload 4, 2), (112, .iconst 1, 1), (113, .iadd, 1), (114, .iaload, 1), (115, .aload_n 0, 1), (116, .iload 4, 2), (118, .iconst 2, 1), (119, .iadd, 1), (120, .iaload, 1), (121, .aload_n 0, 1), (122, .iload 4, 2), (124, .iconst 3, 1), (125, .iadd, 1), (126, .iaload, 1), (127, .aload_n 0, 1), (128, .iload 4, 2), (130, .iconst 4, 1), (131, .iadd, 1), (132, .iaload, 1), (133, .aload_n 3, 1), (134, .invokestatic 68, 3), (137, .istore 5, 2), (139, .aload_n 2, 1), (140, .aload_n 0, 1), (141, .iload 4, 2), (143, .iconst 1, 1), (144, .iadd, 1), (145, .iaload, 1), (146, .aload_n 0, 1), (147, .iload 4, 2), (149, .iconst 2, 1), (150, .iadd, 1), (151, .iaload, 1), (152, .aload_n 0, 1), (153, .iload 4, 2), (155, .iconst 3, 1), (156, .iadd, 1), (157, .iaload, 1), (158, .aload_n 0, 1), (159, .iload 4, 2), (161, .iconst 4, 1), (162, .iadd, 1), (163, .iaload, 1), (164, .invokevirtual 73, 3), (167, .istore 6, 2), (169, .aload_n 2, 1), (170, .invokevirtual 74, 3), (173, .iload 5, 2), (175, .if_icmp .eq 5, 3), (178, .iconst 0, 1), (179, .ireturn, 1), (180, .iload 5, 2), (182, .ifCond .ne 15, 3), (185, .aload_n 3, 1), (186, .iconst 0, 1), (187, .laload, 1), (188, .iload 6, 2), (190, .i2l, 1), (191, .lcmp, 1), (192, .ifCond .eq 5, 3), (195, .iconst 0, 1), (196, .ireturn, 1), (197, .goto 689, 3)]
def i_LA0 : Nat → Option (Instr × Nat) := am_find q_LA0
theorem d_LA0_108 : decode code 108 = .ok (.aload_n 1, 1) := by decide +kernel
theorem d_LA0_109 : decode code 109 = .ok (.aload_n 0, 1) := by decide +kernel
theorem d_LA0_110 : decode code 110 = .ok (.iload 4, 2) := by decide +kernel
theorem d_LA0_112 : decode code 112 = .ok (.iconst 1, 1) := by decide +kernel
theorem d_LA0_113 : decode code 113 = .ok (.iadd, 1) := by decide +kernel
theorem d_LA0_114 : decode code 114 = .ok (.iaload, 1) := by decide +kernel
theorem d_LA0_115 : decode code 115 = .ok (.aload_n 0, 1) := by decide +kernel
theorem d_LA0_116 : decode code 116 = .ok (.iload 4, 2) := by decide +kernel
theorem d_LA0_118 : decode code 118 = .ok (.iconst 2, 1) := by decide +kernel
theorem d_LA0_119 : decode code 119 = .ok (.iadd, 1) := by decide +kernel
theorem d_LA0_120 : decode code 120 = .ok (.iaload, 1) := by decide +kernel
theorem d_LA0_121 : decode code 121 = .ok (.aload_n 0, 1) := by decide +kernel
theorem d_LA0_122 : decode code 122 = .ok (.iload 4, 2) := by decide +kernel
theorem d_LA0_124 : decode code 124 = .ok (.iconst 3, 1) := by decide +kernel
theorem d_LA0_125 : decode code 125 = .ok (.iadd, 1) := by decide +kernel
theorem d_LA0_126 : decode code 126 = .ok (.iaload, 1) := by decide +kernel
theorem d_LA0_127 : decode code 127 = .ok (.aload_n 0, 1) := by decide +kernel
theorem d_LA0_128 : decode code 128 = .ok (.iload 4, 2) := by decide +kernel
theorem d_LA0_130 : decode code 130 = .ok (.iconst 4, 1) := by decide +kernel
theorem d_LA0_131 : decode code 131 = .ok (.iadd, 1) := by decide +kernel
theorem d_LA0_132 : decode code 132 = .ok (.iaload, 1) := by decide +kernel
theorem d_LA0_133 : decode code 133 = .ok (.aload_n 3, 1) := by decide +kernel
theorem d_LA0_134 : decode code 134 = .ok (.invokestatic 68, 3) := by decide +kernel
theorem d_LA0_137 : decode code 137 = .ok (.istore 5, 2) := by decide +kernel
theorem d_LA0_139 : decode code 139 = .ok (.aload_n 2, 1) := by decide +kernel
theorem d_LA0_140 : decode code 140 = .ok (.aload_n 0, 1) := by decide +kernel
theorem d_LA0_141 : decode code 141 = .ok (.iload 4, 2) := by decide +kernel
theorem d_LA0_143 : decode code 143 = .ok (.iconst 1, 1) := by decide +kernel
theorem d_LA0_144 : decode code 144 = .ok (.iadd, 1) := by decide +kernel
theorem d_LA0_145 : decode code 145 = .ok (.iaload, 1) := by decide +kernel
theorem d_LA0_146 : decode code 146 = .ok (.aload_n 0, 1) := by decide +kernel
theorem d_LA0_147 : decode code 147 = .ok (.iload 4, 2) := by decide +kernel
theorem d_LA0_149 : decode code 149 = .ok (.iconst 2, 1) := by decide +kernel
theorem d_LA0_150 : decode code 150 = .ok (.iadd, 1) := by decide +kernel
theorem d_LA0_151 : decode code 151 = .ok (.iaload, 1) := by decide +kernel
theorem d_LA0_152 : decode code 152 = .ok (.aload_n 0, 1) := by decide +kernel
theorem d_LA0_153 : decode code 153 = .ok (.iload 4, 2) := by decide +kernel
theorem d_LA0_155 : decode code 155 = .ok (.iconst 3, 1) := by decide +kernel
theorem d_LA0_156 : decode code 156 = .ok (.iadd, 1) := by decide +kernel
theorem d_LA0_157 : decode code 157 = .ok (.iaload, 1) := by decide +kernel
theorem d_LA0_158 : decode code 158 = .ok (.aload_n 0, 1) := by decide +kernel
theorem d_LA0_159 : decode code 159 = .ok (.iload 4, 2) := by decide +kernel
theorem d_LA0_161 : decode code 161 = .ok (.iconst 4, 1) := by decide +kernel
theorem d_LA0_162 : decode code 162 = .ok (.iadd, 1) := by decide +kernel
theorem d_LA0_163 : decode code 163 = .ok (.iaload, 1) := by decide +kernel
theorem d_LA0_164 : decode code 164 = .ok (.invokevirtual 73, 3) := by decide +kernel
theorem d_LA0_167 : decode code 167 = .ok (.istore 6, 2) := by decide +kernel
theorem d_LA0_169 : decode code 169 = .ok (.aload_n 2, 1) := by decide +kernel
theorem d_LA0_170 : decode code 170 = .ok (.invokevirtual 74, 3) := by decide +kernel
theorem d_LA0_173 : decode code 173 = .ok (.iload 5, 2) := by decide +kernel
theorem d_LA0_175 : decode code 175 = .ok (.if_icmp .eq 5, 3) := by decide +kernel
theorem d_LA0_178 : decode code 178 = .ok (.iconst 0, 1) := by decide +kernel
theorem d_LA0_179 : decode code 179 = .ok (.ireturn, 1) := by decide +kernel
theorem d_LA0_180 : decode code 180 = .ok (.iload 5, 2) := by decide +kernel
theorem d_LA0_182 : decode code 182 = .ok (.ifCond .ne 15, 3) := by decide +kernel
theorem d_LA0_185 : decode code 185 = .ok (.aload_n 3, 1) := by decide +kernel
theorem d_LA0_186 : decode code 186 = .ok (.iconst 0, 1) := by decide +kernel
theorem d_LA0_187 : decode code 187 = .ok (.laload, 1) := by decide +kernel
theorem d_LA0_188 : decode code 188 = .ok (.iload 6, 2) := by decide +kernel
theorem d_LA0_190 : decode code 190 = .ok (.i2l, 1) := by decide +kernel
theorem d_LA0_191 : decode code 191 = .ok (.lcmp, 1) := by decide +kernel
theorem d_LA0_192 : decode code 192 = .ok (.ifCond .eq 5, 3) := by decide +kernel
theorem d_LA0_195 : decode code 195 = .ok (.iconst 0, 1) := by decide +kernel
theorem d_LA0_196 : decode code 196 = .ok (.ireturn, 1) := by decide +kernel
theorem d_LA0_197 : decode code 197 = .ok (.goto 689, 3) := by decide +kernel
theorem d_LA0 : ∀ z ∈ q_LA0, decode code z.1 = .ok z.2 := List.forall_mem_cons.mpr ⟨d_LA0_108, List.forall_mem_cons.mpr ⟨d_LA0_109, List.forall_mem_cons.mpr ⟨d_LA0_110, List.forall_mem_cons.mpr ⟨d_LA0_112, List.forall_mem_cons.mpr ⟨d_LA0_113, List.forall_mem_cons.mpr ⟨d_LA0_114, List.forall_mem_cons.mpr ⟨d_LA0_115, List.forall_mem_cons.mpr ⟨d_LA0_116, List.forall_mem_cons.mpr ⟨d_LA0_118, List.forall_mem_cons.mpr ⟨d_LA0_119, List.forall_mem_cons.mpr ⟨d_LA0_120, List.forall_mem_cons.mpr ⟨d_LA0_121, List.forall_mem_cons.mpr ⟨d_LA0_122, List.forall_mem_cons.mpr ⟨d_LA0_124, List.forall_mem_cons.mpr ⟨d_LA0_125, List.forall_mem_cons.mpr ⟨d_LA0_126, List.forall_mem_cons.mpr ⟨d_LA0_127, List.forall_mem_cons.mpr ⟨d_LA0_128, List.forall_mem_cons.mpr ⟨d_LA0_130, List.forall_mem_cons.mpr ⟨d_LA0_131, List.forall_mem_cons.mpr ⟨d_LA0_132, List.forall_mem_cons.mpr ⟨d_LA0_133, List.forall_mem_cons.mpr ⟨d_LA0_134, List.forall_mem_cons.mpr ⟨d_LA0_137, List.forall_mem_cons.mpr ⟨d_LA0_139, List.forall_mem_cons.mpr ⟨d_LA0_140, List.forall_mem_cons.mpr ⟨d_LA0_141, List.forall_mem_cons.mpr ⟨d_LA0_143, List.forall_mem_cons.mpr ⟨d_LA0_144, List.forall_mem_cons.mpr ⟨d_LA0_145, List.forall_mem_cons.mpr ⟨d_LA0_146, List.forall_mem_cons.mpr ⟨d_LA0_147, List.forall_mem_cons.mpr ⟨d_LA0_149, List.forall_mem_cons.mpr ⟨d_LA0_150, List.forall_mem_cons.mpr ⟨d_LA0_151, List.forall_mem_cons.mpr ⟨d_LA0_152, List.forall_mem_cons.mpr ⟨d_LA0_153, List.forall_mem_cons.mpr ⟨d_LA0_155, List.forall_mem_cons.mpr ⟨d_LA0_156, List.forall_mem_cons.mpr ⟨d_LA0_157, List.forall_mem_cons.mpr ⟨d_LA0_158, List.forall_mem_cons.mpr ⟨d_LA0_159, List.forall_mem_cons.mpr ⟨d_LA0_161, List.forall_mem_cons.mpr ⟨d_LA0_162, List.forall_mem_cons.mpr ⟨d_LA0_163, List.forall_mem_cons.mpr ⟨d_LA0_164, List.forall_mem_cons.mpr ⟨d_LA0_167, List.forall_mem_cons.mpr ⟨d_LA0_169, List.forall_mem_cons.mpr ⟨d_LA0_170, List.forall_mem_cons.mpr ⟨d_LA0_173, List.forall_mem_cons.mpr ⟨d_LA0_175, List.forall_mem_cons.mpr ⟨d_LA0_178, List.forall_mem_cons.mpr ⟨d_LA0_179, List.forall_mem_cons.mpr ⟨d_LA0_180, List.forall_mem_cons.mpr ⟨d_LA0_182, List.forall_mem_cons.mpr ⟨d_LA0_185, List.forall_mem_cons.mpr ⟨d_LA0_186, List.forall_mem_cons.mpr ⟨d_LA0_187, List.forall_mem_cons.mpr ⟨d_LA0_188, List.forall_mem_cons.mpr ⟨d_LA0_190, List.forall_mem_cons.mpr ⟨d_LA0_191, List.forall_mem_cons.mpr ⟨d_LA0_192, List.forall_mem_cons.mpr ⟨d_LA0_195, List.forall_mem_cons.mpr ⟨d_LA0_196, List.forall_mem_cons.mpr ⟨d_LA0_197, fun _ h => absurd h List.not_mem_nil⟩⟩⟩⟩⟩⟩⟩⟩⟩⟩⟩⟩⟩⟩⟩⟩⟩⟩⟩⟩⟩⟩⟩⟩⟩⟩⟩⟩⟩⟩⟩⟩⟩⟩⟩⟩⟩⟩⟩⟩⟩⟩⟩⟩⟩⟩⟩⟩⟩⟩⟩⟩⟩⟩⟩⟩⟩⟩⟩⟩⟩⟩⟩⟩⟩
theorem i_LA0_ok : ∀ pc i n, i_LA0 pc = some (i, n) → decode code pc = .ok (i, n) := fun pc i n h => d_LA0 (pc, i, n) (am_find_mem h)
theorem i_LA0_108 : i_LA0 108 = some (.aload_n 1, 1) := rfl
theorem i_LA0_109 : i_LA0 109 = some (.aload_n 0, 1) := rfl
theorem i_LA0_110 : i_LA0 110 = some (.iload 4, 2) := rfl
theorem i_LA0_112 : i_LA0 112 = some (.iconst 1, 1) := rfl
theorem i_LA0_113 : i_LA0 113 = some (.iadd, 1) := rfl
theorem i_LA0_114 : i_LA0 114 = some (.iaload, 1) := rfl
theorem i_LA0_115 : i_LA0 115 = some (.aload_n 0, 1) := rfl
theorem i_LA0_116 : i_LA0 116 = some (.iload 4, 2) := rfl
theorem i_LA0_118 : i_LA0 118 = some (.iconst 2, 1) := rfl
theorem i_LA0_119 : i_LA0 119 = some (.iadd, 1) := rfl
theorem i_LA0_120 : i_LA0 120 = some (.iaload, 1) := rfl
theorem i_LA0_121 : i_LA0 121 = some (.aload_n 0, 1) := rfl
theorem i_LA0_122 : i_LA0 122 = some (.iload 4, 2) := rfl
theorem i_LA0_124 : i_LA0 124 = some (.iconst 3, 1) := rfl
theorem i_LA0_125 : i_LA0 125 = some (.iadd, 1) := rfl
theorem i_LA0_126 : i_LA0 126 = some (.iaload, 1) := rfl
theorem i_LA0_127 : i_LA0 127 = some (.aload_n 0, 1) := rfl
theorem i_LA0_128 : i_LA0 128 = some (.iload 4, 2) := rfl
theorem i_LA0_130 : i_LA0 130 = some (.iconst 4, 1) := rfl
theorem i_LA0_131 : i_LA0 131 = some (.iadd, 1) := rfl
theorem i_LA0_132 : i_LA0 132 = some (.iaload, 1) := rfl
theorem i_LA0_133 : i_LA0 133 = some (.aload_n 3, 1) := rfl
theorem i_LA0_134 : i_LA0 134 = some (.invokestatic 68, 3) := rfl
theorem i_LA0_137 : i_LA0 137 = some (.istore 5, 2) := rfl
theorem i_LA0_139 : i_LA0 139 = some (.aload_n 2, 1) := rfl
theorem i_LA0_140 : i_LA0 140 = some (.aload_n 0, 1) := rfl
theorem i_LA0_141 : i_LA0 141 = some (.iload 4, 2) := rfl
theorem i_LA0_143 : i_LA0 143 = some (.iconst 1, 1) := rfl
theorem i_LA0_144 : i_LA0 144 = some (.iadd, 1) := rfl
theorem i_LA0_145 : i_LA0 145 = some (.iaload, 1) := rfl
theorem i_LA0_146 : i_LA0 146 = some (.aload_n 0, 1) := rfl
theorem i_LA0_147 : i_LA0 147 = some (.iload 4, 2) := rfl
theorem i_LA0_149 : i_LA0 149 = some (.iconst 2, 1) := rfl
theorem i_LA0_150 : i_LA0 150 = some (.iadd, 1) := rfl
theorem i_LA0_151 : i_LA0 151 = some (.iaload, 1) := rfl
theorem i_LA0_152 : i_LA0 152 = some (.aload_n 0, 1) := rfl
theorem i_LA0_153 : i_LA0 153 = some (.iload 4, 2) := rfl
theorem i_LA0_155 : i_LA0 155 = some (.iconst 3, 1) := rfl
theorem i_LA0_156 : i_LA0 156 = some (.iadd, 1) := rfl
theorem i_LA0_157 : i_LA0 157 = some (.iaload, 1) := rfl
theorem i_LA0_158 : i_LA0 158 = some (.aload_n 0, 1) := rfl
theorem i_LA0_159 : i_LA0 159 = some (.iload 4, 2) := rfl
theorem i_LA0_161 : i_LA0 161 = some (.iconst 4, 1) := rfl
theorem i_LA0_162 : i_LA0 162 = some (.iadd, 1) := rfl
theorem i_LA0_163 : i_LA0 163 = some (.iaload, 1) := rfl
theorem i_LA0_164 : i_LA0 164 = some (.invokevirtual 73, 3) := rfl
theorem i_LA0_167 : i_LA0 167 = some (.istore 6, 2) := rfl
theorem i_LA0_169 : i_LA0 169 = some (.aload_n 2, 1) := rfl
theorem i_LA0_170 : i_LA0 170 = some (.invokevirtual 74, 3) := rfl
theorem i_LA0_173 : i_LA0 173 = some (.iload 5, 2) := rfl
theorem i_LA0_175 : i_LA0 175 = some (.if_icmp .eq 5, 3) := rfl
theorem i_LA0_178 : i_LA0 178 = some (.iconst 0, 1) := rfl
theorem i_LA0_179 : i_LA0 179 = some (.ireturn, 1) := rfl
theorem i_LA0_180 : i_LA0 180 = some (.iload 5, 2) := rfl
theorem i_LA0_182 : i_LA0 182 = some (.ifCond .ne 15, 3) := rfl
theorem i_LA0_185 : i_LA0 185 = some (.aload_n 3, 1) := rfl
theorem i_LA0_186 : i_LA0 186 = some (.iconst 0, 1) := rfl
theorem i_LA0_187 : i_LA0 187 = some (.laload, 1) := rfl
theorem i_LA0_188 : i_LA0 188 = some (.iload 6, 2) := rfl
theorem i_LA0_190 : i_LA0 190 = some (.i2l, 1) := rfl
theorem i_LA0_191 : i_LA0 191 = some (.lcmp, 1) := rfl
theorem i_LA0_192 : i_LA0 192 = some (.ifCond .eq 5, 3) := rfl
theorem i_LA0_195 : i_LA0 195 = some (.iconst 0, 1) := rfl
theorem i_LA0_196 : i_LA0 196 = some (.ireturn, 1) := rfl
theorem i_LA0_197 : i_LA0 197 = some (.goto 689, 3) := rfl
def q_LA1 : List (Nat × Instr × Nat) := [(200, .aload_n 1, 1), (201, .aload_n 0, 1), (202, .iload 4, 2), (204, .iconst 1, 1), (205, .iadd, 1), (206, .iaload, 1), (207, .aload_n 0, 1), (208, .iload 4, 2), (210, .iconst 2, 1), (211, .iadd, 1), (212, .iaload, 1), (213, .aload_n 0, 1), (214, .iload 4, 2), (216, .iconst 3, 1), (217, .iadd, 1), (218, .iaload, 1), (219, .aload_n 3, 1), (220, .invokestatic 77, 3), (223, .istore 5, 2), (225, .aload_n 2, 1), (226, .aload_n 0, 1), (227, .iload 4, 2), (229, .iconst 1, 1), (230, .iadd, 1), (231, .iaload, 1), (232, .aload_n 0, 1), (233, .iload 4, 2), (235, .iconst 2, 1), (236, .iadd, 1), (237, .iaload, 1), (238, .aload_n 0, 1), (239, .iload 4, 2), (241, .iconst 3, 1), (242, .iadd, 1), (243, .iaload, 1), (244, .invokevirtual 80, 3), (247, .istore 6, 2), (249, .aload_n 2, 1), (250, .invokevirtual 74, 3), (253, .iload 5, 2), (255, .if_icmp .eq 5, 3), (258, .iconst 0, 1), (259, .ireturn, 1), (260, .iload 5, 2), (262, .ifCond .ne 22, 3), (265, .aload_n 3, 1), (266, .iconst 0, 1), (267, .laload, 1), (268, .iload 6, 2), (270, .ifCond .eq 7, 3), (273, .lconst 1, 1), (274, .goto 4, 3), (277, .lconst 0, 1), (278, .lcmp, 1), (279, .ifCond .eq 5, 3), (282, .iconst 0, 1), (283, .ireturn, 1), (284, .goto 602, 3)]
def i_LA1 : Nat → Option (Instr × Nat) := am_find q_LA1
theorem d_LA1_200 : decode code 200 = .ok (.aload_n 1, 1) := by decide +kernel
theorem d_LA1_201 : decode code 201 = .ok (.aload_n 0, 1) := by decide +kernel
theorem d_LA1_202 : decode code 202 = .ok (.iload 4, 2) := by decide +kernel
theorem d_LA1_204 : decode code 204 = .ok (.iconst 1, 1) := by decide +kernel
theorem d_LA1_205 : decode code 205 = .ok (.iadd, 1) := by decide +kernel
theorem d_LA1_206 : decode code 206 = .ok (.iaload, 1) := by decide +kernel
theorem d_LA1_207 : decode code 207 = .ok (.aload_n 0, 1) := by decide +kernel
theorem d_LA1_208 : decode code 208 = .ok (.iload 4, 2) := by decide +kernel
theorem d_LA1_210 : decode code 210 = .ok (.iconst 2, 1) := by decide +kernel
theorem d_LA1_211 : decode code 211 = .ok (.iadd, 1) := by decide +kernel
theorem d_LA1_212 : decode code 212 = .ok (.iaload, 1) := by decide +kernel
theorem d_LA1_213 : decode code 213 = .ok (.aload_n 0, 1) := by decide +kernel
theorem d_LA1_214 : decode code 214 = .ok (.iload 4, 2) := by decide +kernel
theorem d_LA1_216 : decode code 216 = .ok (.iconst 3, 1) := by decide +kernel
theorem d_LA1_217 : decode code 217 = .ok (.iadd, 1) := by decide +kernel
theorem d_LA1_218 : decode code 218 = .ok (.iaload, 1) := by decide +kernel
theorem d_LA1_219 : decode code 219 = .ok (.aload_n 3, 1) := by decide +kernel
theorem d_LA1_220 : decode code 220 = .ok (.invokestatic 77, 3) := by decide +kernel
theorem d_LA1_223 : decode code 223 = .ok (.istore 5, 2) := by decide +kernel
theorem d_LA1_225 : decode code 225 = .ok (.aload_n 2, 1) := by decide +kernel
theorem d_LA1_226 : decode code 226 = .ok (.aload_n 0, 1) := by decide +kernel
theorem d_LA1_227 : decode code 227 = .ok (.iload 4, 2) := by decide +kernel
theorem d_LA1_229 : decode code 229 = .ok (.iconst 1, 1) := by decide +kernel
theorem d_LA1_230 : decode code 230 = .ok (.iadd, 1) := by decide +kernel
theorem d_LA1_231 : decode code 231 = .ok (.iaload, 1) := by decide +kernel
theorem d_LA1_232 : decode code 232 = .ok (.aload_n 0, 1) := by decide +kernel
theorem d_LA1_233 : decode code 233 = .ok (.iload 4, 2) := by decide +kernel
theorem d_LA1_235 : decode code 235 = .ok (.iconst 2, 1) := by decide +kernel
theorem d_LA1_236 : decode code 236 = .ok (.iadd, 1) := by decide +kernel
theorem d_LA1_237 : decode code 237 = .ok (.iaload, 1) := by decide +kernel
theorem d_LA1_238 : decode code 238 = .ok (.aload_n 0, 1) := by decide +kernel
theorem d_LA1_239 : decode code 239 = .ok (.iload 4, 2) := by decide +kernel
theorem d_LA1_241 : decode code 241 = .ok (.iconst 3, 1) := by decide +kernel
theorem d_LA1_242 : decode code 242 = .ok (.iadd, 1) := by decide +kernel
theorem d_LA1_243 : decode code 243 = .ok (.iaload, 1) := by decide +kernel
theorem d_LA1_244 : decode code 244 = .ok (.invokevirtual 80, 3) := by decide +kernel
theorem d_LA1_247 : decode code 247 = .ok (.istore 6, 2) := by decide +kernel
theorem d_LA1_249 : decode code 249 = .ok (.aload_n 2, 1) := by decide +kernel
theorem d_LA1_250 : decode code 250 = .ok (.invokevirtual 74, 3) := by decide +kernel
theorem d_LA1_253 : decode code 253 = .ok (.iload 5, 2) := by decide +kernel
theorem d_LA1_255 : decode code 255 = .ok (.if_icmp .eq 5, 3) := by decide +kernel
theorem d_LA1_258 : decode code 258 = .ok (.iconst 0, 1) := by decide +kernel
theorem d_LA1_259 : decode code 259 = .ok (.ireturn, 1) := by decide +kernel
theorem d_LA1_260 : decode code 260 = .ok (.iload 5, 2) := by decide +kernel
theorem d_LA1_262 : decode code 262 = .ok (.ifCond .ne 22, 3) := by decide +kernel
theorem d_LA1_265 : decode code 265 = .ok (.aload_n 3, 1) := by decide +kernel
theorem d_LA1_266 : decode code 266 = .ok (.iconst 0, 1) := by decide +kernel
theorem d_LA1_267 : decode code 267 = .ok (.laload, 1) := by decide +kernel
theorem d_LA1_268 : decode code 268 = .ok (.iload 6, 2) := by decide +kernel
theorem d_LA1_270 : decode code 270 = .ok (.ifCond .eq 7, 3) := by decide +kernel
theorem d_LA1_273 : decode code 273 = .ok (.lconst 1, 1) := by decide +kernel
theorem d_LA1_274 : decode code 274 = .ok (.goto 4, 3) := by decide +kernel
theorem d_LA1_277 : decode code 277 = .ok (.lconst 0, 1) := by decide +kernel
theorem d_LA1_278 : decode code 278 = .ok (.lcmp, 1) := by decide +kernel
theorem d_LA1_279 : decode code 279 = .ok (.ifCond .eq 5, 3) := by decide +kernel
theorem d_LA1_282 : decode code 282 = .ok (.iconst 0, 1) := by decide +kernel
theorem d_LA1_283 : decode code 283 = .ok (.ireturn, 1) := by decide +kernel
theorem d_LA1_284 : decode code 284 = .ok (.goto 602, 3) := by decide +kernel
theorem d_LA1 : ∀ z ∈ q_LA1, decode code z.1 = .ok z.2 := List.forall_mem_cons.mpr ⟨d_LA1_200, List.forall_mem_cons.mpr ⟨d_LA1_201, List.forall_mem_cons.mpr ⟨d_LA1_202, List.forall_mem_cons.mpr ⟨d_LA1_204, List.forall_mem_cons.mpr ⟨d_LA1_205, List.forall_mem_cons.mpr ⟨d_LA1_206, List.forall_mem_cons.mpr ⟨d_LA1_207, List.forall_mem_cons.mpr ⟨d_LA1_208, List.forall_mem_cons.mpr ⟨d_LA1_210, List.forall_mem_cons.mpr ⟨d_LA1_211, List.forall_mem_cons.mpr ⟨d_LA1_212, List.forall_mem_cons.mpr ⟨d_LA1_213, List.forall_mem_cons.mpr ⟨d_LA1_214, List.forall_mem_cons.mpr ⟨d_LA1_216, List.forall_mem_cons.mpr ⟨d_LA1_217, List.forall_mem_cons.mpr ⟨d_LA1_218, List.forall_mem_cons.mpr ⟨d_LA1_219, List.forall_mem_cons.mpr ⟨d_LA1_220, List.forall_mem_cons.mpr ⟨d_LA1_223, List.forall_mem_cons.mpr ⟨d_LA1_225, List.forall_mem_cons.mpr ⟨d_LA1_226, List.forall_mem_cons.mpr ⟨d_LA1_227, List.forall_mem_cons.mpr ⟨d_LA1_229, List.forall_mem_cons.mpr ⟨d_LA1_230, List.forall_mem_cons.mpr ⟨d_LA1_231, List.forall_mem_cons.mpr ⟨d_LA1_232, List.forall_mem_cons.mpr ⟨d_LA1_233, List.forall_mem_cons.mpr ⟨d_LA1_235, List.forall_mem_cons.mpr ⟨d_LA1_236, List.forall_mem_cons.mpr ⟨d_LA1_237, List.forall_mem_cons.mpr ⟨d_LA1_238, List.forall_mem_cons.mpr ⟨d_LA1_239, List.forall_mem_cons.mpr ⟨d_LA1_241, List.forall_mem_cons.mpr ⟨d_LA1_242, List.forall_mem_cons.mpr ⟨d_LA1_243, List.forall_mem_cons.mpr ⟨d_LA1_244, List.forall_mem_cons.mpr ⟨d_LA1_247, List.forall_mem_cons.mpr ⟨d_LA1_249, List.forall_mem_cons.mpr ⟨d_LA1_250, List.forall_mem_cons.mpr ⟨d_LA1_253, List.forall_mem_cons.mpr ⟨d_LA1_255, List.forall_mem_cons.mpr ⟨d_LA1_258, List.forall_mem_cons.mpr ⟨d_LA1_259, List.forall_mem_cons.mpr ⟨d_LA1_260, List.forall_mem_cons.mpr ⟨d_LA1_262, List.forall_mem_cons.mpr ⟨d_LA1_265, List.forall_mem_cons.mpr ⟨d_LA1_266, List.forall_mem_cons.mpr ⟨d_LA1_267, List.forall_mem_cons.mpr ⟨d_LA1_268, List.forall_mem_cons.mpr ⟨d_LA1_270, List.forall_mem_cons.mpr ⟨d_LA1_273, List.forall_mem_cons.mpr ⟨d_LA1_274, List.forall_mem_cons.mpr ⟨d_LA1_277, List.forall_mem_cons.mpr ⟨d_LA1_278, List.forall_mem_cons.mpr ⟨d_LA1_279, List.forall_mem_cons.mpr ⟨d_LA1_282, List.forall_mem_cons.mpr ⟨d_LA1_283, List.forall_mem_cons.mpr ⟨d_LA1_284, fun _ h => absurd h List.not_mem_nil⟩⟩⟩⟩⟩⟩⟩⟩⟩⟩⟩⟩⟩⟩⟩⟩⟩⟩⟩⟩⟩⟩⟩⟩⟩⟩⟩⟩⟩⟩⟩⟩⟩⟩⟩⟩⟩⟩⟩⟩⟩⟩⟩⟩⟩⟩⟩⟩⟩⟩⟩⟩⟩⟩⟩⟩⟩⟩
theorem i_LA1_ok : ∀ pc i n, i_LA1 pc = some (i, n) → decode code pc = .ok (i, n) := fun pc i n h => d_LA1 (pc, i, n) (am_find_mem h)
theorem i_LA1_200 : i_LA1 200 = some (.aload_n 1, 1) := rfl
theorem i_LA1_201 : i_LA1 201 = some (.aload_n 0, 1) := rfl
theorem i_LA1_202 : i_LA1 202 = some (.iload 4, 2) := rfl
theorem i_LA1_204 : i_LA1 204 = some (.iconst 1, 1) := rfl
theorem i_LA1_205 : i_LA1 205 = some (.iadd, 1) := rfl
theorem i_LA1_206 : i_LA1 206 = some (.iaload, 1) := rfl
theorem i_LA1_207 : i_LA1 207 = some (.aload_n 0, 1) := rfl
theorem i_LA1_208 : i_LA1 208 = some (.iload 4, 2) := rfl
theorem i_LA1_210 : i_LA1 210 = some (.iconst 2, 1) := rfl
theorem i_LA1_211 : i_LA1 211 = some (.iadd, 1) := rfl
theorem i_LA1_212 : i_LA1 212 = some (.iaload, 1) := rfl
theorem i_LA1_213 : i_LA1 213 = some (.aload_n 0, 1) := rfl
theorem i_LA1_214 : i_LA1 214 = some (.iload 4, 2) := rfl
theorem i_LA1_216 : i_LA1 216 = some (.iconst 3, 1) := rfl
theorem i_LA1_217 : i_LA1 217 = some (.iadd, 1) := rfl
theorem i_LA1_218 : i_LA1 218 = some (.iaload, 1) := rfl
theorem i_LA1_219 : i_LA1 219 = some (.aload_n 3, 1) := rfl
theorem i_LA1_220 : i_LA1 220 = some (.invokestatic 77, 3) := rfl
theorem i_LA1_223 : i_LA1 223 = some (.istore 5, 2) := rfl
theorem i_LA1_225 : i_LA1 225 = some (.aload_n 2, 1) := rfl
theorem i_LA1_226 : i_LA1 226 = some (.aload_n 0, 1) := rfl
theorem i_LA1_227 : i_LA1 227 = some (.iload 4, 2) := rfl
theorem i_LA1_229 : i_LA1 229 = some (.iconst 1, 1) := rfl
theorem i_LA1_230 : i_LA1 230 = some (.iadd, 1) := rfl
theorem i_LA1_231 : i_LA1 231 = some (.iaload, 1) := rfl
theorem i_LA1_232 : i_LA1 232 = some (.aload_n 0, 1) := rfl
theorem i_LA1_233 : i_LA1 233 = some (.iload 4, 2) := rfl
theorem i_LA1_235 : i_LA1 235 = some (.iconst 2, 1) := rfl
theorem i_LA1_236 : i_LA1 236 = some (.iadd, 1) := rfl
theorem i_LA1_237 : i_LA1 237 = some (.iaload, 1) := rfl
theorem i_LA1_238 : i_LA1 238 = some (.aload_n 0, 1) := rfl
theorem i_LA1_239 : i_LA1 239 = some (.iload 4, 2) := rfl
theorem i_LA1_241 : i_LA1 241 = some (.iconst 3, 1) := rfl
theorem i_LA1_242 : i_LA1 242 = some (.iadd, 1) := rfl
theorem i_LA1_243 : i_LA1 243 = some (.iaload, 1) := rfl
theorem i_LA1_244 : i_LA1 244 = some (.invokevirtual 80, 3) := rfl
theorem i_LA1_247 : i_LA1 247 = some (.istore 6, 2) := rfl
theorem i_LA1_249 : i_LA1 249 = some (.aload_n 2, 1) := rfl
theorem i_LA1_250 : i_LA1 250 = some (.invokevirtual 74, 3) := rfl
theorem i_LA1_253 : i_LA1 253 = some (.iload 5, 2) := rfl
theorem i_LA1_255 : i_LA1 255 = some (.if_icmp .eq 5, 3) := rfl
theorem i_LA1_258 : i_LA1 258 = some (.iconst 0, 1) := rfl
theorem i_LA1_259 : i_LA1 259 = some (.ireturn, 1) := rfl
theorem i_LA1_260 : i_LA1 260 = some (.iload 5, 2) := rfl
theorem i_LA1_262 : i_LA1 262 = some (.ifCond .ne 22, 3) := rfl
theorem i_LA1_265 : i_LA1 265 = some (.aload_n 3, 1) := rfl
theorem i_LA1_266 : i_LA1 266 = some (.iconst 0, 1) := rfl
theorem i_LA1_267 : i_LA1 267 = some (.laload, 1) := rfl
theorem i_LA1_268 : i_LA1 268 = some (.iload 6, 2) := rfl
theorem i_LA1_270 : i_LA1 270 = some (.ifCond .eq 7, 3) := rfl
theorem i_LA1_273 : i_LA1 273 = some (.lconst 1, 1) := rfl
theorem i_LA1_274 : i_LA1 274 = some (.goto 4, 3) := rfl
theorem i_LA1_277 : i_LA1 277 = some (.lconst 0, 1) := rfl
theorem i_LA1_278 : i_LA1 278 = some (.lcmp, 1) := rfl
theorem i_LA1_279 : i_LA1 279 = some (.ifCond .eq 5, 3) := rfl
theorem i_LA1_282 : i_LA1 282 = some (.iconst 0, 1) := rfl
theorem i_LA1_283 : i_LA1 283 = some (.ireturn, 1) := rfl
theorem i_LA1_284 : i_LA1 284 = some (.goto 602, 3) := rfl
def q_LA2 : List (Nat × Instr × Nat) := [(287, .aload_n 1, 1), (288, .invokestatic 81, 3), (291, .istore 5, 2), (293, .aload_n 2, 1), (294, .invokevirtual 84, 3), (297, .aload_n 2, 1), (298, .invokevirtual 74, 3), (301, .iload 5, 2), (303, .if_icmp .eq 5, 3), (306, .iconst 0, 1), (307, .ireturn, 1), (308, .goto 578, 3)]
def i_LA2 : Nat → Option (Instr × Nat) := am_find q_LA2
theorem d_LA2_287 : decode code 287 = .ok (.aload_n 1, 1) := by decide +kernel
theorem d_LA2_288 : decode code 288 = .ok (.invokestatic 81, 3) := by decide +kernel
theorem d_LA2_291 : decode code 291 = .ok (.istore 5, 2) := by decide +kernel
theorem d_LA2_293 : decode code 293 = .ok (.aload_n 2, 1) := by decide +kernel
theorem d_LA2_294 : decode code 294 = .ok (.invokevirtual 84, 3) := by decide +kernel
theorem d_LA2_297 : decode code 297 = .ok (.aload_n 2, 1) := by decide +kernel
theorem d_LA2_298 : decode code 298 = .ok (.invokevirtual 74, 3) := by decide +kernel
theorem d_LA2_301 : decode code 301 = .ok (.iload 5, 2) := by decide +kernel
theorem d_LA2_303 : decode code 303 = .ok (.if_icmp .eq 5, 3) := by decide +kernel
theorem d_LA2_306 : decode code 306 = .ok (.iconst 0, 1) := by decide +kernel
theorem d_LA2_307 : decode code 307 = .ok (.ireturn, 1) := by decide +kernel
theorem d_LA2_308 : decode code 308 = .ok (.goto 578, 3) := by decide +kernel
theorem d_LA2 : ∀ z ∈ q_LA2, decode code z.1 = .ok z.2 := List.forall_mem_cons.mpr ⟨d_LA2_287, List.forall_mem_cons.mpr ⟨d_LA2_288, List.forall_mem_cons.mpr ⟨d_LA2_291, List.forall_mem_cons.mpr ⟨d_LA2_293, List.forall_mem_cons.mpr ⟨d_LA2_294, List.forall_mem_cons.mpr ⟨d_LA2_297, List.forall_mem_cons.mpr ⟨d_LA2_298, List.forall_mem_cons.mpr ⟨d_LA2_301, List.forall_mem_cons.mpr ⟨d_LA2_303, List.forall_mem_cons.mpr ⟨d_LA2_306, List.forall_mem_cons.mpr ⟨d_LA2_307, List.forall_mem_cons.mpr ⟨d_LA2_308, fun _ h => absurd h List.not_mem_nil⟩⟩⟩⟩⟩⟩⟩⟩⟩⟩⟩⟩
theorem i_LA2_ok : ∀ pc i n, i_LA2 pc = some (i, n) → decode code pc = .ok (i, n) := fun pc i n h => d_LA2 (pc, i, n) (am_find_mem h)
theorem i_LA2_287 : i_LA2 287 = some (.aload_n 1, 1) := rfl
theorem i_LA2_288 : i_LA2 288 = some (.invokestatic 81, 3) := rfl
theorem i_LA2_291 : i_LA2 291 = some (.istore 5, 2) := rfl
theorem i_LA2_293 : i_LA2 293 = some (.aload_n 2, 1) := rfl
theorem i_LA2_294 : i_LA2 294 = some (.invokevirtual 84, 3) := rfl
theorem i_LA2_297 : i_LA2 297 = some (.aload_n 2, 1) := rfl
theorem i_LA2_298 : i_LA2 298 = some (.invokevirtual 74, 3) := rfl
theorem i_LA2_301 : i_LA2 301 = some (.iload 5, 2) := rfl
theorem i_LA2_303 : i_LA2 303 = some (.if_icmp .eq 5, 3) := rfl
theorem i_LA2_306 : i_LA2 306 = some (.iconst 0, 1) := rfl
theorem i_LA2_307 : i_LA2 307 = some (.ireturn, 1) := rfl
theorem i_LA2_308 : i_LA2 308 = some (.goto 578, 3) := rfl
def q_LA3 : List (Nat × Instr × Nat) := [(311, .aload_n 1, 1), (312, .aload_n 0, 1), (313, .iload 4, 2), (315, .iconst 1, 1), (316, .iadd, 1), (317, .iaload, 1), (318, .aload_n 3, 1), (319, .invokestatic 85, 3), (322, .istore 5, 2), (324, .aload_n 2, 1), (325, .aload_n 0, 1), (326, .iload 4, 2), (328, .iconst 1, 1), (329, .iadd, 1), (330, .iaload, 1), (331, .invokevirtual 88, 3), (334, .istore 6, 2), (336, .aload_n 2, 1), (337, .invokevirtual 74, 3), (340, .iload 5, 2), (342, .if_icmp .eq 5, 3), (345, .iconst 0, 1), (346, .ireturn, 1), (347, .iload 5, 2), (349, .ifCond .ne 15, 3), (352, .aload_n 3, 1), (353, .iconst 0, 1), (354, .laload, 1), (355, .iload 6, 2), (357, .i2l, 1), (358, .lcmp, 1), (359, .ifCond .eq 5, 3), (362, .iconst 0, 1), (363, .ireturn, 1), (364, .goto 522, 3)]
def i_LA3 : Nat → Option (Instr × Nat) := am_find q_LA3
theorem d_LA3_311 : decode code 311 = .ok (.aload_n 1, 1) := by decide +kernel
theorem d_LA3_312 : decode code 312 = .ok (.aload_n 0, 1) := by decide +kernel
theorem d_LA3_313 : decode code 313 = .ok (.iload 4, 2) := by decide +kernel
theorem d_LA3_315 : decode code 315 = .ok (.iconst 1, 1) := by decide +kernel
theorem d_LA3_316 : decode code 316 = .ok (.iadd, 1) := by decide +kernel
theorem d_LA3_317 : decode code 317 = .ok (.iaload, 1) := by decide +kernel
theorem d_LA3_318 : decode code 318 = .ok (.aload_n 3, 1) := by decide +kernel
theorem d_LA3_319 : decode code 319 = .ok (.invokestatic 85, 3) := by decide +kernel
theorem d_LA3_322 : decode code 322 = .ok (.istore 5, 2) := by decide +kernel
theorem d_LA3_324 : decode code 324 = .ok (.aload_n 2, 1) := by decide +kernel
theorem d_LA3_325 : decode code 325 = .ok (.aload_n 0, 1) := by decide +kernel
theorem d_LA3_326 : decode code 326 = .ok (.iload 4, 2) := by decide +kernel
theorem d_LA3_328 : decode code 328 = .ok (.iconst 1, 1) := by decide +kernel
theorem d_LA3_329 : decode code 329 = .ok (.iadd, 1) := by decide +kernel
theorem d_LA3_330 : decode code 330 = .ok (.iaload, 1) := by decide +kernel
theorem d_LA3_331 : decode code 331 = .ok (.invokevirtual 88, 3) := by decide +kernel
theorem d_LA3_334 : decode code 334 = .ok (.istore 6, 2) := by decide +kernel
theorem d_LA3_336 : decode code 336 = .ok (.aload_n 2, 1) := by decide +kernel
theorem d_LA3_337 : decode code 337 = .ok (.invokevirtual 74, 3) := by decide +kernel
theorem d_LA3_340 : decode code 340 = .ok (.iload 5, 2) := by decide +kernel
theorem d_LA3_342 : decode code 342 = .ok (.if_icmp .eq 5, 3) := by decide +kernel
theorem d_LA3_345 : decode code 345 = .ok (.iconst 0, 1) := by decide +kernel
theorem d_LA3_346 : decode code 346 = .ok (.ireturn, 1) := by decide +kernel
theorem d_LA3_347 : decode code 347 = .ok (.iload 5, 2) := by decide +kernel
theorem d_LA3_349 : decode code 349 = .ok (.ifCond .ne 15, 3) := by decide +kernel
theorem d_LA3_352 : decode code 352 = .ok (.aload_n 3, 1) := by decide +kernel
theorem d_LA3_353 : decode code 353 = .ok (.iconst 0, 1) := by decide +kernel
theorem d_LA3_354 : decode code 354 = .ok (.laload, 1) := by decide +kernel
theorem d_LA3_355 : decode code 355 = .ok (.iload 6, 2) := by decide +kernel
theorem d_LA3_357 : decode code 357 = .ok (.i2l, 1) := by decide +kernel
theorem d_LA3_358 : decode code 358 = .ok (.lcmp, 1) := by decide +kernel
theorem d_LA3_359 : decode code 359 = .ok (.ifCond .eq 5, 3) := by decide +kernel
theorem d_LA3_362 : decode code 362 = .ok (.iconst 0, 1) := by decide +kernel
theorem d_LA3_363 : decode code 363 = .ok (.ireturn, 1) := by decide +kernel
theorem d_LA3_364 : decode code 364 = .ok (.goto 522, 3) := by decide +kernel
theorem d_LA3 : ∀ z ∈ q_LA3, decode code z.1 = .ok z.2 := List.forall_mem_cons.mpr ⟨d_LA3_311, List.forall_mem_cons.mpr ⟨d_LA3_312, List.forall_mem_cons.mpr ⟨d_LA3_313, List.forall_mem_cons.mpr ⟨d_LA3_315, List.forall_mem_cons.mpr ⟨d_LA3_316, List.forall_mem_cons.mpr ⟨d_LA3_317, List.forall_mem_cons.mpr ⟨d_LA3_318, List.forall_mem_cons.mpr ⟨d_LA3_319, List.forall_mem_cons.mpr ⟨d_LA3_322, List.forall_mem_cons.mpr ⟨d_LA3_324, List.forall_mem_cons.mpr ⟨d_LA3_325, List.forall_mem_cons.mpr ⟨d_LA3_326, List.forall_mem_cons.mpr ⟨d_LA3_328, List.forall_mem_cons.mpr ⟨d_LA3_329, List.forall_mem_cons.mpr ⟨d_LA3_330, List.forall_mem_cons.mpr ⟨d_LA3_331, List.forall_mem_cons.mpr ⟨d_LA3_334, List.forall_mem_cons.mpr ⟨d_LA3_336, List.forall_mem_cons.mpr ⟨d_LA3_337, List.forall_mem_cons.mpr ⟨d_LA3_340, List.forall_mem_cons.mpr ⟨d_LA3_342, List.forall_mem_cons.mpr ⟨d_LA3_345, List.forall_mem_cons.mpr ⟨d_LA3_346, List.forall_mem_cons.mpr ⟨d_LA3_347, List.forall_mem_cons.mpr ⟨d_LA3_349, List.forall_mem_cons.mpr ⟨d_LA3_352, List.forall_mem_cons.mpr ⟨d_LA3_353, List.forall_mem_cons.mpr ⟨d_LA3_354, List.forall_mem_cons.mpr ⟨d_LA3_355, List.forall_mem_cons.mpr ⟨d_LA3_357, List.forall_mem_cons.mpr ⟨d_LA3_358, List.forall_mem_cons.mpr ⟨d_LA3_359, List.forall_mem_cons.mpr ⟨d_LA3_362, List.forall_mem_cons.mpr ⟨d_LA3_363, List.forall_mem_cons.mpr ⟨d_LA3_364, fun _ h => absurd h List.not_mem_nil⟩⟩⟩⟩⟩⟩⟩⟩⟩⟩⟩⟩⟩⟩⟩⟩⟩⟩⟩⟩⟩⟩⟩⟩⟩⟩⟩⟩⟩⟩⟩⟩⟩⟩⟩
theorem i_LA3_ok : ∀ pc i n, i_LA3 pc = some (i, n) → decode code pc = .ok (i, n) := fun pc i n h => d_LA3 (pc, i, n) (am_find_mem h)
theorem i_LA3_311 : i_LA3 311 = some (.aload_n 1, 1) := rfl
theorem i_LA3_312 : i_LA3 312 = some (.aload_n 0, 1) := rfl
theorem i_LA3_313 : i_LA3 313 = some (.iload 4, 2) := rfl
theorem i_LA3_315 : i_LA3 315 = some (.iconst 1, 1) := rfl
theorem i_LA3_316 : i_LA3 316 = some (.iadd, 1) := rfl
theorem i_LA3_317 : i_LA3 317 = some (.iaload, 1) := rfl
theorem i_LA3_318 : i_LA3 318 = some (.aload_n 3, 1) := rfl
theorem i_LA3_319 : i_LA3 319 = some (.invokestatic 85, 3) := rfl
theorem i_LA3_322 : i_LA3 322 = some (.istore 5, 2) := rfl
theorem i_LA3_324 : i_LA3 324 = some (.aload_n 2, 1) := rfl
theorem i_LA3_325 : i_LA3 325 = some (.aload_n 0, 1) := rfl
theorem i_LA3_326 : i_LA3 326 = some (.iload 4, 2) := rfl
theorem i_LA3_328 : i_LA3 328 = some (.iconst 1, 1) := rfl
theorem i_LA3_329 : i_LA3 329 = some (.iadd, 1) := rfl
theorem i_LA3_330 : i_LA3 330 = some (.iaload, 1) := rfl
theorem i_LA3_331 : i_LA3 331 = some (.invokevirtual 88, 3) := rfl
theorem i_LA3_334 : i_LA3 334 = some (.istore 6, 2) := rfl
theorem i_LA3_336 : i_LA3 336 = some (.aload_n 2, 1) := rfl
theorem i_LA3_337 : i_LA3 337 = some (.invokevirtual 74, 3) := rfl
theorem i_LA3_340 : i_LA3 340 = some (.iload 5, 2) := rfl
theorem i_LA3_342 : i_LA3 342 = some (.if_icmp .eq 5, 3) := rfl
theorem i_LA3_345 : i_LA3 345 = some (.iconst 0, 1) := rfl
theorem i_LA3_346 : i_LA3 346 = some (.ireturn, 1) := rfl
theorem i_LA3_347 : i_LA3 347 = some (.iload 5, 2) := rfl
theorem i_LA3_349 : i_LA3 349 = some (.ifCond .ne 15, 3) := rfl
theorem i_LA3_352 : i_LA3 352 = some (.aload_n 3, 1) := rfl
theorem i_LA3_353 : i_LA3 353 = some (.iconst 0, 1) := rfl
theorem i_LA3_354 : i_LA3 354 = some (.laload, 1) := rfl
theorem i_LA3_355 : i_LA3 355 = some (.iload 6, 2) := rfl
theorem i_LA3_357 : i_LA3 357 = some (.i2l, 1) := rfl
theorem i_LA3_358 : i_LA3 358 = some (.lcmp, 1) := rfl
theorem i_LA3_359 : i_LA3 359 = some (.ifCond .eq 5, 3) := rfl
theorem i_LA3_362 : i_LA3 362 = some (.iconst 0, 1) := rfl
theorem i_LA3_363 : i_LA3 363 = some (.ireturn, 1) := rfl
theorem i_LA3_364 : i_LA3 364 = some (.goto 522, 3) := rfl
def q_LA4 : List (Nat × Instr × Nat) := [(367, .aload_n 1, 1), (368, .aload_n 0, 1), (369, .iload 4, 2), (371, .iconst 1, 1), (372, .iadd, 1), (373, .iaload, 1), (374, .aload_n 3, 1), (375, .invokestatic 89, 3), (378, .istore 5, 2), (380, .aload_n 2, 1), (381, .aload_n 0, 1), (382, .iload 4, 2), (384, .iconst 1, 1), (385, .iadd, 1), (386, .iaload, 1), (387, .invokevirtual 91, 3), (390, .istore 6, 2), (392, .aload_n 2, 1), (393, .invokevirtual 74, 3), (396, .iload 5, 2), (398, .if_icmp .eq 5, 3), (401, .iconst 0, 1), (402, .ireturn, 1), (403, .iload 5, 2), (405, .ifCond .ne 15, 3), (408, .aload_n 3, 1), (409, .iconst 0, 1), (410, .laload, 1), (411, .iload 6, 2), (413, .i2l, 1), (414, .lcmp, 1), (415, .ifCond .eq 5, 3), (418, .iconst 0, 1), (419, .ireturn, 1), (420, .goto 466, 3)]
def i_LA4 : Nat → Option (Instr × Nat) := am_find q_LA4
theorem d_LA4_367 : decode code 367 = .ok (.aload_n 1, 1) := by decide +kernel
theorem d_LA4_368 : decode code 368 = .ok (.aload_n 0, 1) := by decide +kernel
theorem d_LA4_369 : decode code 369 = .ok (.iload 4, 2) := by decide +kernel
theorem d_LA4_371 : decode code 371 = .ok (.iconst 1, 1) := by decide +kernel
theorem d_LA4_372 : decode code 372 = .ok (.iadd, 1) := by decide +kernel
theorem d_LA4_373 : decode code 373 = .ok (.iaload, 1) := by decide +kernel
theorem d_LA4_374 : decode code 374 = .ok (.aload_n 3, 1) := by decide +kernel
theorem d_LA4_375 : decode code 375 = .ok (.invokestatic 89, 3) := by decide +kernel
theorem d_LA4_378 : decode code 378 = .ok (.istore 5, 2) := by decide +kernel
theorem d_LA4_380 : decode code 380 = .ok (.aload_n 2, 1) := by decide +kernel
theorem d_LA4_381 : decode code 381 = .ok (.aload_n 0, 1) := by decide +kernel
theorem d_LA4_382 : decode code 382 = .ok (.iload 4, 2) := by decide +kernel
theorem d_LA4_384 : decode code 384 = .ok (.iconst 1, 1) := by decide +kernel
theorem d_LA4_385 : decode code 385 = .ok (.iadd, 1) := by decide +kernel
theorem d_LA4_386 : decode code 386 = .ok (.iaload, 1) := by decide +kernel
theorem d_LA4_387 : decode code 387 = .ok (.invokevirtual 91, 3) := by decide +kernel
theorem d_LA4_390 : decode code 390 = .ok (.istore 6, 2) := by decide +kernel
theorem d_LA4_392 : decode code 392 = .ok (.aload_n 2, 1) := by decide +kernel
theorem d_LA4_393 : decode code 393 = .ok (.invokevirtual 74, 3) := by decide +kernel
theorem d_LA4_396 : decode code 396 = .ok (.iload 5, 2) := by decide +kernel
theorem d_LA4_398 : decode code 398 = .ok (.if_icmp .eq 5, 3) := by decide +kernel
theorem d_LA4_401 : decode code 401 = .ok (.iconst 0, 1) := by decide +kernel
theorem d_LA4_402 : decode code 402 = .ok (.ireturn, 1) := by decide +kernel
theorem d_LA4_403 : decode code 403 = .ok (.iload 5, 2) := by decide +kernel
theorem d_LA4_405 : decode code 405 = .ok (.ifCond .ne 15, 3) := by decide +kernel
theorem d_LA4_408 : decode code 408 = .ok (.aload_n 3, 1) := by decide +kernel
theorem d_LA4_409 : decode code 409 = .ok (.iconst 0, 1) := by decide +kernel
theorem d_LA4_410 : decode code 410 = .ok (.laload, 1) := by decide +kernel
theorem d_LA4_411 : decode code 411 = .ok (.iload 6, 2) := by decide +kernel
theorem d_LA4_413 : decode code 413 = .ok (.i2l, 1) := by decide +kernel
theorem d_LA4_414 : decode code 414 = .ok (.lcmp, 1) := by decide +kernel
theorem d_LA4_415 : decode code 415 = .ok (.ifCond .eq 5, 3) := by decide +kernel
theorem d_LA4_418 : decode code 418 = .ok (.iconst 0, 1) := by decide +kernel
theorem d_LA4_419 : decode code 419 = .ok (.ireturn, 1) := by decide +kernel
theorem d_LA4_420 : decode code 420 = .ok (.goto 466, 3) := by decide +kernel
theorem d_LA4 : ∀ z ∈ q_LA4, decode code z.1 = .ok z.2 := List.forall_mem_cons.mpr ⟨d_LA4_367, List.forall_mem_cons.mpr ⟨d_LA4_368, List.forall_mem_cons.mpr ⟨d_LA4_369, List.forall_mem_cons.mpr ⟨d_LA4_371, List.forall_mem_cons.mpr ⟨d_LA4_372, List.forall_mem_cons.mpr ⟨d_LA4_373, List.forall_mem_cons.mpr ⟨d_LA4_374, List.forall_mem_cons.mpr ⟨d_LA4_375, List.forall_mem_cons.mpr ⟨d_LA4_378, List.forall_mem_cons.mpr ⟨d_LA4_380, List.forall_mem_cons.mpr ⟨d_LA4_381, List.forall_mem_cons.mpr ⟨d_LA4_382, List.forall_mem_cons.mpr ⟨d_LA4_384, List.forall_mem_cons.mpr ⟨d_LA4_385, List.forall_mem_cons.mpr ⟨d_LA4_386, List.forall_mem_cons.mpr ⟨d_LA4_387, List.forall_mem_cons.mpr ⟨d_LA4_390, List.forall_mem_cons.mpr ⟨d_LA4_392, List.forall_mem_cons.mpr ⟨d_LA4_393, List.forall_mem_cons.mpr ⟨d_LA4_396, List.forall_mem_cons.mpr ⟨d_LA4_398, List.forall_mem_cons.mpr ⟨d_LA4_401, List.forall_mem_cons.mpr ⟨d_LA4_402, List.forall_mem_cons.mpr ⟨d_LA4_403, List.forall_mem_cons.mpr ⟨d_LA4_405, List.forall_mem_cons.mpr ⟨d_LA4_408, List.forall_mem_cons.mpr ⟨d_LA4_409, List.forall_mem_cons.mpr ⟨d_LA4_410, List.forall_mem_cons.mpr ⟨d_LA4_411, List.forall_mem_cons.mpr ⟨d_LA4_413, List.forall_mem_cons.mpr ⟨d_LA4_414, List.forall_mem_cons.mpr ⟨d_LA4_415, List.forall_mem_cons.mpr ⟨d_LA4_418, List.forall_mem_cons.mpr ⟨d_LA4_419, List.forall_mem_cons.mpr ⟨d_LA4_420, fun _ h => absurd h List.not_mem_nil⟩⟩⟩⟩⟩⟩⟩⟩⟩⟩⟩⟩⟩⟩⟩⟩⟩⟩⟩⟩⟩⟩⟩⟩⟩⟩⟩⟩⟩⟩⟩⟩⟩⟩⟩
theorem i_LA4_ok : ∀ pc i n, i_LA4 pc = some (i, n) → decode code pc = .ok (i, n) := fun pc i n h => d_LA4 (pc, i, n) (am_find_mem h)
theorem i_LA4_367 : i_LA4 367 = some (.aload_n 1, 1) := rfl
theorem i_LA4_368 : i_LA4 368 = some (.aload_n 0, 1) := rfl
theorem i_LA4_369 : i_LA4 369 = some (.iload 4, 2) := rfl
theorem i_LA4_371 : i_LA4 371 = some (.iconst 1, 1) := rfl
theorem i_LA4_372 : i_LA4 372 = some (.iadd, 1) := rfl
theorem i_LA4_373 : i_LA4 373 = some (.iaload, 1) := rfl
theorem i_LA4_374 : i_LA4 374 = some (.aload_n 3, 1) := rfl
theorem i_LA4_375 : i_LA4 375 = some (.invokestatic 89, 3) := rfl
theorem i_LA4_378 : i_LA4 378 = some (.istore 5, 2) := rfl
theorem i_LA4_380 : i_LA4 380 = some (.aload_n 2, 1) := rfl
theorem i_LA4_381 : i_LA4 381 = some (.aload_n 0, 1) := rfl
theorem i_LA4_382 : i_LA4 382 = some (.iload 4, 2) := rfl
theorem i_LA4_384 : i_LA4 384 = some (.iconst 1, 1) := rfl
theorem i_LA4_385 : i_LA4 385 = some (.iadd, 1) := rfl
theorem i_LA4_386 : i_LA4 386 = some (.iaload, 1) := rfl
theorem i_LA4_387 : i_LA4 387 = some (.invokevirtual 91, 3) := rfl
theorem i_LA4_390 : i_LA4 390 = some (.istore 6, 2) := rfl
theorem i_LA4_392 : i_LA4 392 = some (.aload_n 2, 1) := rfl
theorem i_LA4_393 : i_LA4 393 = some (.invokevirtual 74, 3) := rfl
theorem i_LA4_396 : i_LA4 396 = some (.iload 5, 2) := rfl
theorem i_LA4_398 : i_LA4 398 = some (.if_icmp .eq 5, 3) := rfl
theorem i_LA4_401 : i_LA4 401 = some (.iconst 0, 1) := rfl
theorem i_LA4_402 : i_LA4 402 = some (.ireturn, 1) := rfl
theorem i_LA4_403 : i_LA4 403 = some (.iload 5, 2) := rfl
theorem i_LA4_405 : i_LA4 405 = some (.ifCond .ne 15, 3) := rfl
theorem i_LA4_408 : i_LA4 408 = some (.aload_n 3, 1) := rfl
theorem i_LA4_409 : i_LA4 409 = some (.iconst 0, 1) := rfl
theorem i_LA4_410 : i_LA4 410 = some (.laload, 1) := rfl
theorem i_LA4_411 : i_LA4 411 = some (.iload 6, 2) := rfl
theorem i_LA4_413 : i_LA4 413 = some (.i2l, 1) := rfl
theorem i_LA4_414 : i_LA4 414 = some (.lcmp, 1) := rfl
theorem i_LA4_415 : i_LA4 415 = some (.ifCond .eq 5, 3) := rfl
theorem i_LA4_418 : i_LA4 418 = some (.iconst 0, 1) := rfl
theorem i_LA4_419 : i_LA4 419 = some (.ireturn, 1) := rfl
theorem i_LA4_420 : i_LA4 420 = some (.goto 466, 3) := rfl
def q_LA5 : List (Nat × Instr × Nat) := [(423, .aload_n 1, 1), (424, .aload_n 0, 1), (425, .iload 4, 2), (427, .iconst 1, 1), (428, .iadd, 1), (429, .iaload, 1), (430, .aload_n 0, 1), (431, .iload 4, 2), (433, .iconst 2, 1), (434, .iadd, 1), (435, .iaload, 1), (436, .aload_n 3, 1), (437, .invokestatic 92, 3), (440, .istore 5, 2), (442, .aload_n 2, 1), (443, .aload_n 0, 1), (444, .iload 4, 2), (446, .iconst 1, 1), (447, .iadd, 1), (448, .iaload, 1), (449, .aload_n 0, 1), (450, .iload 4, 2), (452, .iconst 2, 1), (453, .iadd, 1), (454, .iaload, 1), (455, .invokevirtual 95, 3), (458, .istore 6, 2), (460, .aload_n 2, 1), (461, .invokevirtual 74, 3), (464, .iload 5, 2), (466, .if_icmp .eq 5, 3), (469, .iconst 0, 1), (470, .ireturn, 1), (471, .iload 5, 2), (473, .ifCond .ne 15, 3), (476, .aload_n 3, 1), (477, .iconst 0, 1), (478, .laload, 1), (479, .iload 6, 2), (481, .i2l, 1), (482, .lcmp, 1), (483, .ifCond .eq 5, 3), (486, .iconst 0, 1), (487, .ireturn, 1), (488, .goto 398, 3)]
def i_LA5 : Nat → Option (Instr × Nat) := am_find q_LA5
theorem d_LA5_423 : decode code 423 = .ok (.aload_n 1, 1) := by decide +kernel
theorem d_LA5_424 : decode code 424 = .ok (.aload_n 0, 1) := by decide +kernel
theorem d_LA5_425 : decode code 425 = .ok (.iload 4, 2) := by decide +kernel
theorem d_LA5_427 : decode code 427 = .ok (.iconst 1, 1) := by decide +kernel
theorem d_LA5_428 : decode code 428 = .ok (.iadd, 1) := by decide +kernel
theorem d_LA5_429 : decode code 429 = .ok (.iaload, 1) := by decide +kernel
theorem d_LA5_430 : decode code 430 = .ok (.aload_n 0, 1) := by decide +kernel
theorem d_LA5_431 : decode code 431 = .ok (.iload 4, 2) := by decide +kernel
theorem d_LA5_433 : decode code 433 = .ok (.iconst 2, 1) := by decide +kernel
theorem d_LA5_434 : decode code 434 = .ok (.iadd, 1) := by decide +kernel
theorem d_LA5_435 : decode code 435 = .ok (.iaload, 1) := by decide +kernel
theorem d_LA5_436 : decode code 436 = .ok (.aload_n 3, 1) := by decide +kernel
theorem d_LA5_437 : decode code 437 = .ok (.invokestatic 92, 3) := by decide +kernel
theorem d_LA5_440 : decode code 440 = .ok (.istore 5, 2) := by decide +kernel
theorem d_LA5_442 : decode code 442 = .ok (.aload_n 2, 1) := by decide +kernel
theorem d_LA5_443 : decode code 443 = .ok (.aload_n 0, 1) := by decide +kernel
theorem d_LA5_444 : decode code 444 = .ok (.iload 4, 2) := by decide +kernel
theorem d_LA5_446 : decode code 446 = .ok (.iconst 1, 1) := by decide +kernel
theorem d_LA5_447 : decode code 447 = .ok (.iadd, 1) := by decide +kernel
theorem d_LA5_448 : decode code 448 = .ok (.iaload, 1) := by decide +kernel
theorem d_LA5_449 : decode code 449 = .ok (.aload_n 0, 1) := by decide +kernel
theorem d_LA5_450 : decode code 450 = .ok (.iload 4, 2) := by decide +kernel
theorem d_LA5_452 : decode code 452 = .ok (.iconst 2, 1) := by decide +kernel
theorem d_LA5_453 : decode code 453 = .ok (.iadd, 1) := by decide +kernel
theorem d_LA5_454 : decode code 454 = .ok (.iaload, 1) := by decide +kernel
theorem d_LA5_455 : decode code 455 = .ok (.invokevirtual 95, 3) := by decide +kernel
theorem d_LA5_458 : decode code 458 = .ok (.istore 6, 2) := by decide +kernel
theorem d_LA5_460 : decode code 460 = .ok (.aload_n 2, 1) := by decide +kernel
theorem d_LA5_461 : decode code 461 = .ok (.invokevirtual 74, 3) := by decide +kernel
theorem d_LA5_464 : decode code 464 = .ok (.iload 5, 2) := by decide +kernel
theorem d_LA5_466 : decode code 466 = .ok (.if_icmp .eq 5, 3) := by decide +kernel
theorem d_LA5_469 : decode code 469 = .ok (.iconst 0, 1) := by decide +kernel
theorem d_LA5_470 : decode code 470 = .ok (.ireturn, 1) := by decide +kernel
theorem d_LA5_471 : decode code 471 = .ok (.iload 5, 2) := by decide +kernel
theorem d_LA5_473 : decode code 473 = .ok (.ifCond .ne 15, 3) := by decide +kernel
theorem d_LA5_476 : decode code 476 = .ok (.aload_n 3, 1) := by decide +kernel
theorem d_LA5_477 : decode code 477 = .ok (.iconst 0, 1) := by decide +kernel
theorem d_LA5_478 : decode code 478 = .ok (.laload, 1) := by decide +kernel
theorem d_LA5_479 : decode code 479 = .ok (.iload 6, 2) := by decide +kernel
theorem d_LA5_481 : decode code 481 = .ok (.i2l, 1) := by decide +kernel
theorem d_LA5_482 : decode code 482 = .ok (.lcmp, 1) := by decide +kernel
theorem d_LA5_483 : decode code 483 = .ok (.ifCond .eq 5, 3) := by decide +kernel
theorem d_LA5_486 : decode code 486 = .ok (.iconst 0, 1) := by decide +kernel
theorem d_LA5_487 : decode code 487 = .ok (.ireturn, 1) := by decide +kernel
theorem d_LA5_488 : decode code 488 = .ok (.goto 398, 3) := by decide +kernel
theorem d_LA5 : ∀ z ∈ q_LA5, decode code z.1 = .ok z.2 := List.forall_mem_cons.mpr ⟨d_LA5_423, List.forall_mem_cons.mpr ⟨d_LA5_424, List.forall_mem_cons.mpr ⟨d_LA5_425, List.forall_mem_cons.mpr ⟨d_LA5_427, List.forall_mem_cons.mpr ⟨d_LA5_428, List.forall_mem_cons.mpr ⟨d_LA5_429, List.forall_mem_cons.mpr ⟨d_LA5_430, List.forall_mem_cons.mpr ⟨d_LA5_431, List.forall_mem_cons.mpr ⟨d_LA5_433, List.forall_mem_cons.mpr ⟨d_LA5_434, List.forall_mem_cons.mpr ⟨d_LA5_435, List.forall_mem_cons.mpr ⟨d_LA5_436, List.forall_mem_cons.mpr ⟨d_LA5_437, List.forall_mem_cons.mpr ⟨d_LA5_440, List.forall_mem_cons.mpr ⟨d_LA5_442, List.forall_mem_cons.mpr ⟨d_LA5_443, List.forall_mem_cons.mpr ⟨d_LA5_444, List.forall_mem_cons.mpr ⟨d_LA5_446, List.forall_mem_cons.mpr ⟨d_LA5_447, List.forall_mem_cons.mpr ⟨d_LA5_448, List.forall_mem_cons.mpr ⟨d_LA5_449, List.forall_mem_cons.mpr ⟨d_LA5_450, List.forall_mem_cons.mpr ⟨d_LA5_452, List.forall_mem_cons.mpr ⟨d_LA5_453, List.forall_mem_cons.mpr ⟨d_LA5_454, List.forall_mem_cons.mpr ⟨d_LA5_455, List.forall_mem_cons.mpr ⟨d_LA5_458, List.forall_mem_cons.mpr ⟨d_LA5_460, List.forall_mem_cons.mpr ⟨d_LA5_461, List.forall_mem_cons.mpr ⟨d_LA5_464, List.forall_mem_cons.mpr ⟨d_LA5_466, List.forall_mem_cons.mpr ⟨d_LA5_469, List.forall_mem_cons.mpr ⟨d_LA5_470, List.forall_mem_cons.mpr ⟨d_LA5_471, List.forall_mem_cons.mpr ⟨d_LA5_473, List.forall_mem_cons.mpr ⟨d_LA5_476, List.forall_mem_cons.mpr ⟨d_LA5_477, List.forall_mem_cons.mpr ⟨d_LA5_478, List.forall_mem_cons.mpr ⟨d_LA5_479, List.forall_mem_cons.mpr ⟨d_LA5_481, List.forall_mem_cons.mpr ⟨d_LA5_482, List.forall_mem_cons.mpr ⟨d_LA5_483, List.forall_mem_cons.mpr ⟨d_LA5_486, List.forall_mem_cons.mpr ⟨d_LA5_487, List.forall_mem_cons.mpr ⟨d_LA5_488, fun _ h => absurd h List.not_mem_nil⟩⟩⟩⟩⟩⟩⟩⟩⟩⟩⟩⟩⟩⟩⟩⟩⟩⟩⟩⟩⟩⟩⟩⟩⟩⟩⟩⟩⟩⟩⟩⟩⟩⟩⟩⟩⟩⟩⟩⟩⟩⟩⟩⟩⟩
theorem i_LA5_ok : ∀ pc i n, i_LA5 pc = some (i, n) → decode code pc = .ok (i, n) := fun pc i n h => d_LA5 (pc, i, n) (am_find_mem h)
theorem i_LA5_423 : i_LA5 423 = some (.aload_n 1, 1) := rfl
theorem i_LA5_424 : i_LA5 424 = some (.aload_n 0, 1) := rfl
theorem i_LA5_425 : i_LA5 425 = some (.iload 4, 2) := rfl
theorem i_LA5_427 : i_LA5 427 = some (.iconst 1, 1) := rfl
theorem i_LA5_428 : i_LA5 428 = some (.iadd, 1) := rfl
theorem i_LA5_429 : i_LA5 429 = some (.iaload, 1) := rfl
theorem i_LA5_430 : i_LA5 430 = some (.aload_n 0, 1) := rfl
theorem i_LA5_431 : i_LA5 431 = some (.iload 4, 2) := rfl
theorem i_LA5_433 : i_LA5 433 = some (.iconst 2, 1) := rfl
theorem i_LA5_434 : i_LA5 434 = some (.iadd, 1) := rfl
theorem i_LA5_435 : i_LA5 435 = some (.iaload, 1) := rfl
theorem i_LA5_436 : i_LA5 436 = some (.aload_n 3, 1) := rfl
theorem i_LA5_437 : i_LA5 437 = some (.invokestatic 92, 3) := rfl
theorem i_LA5_440 : i_LA5 440 = some (.istore 5, 2) := rfl
theorem i_LA5_442 : i_LA5 442 = some (.aload_n 2, 1) := rfl
theorem i_LA5_443 : i_LA5 443 = some (.aload_n 0, 1) := rfl
theorem i_LA5_444 : i_LA5 444 = some (.iload 4, 2) := rfl
theorem i_LA5_446 : i_LA5 446 = some (.iconst 1, 1) := rfl
theorem i_LA5_447 : i_LA5 447 = some (.iadd, 1) := rfl
theorem i_LA5_448 : i_LA5 448 = some (.iaload, 1) := rfl
theorem i_LA5_449 : i_LA5 449 = some (.aload_n 0, 1) := rfl
theorem i_LA5_450 : i_LA5 450 = some (.iload 4, 2) := rfl
theorem i_LA5_452 : i_LA5 452 = some (.iconst 2, 1) := rfl
theorem i_LA5_453 : i_LA5 453 = some (.iadd, 1) := rfl
theorem i_LA5_454 : i_LA5 454 = some (.iaload, 1) := rfl
theorem i_LA5_455 : i_LA5 455 = some (.invokevirtual 95, 3) := rfl
theorem i_LA5_458 : i_LA5 458 = some (.istore 6, 2) := rfl
theorem i_LA5_460 : i_LA5 460 = some (.aload_n 2, 1) := rfl
theorem i_LA5_461 : i_LA5 461 = some (.invokevirtual 74, 3) := rfl
theorem i_LA5_464 : i_LA5 464 = some (.iload 5, 2) := rfl
theorem i_LA5_466 : i_LA5 466 = some (.if_icmp .eq 5, 3) := rfl
theorem i_LA5_469 : i_LA5 469 = some (.iconst 0, 1) := rfl
theorem i_LA5_470 : i_LA5 470 = some (.ireturn, 1) := rfl
theorem i_LA5_471 : i_LA5 471 = some (.iload 5, 2) := rfl
theorem i_LA5_473 : i_LA5 473 = some (.ifCond .ne 15, 3) := rfl
theorem i_LA5_476 : i_LA5 476 = some (.aload_n 3, 1) := rfl
theorem i_LA5_477 : i_LA5 477 = some (.iconst 0, 1) := rfl
theorem i_LA5_478 : i_LA5 478 = some (.laload, 1) := rfl
theorem i_LA5_479 : i_LA5 479 = some (.iload 6, 2) := rfl
theorem i_LA5_481 : i_LA5 481 = some (.i2l, 1) := rfl
theorem i_LA5_482 : i_LA5 482 = some (.lcmp, 1) := rfl
theorem i_LA5_483 : i_LA5 483 = some (.ifCond .eq 5, 3) := rfl
theorem i_LA5_486 : i_LA5 486 = some (.iconst 0, 1) := rfl
theorem i_LA5_487 : i_LA5 487 = some (.ireturn, 1) := rfl
theorem i_LA5_488 : i_LA5 488 = some (.goto 398, 3) := rfl
def q_LA6 : List (Nat × Instr × Nat) := [(491, .aload_n 1, 1), (492, .aload_n 0, 1), (493, .iload 4, 2), (495, .iconst 1, 1), (496, .iadd, 1), (497, .iaload, 1), (498, .aload_n 0, 1), (499, .iload 4, 2), (501, .iconst 2, 1), (502, .iadd, 1), (503, .iaload, 1), (504, .invokestatic 96, 3), (507, .istore 5, 2), (509, .aload_n 2, 1), (510, .aload_n 0, 1), (511, .iload 4, 2), (513, .iconst 1, 1), (514, .iadd, 1), (515, .iaload, 1), (516, .aload_n 0, 1), (517, .iload 4, 2), (519, .iconst 2, 1), (520, .iadd, 1), (521, .iaload, 1), (522, .invokevirtual 99, 3), (525, .aload_n 2, 1), (526, .invokevirtual 74, 3), (529, .iload 5, 2), (531, .if_icmp .eq 5, 3), (534, .iconst 0, 1), (535, .ireturn, 1), (536, .goto 350, 3)]
def i_LA6 : Nat → Option (Instr × Nat) := am_find q_LA6
theorem d_LA6_491 : decode code 491 = .ok (.aload_n 1, 1) := by decide +kernel
theorem d_LA6_492 : decode code 492 = .ok (.aload_n 0, 1) := by decide +kernel
theorem d_LA6_493 : decode code 493 = .ok (.iload 4, 2) := by decide +kernel
theorem d_LA6_495 : decode code 495 = .ok (.iconst 1, 1) := by decide +kernel
theorem d_LA6_496 : decode code 496 = .ok (.iadd, 1) := by decide +kernel
theorem d_LA6_497 : decode code 497 = .ok (.iaload, 1) := by decide +kernel
theorem d_LA6_498 : decode code 498 = .ok (.aload_n 0, 1) := by decide +kernel
theorem d_LA6_499 : decode code 499 = .ok (.iload 4, 2) := by decide +kernel
theorem d_LA6_501 : decode code 501 = .ok (.iconst 2, 1) := by decide +kernel
theorem d_LA6_502 : decode code 502 = .ok (.iadd, 1) := by decide +kernel
theorem d_LA6_503 : decode code 503 = .ok (.iaload, 1) := by decide +kernel
theorem d_LA6_504 : decode code 504 = .ok (.invokestatic 96, 3) := by decide +kernel
theorem d_LA6_507 : decode code 507 = .ok (.istore 5, 2) := by decide +kernel
theorem d_LA6_509 : decode code 509 = .ok (.aload_n 2, 1) := by decide +kernel
theorem d_LA6_510 : decode code 510 = .ok (.aload_n 0, 1) := by decide +kernel
theorem d_LA6_511 : decode code 511 = .ok (.iload 4, 2) := by decide +kernel
theorem d_LA6_513 : decode code 513 = .ok (.iconst 1, 1) := by decide +kernel
theorem d_LA6_514 : decode code 514 = .ok (.iadd, 1) := by decide +kernel
theorem d_LA6_515 : decode code 515 = .ok (.iaload, 1) := by decide +kernel
theorem d_LA6_516 : decode code 516 = .ok (.aload_n 0, 1) := by decide +kernel
theorem d_LA6_517 : decode code 517 = .ok (.iload 4, 2) := by decide +kernel
theorem d_LA6_519 : decode code 519 = .ok (.iconst 2, 1) := by decide +kernel
theorem d_LA6_520 : decode code 520 = .ok (.iadd, 1) := by decide +kernel
theorem d_LA6_521 : decode code 521 = .ok (.iaload, 1) := by decide +kernel
theorem d_LA6_522 : decode code 522 = .ok (.invokevirtual 99, 3) := by decide +kernel
theorem d_LA6_525 : decode code 525 = .ok (.aload_n 2, 1) := by decide +kernel
theorem d_LA6_526 : decode code 526 = .ok (.invokevirtual 74, 3) := by decide +kernel
theorem d_LA6_529 : decode code 529 = .ok (.iload 5, 2) := by decide +kernel
theorem d_LA6_531 : decode code 531 = .ok (.if_icmp .eq 5, 3) := by decide +kernel
theorem d_LA6_534 : decode code 534 = .ok (.iconst 0, 1) := by decide +kernel
theorem d_LA6_535 : decode code 535 = .ok (.ireturn, 1) := by decide +kernel
theorem d_LA6_536 : decode code 536 = .ok (.goto 350, 3) := by decide +kernel
theorem d_LA6 : ∀ z ∈ q_LA6, decode code z.1 = .ok z.2 := List.forall_mem_cons.mpr ⟨d_LA6_491, List.forall_mem_cons.mpr ⟨d_LA6_492, List.forall_mem_cons.mpr ⟨d_LA6_493, List.forall_mem_cons.mpr ⟨d_LA6_495, List.forall_mem_cons.mpr ⟨d_LA6_496, List.forall_mem_cons.mpr ⟨d_LA6_497, List.forall_mem_cons.mpr ⟨d_LA6_498, List.forall_mem_cons.mpr ⟨d_LA6_499, List.forall_mem_cons.mpr ⟨d_LA6_501, List.forall_mem_cons.mpr ⟨d_LA6_502, List.forall_mem_cons.mpr ⟨d_LA6_503, List.forall_mem_cons.mpr ⟨d_LA6_504, List.forall_mem_cons.mpr ⟨d_LA6_507, List.forall_mem_cons.mpr ⟨d_LA6_509, List.forall_mem_cons.mpr ⟨d_LA6_510, List.forall_mem_cons.mpr ⟨d_LA6_511, List.forall_mem_cons.mpr ⟨d_LA6_513, List.forall_mem_cons.mpr ⟨d_LA6_514, List.forall_mem_cons.mpr ⟨d_LA6_515, List.forall_mem_cons.mpr ⟨d_LA6_516, List.forall_mem_cons.mpr ⟨d_LA6_517, List.forall_mem_cons.mpr ⟨d_LA6_519, List.forall_mem_cons.mpr ⟨d_LA6_520, List.forall_mem_cons.mpr ⟨d_LA6_521, List.forall_mem_cons.mpr ⟨d_LA6_522, List.forall_mem_cons.mpr ⟨d_LA6_525, List.forall_mem_cons.mpr ⟨d_LA6_526, List.forall_mem_cons.mpr ⟨d_LA6_529, List.forall_mem_cons.mpr ⟨d_LA6_531, List.forall_mem_cons.mpr ⟨d_LA6_534, List.forall_mem_cons.mpr ⟨d_LA6_535, List.forall_mem_cons.mpr ⟨d_LA6_536, fun _ h => absurd h List.not_mem_nil⟩⟩⟩⟩⟩⟩⟩⟩⟩⟩⟩⟩⟩⟩⟩⟩⟩⟩⟩⟩⟩⟩⟩⟩⟩⟩⟩⟩⟩⟩⟩⟩
theorem i_LA6_ok : ∀ pc i n, i_LA6 pc = some (i, n) → decode code pc = .ok (i, n) := fun pc i n h => d_LA6 (pc, i, n) (am_find_mem h)
theorem i_LA6_491 : i_LA6 491 = some (.aload_n 1, 1) := rfl
theorem i_LA6_492 : i_LA6 492 = some (.aload_n 0, 1) := rfl
theorem i_LA6_493 : i_LA6 493 = some (.iload 4, 2) := rfl
theorem i_LA6_495 : i_LA6 495 = some (.iconst 1, 1) := rfl
theorem i_LA6_496 : i_LA6 496 = some (.iadd, 1) := rfl
theorem i_LA6_497 : i_LA6 497 = some (.iaload, 1) := rfl
theorem i_LA6_498 : i_LA6 498 = some (.aload_n 0, 1) := rfl
theorem i_LA6_499 : i_LA6 499 = some (.iload 4, 2) := rfl
theorem i_LA6_501 : i_LA6 501 = some (.iconst 2, 1) := rfl
theorem i_LA6_502 : i_LA6 502 = some (.iadd, 1) := rfl
theorem i_LA6_503 : i_LA6 503 = some (.iaload, 1) := rfl
theorem i_LA6_504 : i_LA6 504 = some (.invokestatic 96, 3) := rfl
theorem i_LA6_507 : i_LA6 507 = some (.istore 5, 2) := rfl
theorem i_LA6_509 : i_LA6 509 = some (.aload_n 2, 1) := rfl
theorem i_LA6_510 : i_LA6 510 = some (.aload_n 0, 1) := rfl
theorem i_LA6_511 : i_LA6 511 = some (.iload 4, 2) := rfl
theorem i_LA6_513 : i_LA6 513 = some (.iconst 1, 1) := rfl
theorem i_LA6_514 : i_LA6 514 = some (.iadd, 1) := rfl
theorem i_LA6_515 : i_LA6 515 = some (.iaload, 1) := rfl
theorem i_LA6_516 : i_LA6 516 = some (.aload_n 0, 1) := rfl
theorem i_LA6_517 : i_LA6 517 = some (.iload 4, 2) := rfl
theorem i_LA6_519 : i_LA6 519 = some (.iconst 2, 1) := rfl
theorem i_LA6_520 : i_LA6 520 = some (.iadd, 1) := rfl
theorem i_LA6_521 : i_LA6 521 = some (.iaload, 1) := rfl
theorem i_LA6_522 : i_LA6 522 = some (.invokevirtual 99, 3) := rfl
theorem i_LA6_525 : i_LA6 525 = some (.aload_n 2, 1) := rfl
theorem i_LA6_526 : i_LA6 526 = some (.invokevirtual 74, 3) := rfl
theorem i_LA6_529 : i_LA6 529 = some (.iload 5, 2) := rfl
theorem i_LA6_531 : i_LA6 531 = some (.if_icmp .eq 5, 3) := rfl
theorem i_LA6_534 : i_LA6 534 = some (.iconst 0, 1) := rfl
theorem i_LA6_535 : i_LA6 535 = some (.ireturn, 1) := rfl
theorem i_LA6_536 : i_LA6 536 = some (.goto 350, 3) := rfl
def q_LA7 : List (Nat × Instr × Nat) := [(539, .aload_n 1, 1), (540, .aload_n 0, 1), (541, .iload 4, 2), (543, .iconst 1, 1), (544, .iadd, 1), (545, .iaload, 1), (546, .aload_n 3, 1), (547, .invokestatic 100, 3), (550, .istore 5, 2), (552, .aload_n 2, 1), (553, .aload_n 0, 1), (554, .iload 4, 2), (556, .iconst 1, 1), (557, .iadd, 1), (558, .iaload, 1), (559, .invokevirtual 102, 3), (562, .istore 6, 2), (564, .aload_n 2, 1), (565, .invokevirtual 74, 3), (568, .iload 5, 2), (570, .if_icmp .eq 5, 3), (573, .iconst 0, 1), (574, .ireturn, 1), (575, .iload 5, 2), (577, .ifCond .ne 15, 3), (580, .aload_n 3, 1), (581, .iconst 0, 1), (582, .laload, 1), (583, .iload 6, 2), (585, .i2l, 1), (586, .lcmp, 1), (587, .ifCond .eq 5, 3), (590, .iconst 0, 1), (591, .ireturn, 1), (592, .goto 294, 3)]
def i_LA7 : Nat → Option (Instr × Nat) := am_find q_LA7
theorem d_LA7_539 : decode code 539 = .ok (.aload_n 1, 1) := by decide +kernel
theorem d_LA7_540 : decode code 540 = .ok (.aload_n 0, 1) := by decide +kernel
theorem d_LA7_541 : decode code 541 = .ok (.iload 4, 2) := by decide +kernel
theorem d_LA7_543 : decode code 543 = .ok (.iconst 1, 1) := by decide +kernel
theorem d_LA7_544 : decode code 544 = .ok (.iadd, 1) := by decide +kernel
theorem d_LA7_545 : decode code 545 = .ok (.iaload, 1) := by decide +kernel
theorem d_LA7_546 : decode code 546 = .ok (.aload_n 3, 1) := by decide +kernel
theorem d_LA7_547 : decode code 547 = .ok (.invokestatic 100, 3) := by decide +kernel
theorem d_LA7_550 : decode code 550 = .ok (.istore 5, 2) := by decide +kernel
theorem d_LA7_552 : decode code 552 = .ok (.aload_n 2, 1) := by decide +kernel
theorem d_LA7_553 : decode code 553 = .ok (.aload_n 0, 1) := by decide +kernel
theorem d_LA7_554 : decode code 554 = .ok (.iload 4, 2) := by decide +kernel
theorem d_LA7_556 : decode code 556 = .ok (.iconst 1, 1) := by decide +kernel
theorem d_LA7_557 : decode code 557 = .ok (.iadd, 1) := by decide +kernel
theorem d_LA7_558 : decode code 558 = .ok (.iaload, 1) := by decide +kernel
theorem d_LA7_559 : decode code 559 = .ok (.invokevirtual 102, 3) := by decide +kernel
theorem d_LA7_562 : decode code 562 = .ok (.istore 6, 2) := by decide +kernel
theorem d_LA7_564 : decode code 564 = .ok (.aload_n 2, 1) := by decide +kernel
theorem d_LA7_565 : decode code 565 = .ok (.invokevirtual 74, 3) := by decide +kernel
theorem d_LA7_568 : decode code 568 = .ok (.iload 5, 2) := by decide +kernel
theorem d_LA7_570 : decode code 570 = .ok (.if_icmp .eq 5, 3) := by decide +kernel
theorem d_LA7_573 : decode code 573 = .ok (.iconst 0, 1) := by decide +kernel
theorem d_LA7_574 : decode code 574 = .ok (.ireturn, 1) := by decide +kernel
theorem d_LA7_575 : decode code 575 = .ok (.iload 5, 2) := by decide +kernel
theorem d_LA7_577 : decode code 577 = .ok (.ifCond .ne 15, 3) := by decide +kernel
theorem d_LA7_580 : decode code 580 = .ok (.aload_n 3, 1) := by decide +kernel
theorem d_LA7_581 : decode code 581 = .ok (.iconst 0, 1) := by decide +kernel
theorem d_LA7_582 : decode code 582 = .ok (.laload, 1) := by decide +kernel
theorem d_LA7_583 : decode code 583 = .ok (.iload 6, 2) := by decide +kernel
theorem d_LA7_585 : decode code 585 = .ok (.i2l, 1) := by decide +kernel
theorem d_LA7_586 : decode code 586 = .ok (.lcmp, 1) := by decide +kernel
theorem d_LA7_587 : decode code 587 = .ok (.ifCond .eq 5, 3) := by decide +kernel
theorem d_LA7_590 : decode code 590 = .ok (.iconst 0, 1) := by decide +kernel
theorem d_LA7_591 : decode code 591 = .ok (.ireturn, 1) := by decide +kernel
theorem d_LA7_592 : decode code 592 = .ok (.goto 294, 3) := by decide +kernel
theorem d_LA7 : ∀ z ∈ q_LA7, decode code z.1 = .ok z.2 := List.forall_mem_cons.mpr ⟨d_LA7_539, List.forall_mem_cons.mpr ⟨d_LA7_540, List.forall_mem_cons.mpr ⟨d_LA7_541, List.forall_mem_cons.mpr ⟨d_LA7_543, List.forall_mem_cons.mpr ⟨d_LA7_544, List.forall_mem_cons.mpr ⟨d_LA7_545, List.forall_mem_cons.mpr ⟨d_LA7_546, List.forall_mem_cons.mpr ⟨d_LA7_547, List.forall_mem_cons.mpr ⟨d_LA7_550, List.forall_mem_cons.mpr ⟨d_LA7_552, List.forall_mem_cons.mpr ⟨d_LA7_553, List.forall_mem_cons.mpr ⟨d_LA7_554, List.forall_mem_cons.mpr ⟨d_LA7_556, List.forall_mem_cons.mpr ⟨d_LA7_557, List.forall_mem_cons.mpr ⟨d_LA7_558, List.forall_mem_cons.mpr ⟨d_LA7_559, List.forall_mem_cons.mpr ⟨d_LA7_562, List.forall_mem_cons.mpr ⟨d_LA7_564, List.forall_mem_cons.mpr ⟨d_LA7_565, List.forall_mem_cons.mpr ⟨d_LA7_568, List.forall_mem_cons.mpr ⟨d_LA7_570, List.forall_mem_cons.mpr ⟨d_LA7_573, List.forall_mem_cons.mpr ⟨d_LA7_574, List.forall_mem_cons.mpr ⟨d_LA7_575, List.forall_mem_cons.mpr ⟨d_LA7_577, List.forall_mem_cons.mpr ⟨d_LA7_580, List.forall_mem_cons.mpr ⟨d_LA7_581, List.forall_mem_cons.mpr ⟨d_LA7_582, List.forall_mem_cons.mpr ⟨d_LA7_583, List.forall_mem_cons.mpr ⟨d_LA7_585, List.forall_mem_cons.mpr ⟨d_LA7_586, List.forall_mem_cons.mpr ⟨d_LA7_587, List.forall_mem_cons.mpr ⟨d_LA7_590, List.forall_mem_cons.mpr ⟨d_LA7_591, List.forall_mem_cons.mpr ⟨d_LA7_592, fun _ h => absurd h List.not_mem_nil⟩⟩⟩⟩⟩⟩⟩⟩⟩⟩⟩⟩⟩⟩⟩⟩⟩⟩⟩⟩⟩⟩⟩⟩⟩⟩⟩⟩⟩⟩⟩⟩⟩⟩⟩
theorem i_LA7_ok : ∀ pc i n, i_LA7 pc = some (i, n) → decode code pc = .ok (i, n) := fun pc i n h => d_LA7 (pc, i, n) (am_find_mem h)
theorem i_LA7_539 : i_LA7 539 = some (.aload_n 1, 1) := rfl
theorem i_LA7_540 : i_LA7 540 = some (.aload_n 0, 1) := rfl
theorem i_LA7_541 : i_LA7 541 = some (.iload 4, 2) := rfl
theorem i_LA7_543 : i_LA7 543 = some (.iconst 1, 1) := rfl
theorem i_LA7_544 : i_LA7 544 = some (.iadd, 1) := rfl
theorem i_LA7_545 : i_LA7 545 = some (.iaload, 1) := rfl
theorem i_LA7_546 : i_LA7 546 = some (.aload_n 3, 1) := rfl
theorem i_LA7_547 : i_LA7 547 = some (.invokestatic 100, 3) := rfl
theorem i_LA7_550 : i_LA7 550 = some (.istore 5, 2) := rfl
theorem i_LA7_552 : i_LA7 552 = some (.aload_n 2, 1) := rfl
theorem i_LA7_553 : i_LA7 553 = some (.aload_n 0, 1) := rfl
theorem i_LA7_554 : i_LA7 554 = some (.iload 4, 2) := rfl
theorem i_LA7_556 : i_LA7 556 = some (.iconst 1, 1) := rfl
theorem i_LA7_557 : i_LA7 557 = some (.iadd, 1) := rfl
theorem i_LA7_558 : i_LA7 558 = some (.iaload, 1) := rfl
theorem i_LA7_559 : i_LA7 559 = some (.invokevirtual 102, 3) := rfl
theorem i_LA7_562 : i_LA7 562 = some (.istore 6, 2) := rfl
theorem i_LA7_564 : i_LA7 564 = some (.aload_n 2, 1) := rfl
theorem i_LA7_565 : i_LA7 565 = some (.invokevirtual 74, 3) := rfl
theorem i_LA7_568 : i_LA7 568 = some (.iload 5, 2) := rfl
theorem i_LA7_570 : i_LA7 570 = some (.if_icmp .eq 5, 3) := rfl
theorem i_LA7_573 : i_LA7 573 = some (.iconst 0, 1) := rfl
theorem i_LA7_574 : i_LA7 574 = some (.ireturn, 1) := rfl
theorem i_LA7_575 : i_LA7 575 = some (.iload 5, 2) := rfl
theorem i_LA7_577 : i_LA7 577 = some (.ifCond .ne 15, 3) := rfl
theorem i_LA7_580 : i_LA7 580 = some (.aload_n 3, 1) := rfl
theorem i_LA7_581 : i_LA7 581 = some (.iconst 0, 1) := rfl
theorem i_LA7_582 : i_LA7 582 = some (.laload, 1) := rfl
theorem i_LA7_583 : i_LA7 583 = some (.iload 6, 2) := rfl
theorem i_LA7_585 : i_LA7 585 = some (.i2l, 1) := rfl
theorem i_LA7_586 : i_LA7 586 = some (.lcmp, 1) := rfl
theorem i_LA7_587 : i_LA7 587 = some (.ifCond .eq 5, 3) := rfl
theorem i_LA7_590 : i_LA7 590 = some (.iconst 0, 1) := rfl
theorem i_LA7_591 : i_LA7 591 = some (.ireturn, 1) := rfl
theorem i_LA7_592 : i_LA7 592 = some (.goto 294, 3) := rfl
def q_LA8 : List (Nat × Instr × Nat) := [(595, .aload_n 1, 1), (596, .aload_n 3, 1), (597, .invokestatic 103, 3), (600, .istore 5, 2), (602, .aload_n 2, 1), (603, .invokevirtual 106, 3), (606, .istore 6, 2), (608, .aload_n 2, 1), (609, .invokevirtual 74, 3), (612, .iload 5, 2), (614, .if_icmp .eq 5, 3), (617, .iconst 0, 1), (618, .ireturn, 1), (619, .iload 5, 2), (621, .ifCond .ne 15, 3), (624, .aload_n 3, 1), (625, .iconst 0, 1), (626, .laload, 1), (627, .iload 6, 2), (629, .i2l, 1), (630, .lcmp, 1), (631, .ifCond .eq 5, 3), (634, .iconst 0, 1), (635, .ireturn, 1), (636, .goto 250, 3)]
def i_LA8 : Nat → Option (Instr × Nat) := am_find q_LA8
theorem d_LA8_595 : decode code 595 = .ok (.aload_n 1, 1) := by decide +kernel
theorem d_LA8_596 : decode code 596 = .ok (.aload_n 3, 1) := by decide +kernel
theorem d_LA8_597 : decode code 597 = .ok (.invokestatic 103, 3) := by decide +kernel
theorem d_LA8_600 : decode code 600 = .ok (.istore 5, 2) := by decide +kernel
theorem d_LA8_602 : decode code 602 = .ok (.aload_n 2, 1) := by decide +kernel
theorem d_LA8_603 : decode code 603 = .ok (.invokevirtual 106, 3) := by decide +kernel
theorem d_LA8_606 : decode code 606 = .ok (.istore 6, 2) := by decide +kernel
theorem d_LA8_608 : decode code 608 = .ok (.aload_n 2, 1) := by decide +kernel
theorem d_LA8_609 : decode code 609 = .ok (.invokevirtual 74, 3) := by decide +kernel
theorem d_LA8_612 : decode code 612 = .ok (.iload 5, 2) := by decide +kernel
theorem d_LA8_614 : decode code 614 = .ok (.if_icmp .eq 5, 3) := by decide +kernel
theorem d_LA8_617 : decode code 617 = .ok (.iconst 0, 1) := by decide +kernel
theorem d_LA8_618 : decode code 618 = .ok (.ireturn, 1) := by decide +kernel
theorem d_LA8_619 : decode code 619 = .ok (.iload 5, 2) := by decide +kernel
theorem d_LA8_621 : decode code 621 = .ok (.ifCond .ne 15, 3) := by decide +kernel
theorem d_LA8_624 : decode code 624 = .ok (.aload_n 3, 1) := by decide +kernel
theorem d_LA8_625 : decode code 625 = .ok (.iconst 0, 1) := by decide +kernel
theorem d_LA8_626 : decode code 626 = .ok (.laload, 1) := by decide +kernel
theorem d_LA8_627 : decode code 627 = .ok (.iload 6, 2) := by decide +kernel
theorem d_LA8_629 : decode code 629 = .ok (.i2l, 1) := by decide +kernel
theorem d_LA8_630 : decode code 630 = .ok (.lcmp, 1) := by decide +kernel
theorem d_LA8_631 : decode code 631 = .ok (.ifCond .eq 5, 3) := by decide +kernel
theorem d_LA8_634 : decode code 634 = .ok (.iconst 0, 1) := by decide +kernel
theorem d_LA8_635 : decode code 635 = .ok (.ireturn, 1) := by decide +kernel
theorem d_LA8_636 : decode code 636 = .ok (.goto 250, 3) := by decide +kernel
theorem d_LA8 : ∀ z ∈ q_LA8, decode code z.1 = .ok z.2 := List.forall_mem_cons.mpr ⟨d_LA8_595, List.forall_mem_cons.mpr ⟨d_LA8_596, List.forall_mem_cons.mpr ⟨d_LA8_597, List.forall_mem_cons.mpr ⟨d_LA8_600, List.forall_mem_cons.mpr ⟨d_LA8_602, List.forall_mem_cons.mpr ⟨d_LA8_603, List.forall_mem_cons.mpr ⟨d_LA8_606, List.forall_mem_cons.mpr ⟨d_LA8_608, List.forall_mem_cons.mpr ⟨d_LA8_609, List.forall_mem_cons.mpr ⟨d_LA8_612, List.forall_mem_cons.mpr ⟨d_LA8_614, List.forall_mem_cons.mpr ⟨d_LA8_617, List.forall_mem_cons.mpr ⟨d_LA8_618, List.forall_mem_cons.mpr ⟨d_LA8_619, List.forall_mem_cons.mpr ⟨d_LA8_621, List.forall_mem_cons.mpr ⟨d_LA8_624, List.forall_mem_cons.mpr ⟨d_LA8_625, List.forall_mem_cons.mpr ⟨d_LA8_626, List.forall_mem_cons.mpr ⟨d_LA8_627, List.forall_mem_cons.mpr ⟨d_LA8_629, List.forall_mem_cons.mpr ⟨d_LA8_630, List.forall_mem_cons.mpr ⟨d_LA8_631, List.forall_mem_cons.mpr ⟨d_LA8_634, List.forall_mem_cons.mpr ⟨d_LA8_635, List.forall_mem_cons.mpr ⟨d_LA8_636, fun _ h => absurd h List.not_mem_nil⟩⟩⟩⟩⟩⟩⟩⟩⟩⟩⟩⟩⟩⟩⟩⟩⟩⟩⟩⟩⟩⟩⟩⟩⟩
theorem i_LA8_ok : ∀ pc i n, i_LA8 pc = some (i, n) → decode code pc = .ok (i, n) := fun pc i n h => d_LA8 (pc, i, n) (am_find_mem h)
theorem i_LA8_595 : i_LA8 595 = some (.aload_n 1, 1) := rfl
theorem i_LA8_596 : i_LA8 596 = some (.aload_n 3, 1) := rfl
theorem i_LA8_597 : i_LA8 597 = some (.invokestatic 103, 3) := rfl
theorem i_LA8_600 : i_LA8 600 = some (.istore 5, 2) := rfl
theorem i_LA8_602 : i_LA8 602 = some (.aload_n 2, 1) := rfl
theorem i_LA8_603 : i_LA8 603 = some (.invokevirtual 106, 3) := rfl
theorem i_LA8_606 : i_LA8 606 = some (.istore 6, 2) := rfl
theorem i_LA8_608 : i_LA8 608 = some (.aload_n 2, 1) := rfl
theorem i_LA8_609 : i_LA8 609 = some (.invokevirtual 74, 3) := rfl
theorem i_LA8_612 : i_LA8 612 = some (.iload 5, 2) := rfl
theorem i_LA8_614 : i_LA8 614 = some (.if_icmp .eq 5, 3) := rfl
theorem i_LA8_617 : i_LA8 617 = some (.iconst 0, 1) := rfl
theorem i_LA8_618 : i_LA8 618 = some (.ireturn, 1) := rfl
theorem i_LA8_619 : i_LA8 619 = some (.iload 5, 2) := rfl
theorem i_LA8_621 : i_LA8 621 = some (.ifCond .ne 15, 3) := rfl
theorem i_LA8_624 : i_LA8 624 = some (.aload_n 3, 1) := rfl
theorem i_LA8_625 : i_LA8 625 = some (.iconst 0, 1) := rfl
theorem i_LA8_626 : i_LA8 626 = some (.laload, 1) := rfl
theorem i_LA8_627 : i_LA8 627 = some (.iload 6, 2) := rfl
theorem i_LA8_629 : i_LA8 629 = some (.i2l, 1) := rfl
theorem i_LA8_630 : i_LA8 630 = some (.lcmp, 1) := rfl
theorem i_LA8_631 : i_LA8 631 = some (.ifCond .eq 5, 3) := rfl
theorem i_LA8_634 : i_LA8 634 = some (.iconst 0, 1) := rfl
theorem i_LA8_635 : i_LA8 635 = some (.ireturn, 1) := rfl
theorem i_LA8_636 : i_LA8 636 = some (.goto 250, 3) := rfl
def q_LA9 : List (Nat × Instr × Nat) := [(639, .aload_n 1, 1), (640, .aload_n 0, 1), (641, .iload 4, 2), (643, .iconst 1, 1), (644, .iadd, 1), (645, .iaload, 1), (646, .aload_n 3, 1), (647, .invokestatic 107, 3), (650, .istore 5, 2), (652, .aload_n 2, 1), (653, .aload_n 0, 1), (654, .iload 4, 2), (656, .iconst 1, 1), (657, .iadd, 1), (658, .iaload, 1), (659, .invokevirtual 109, 3), (662, .istore 6, 2), (664, .aload_n 2, 1), (665, .invokevirtual 74, 3), (668, .iload 5, 2), (670, .if_icmp .eq 5, 3), (673, .iconst 0, 1), (674, .ireturn, 1), (675, .iload 5, 2), (677, .ifCond .ne 15, 3), (680, .aload_n 3, 1), (681, .iconst 0, 1), (682, .laload, 1), (683, .iload 6, 2), (685, .i2l, 1), (686, .lcmp, 1), (687, .ifCond .eq 5, 3), (690, .iconst 0, 1), (691, .ireturn, 1), (692, .goto 194, 3)]
def i_LA9 : Nat → Option (Instr × Nat) := am_find q_LA9
theorem d_LA9_639 : decode code 639 = .ok (.aload_n 1, 1) := by decide +kernel
theorem d_LA9_640 : decode code 640 = .ok (.aload_n 0, 1) := by decide +kernel
theorem d_LA9_641 : decode code 641 = .ok (.iload 4, 2) := by decide +kernel
theorem d_LA9_643 : decode code 643 = .ok (.iconst 1, 1) := by decide +kernel
theorem d_LA9_644 : decode code 644 = .ok (.iadd, 1) := by decide +kernel
theorem d_LA9_645 : decode code 645 = .ok (.iaload, 1) := by decide +kernel
theorem d_LA9_646 : decode code 646 = .ok (.aload_n 3, 1) := by decide +kernel
theorem d_LA9_647 : decode code 647 = .ok (.invokestatic 107, 3) := by decide +kernel
theorem d_LA9_650 : decode code 650 = .ok (.istore 5, 2) := by decide +kernel
theorem d_LA9_652 : decode code 652 = .ok (.aload_n 2, 1) := by decide +kernel
theorem d_LA9_653 : decode code 653 = .ok (.aload_n 0, 1) := by decide +kernel
theorem d_LA9_654 : decode code 654 = .ok (.iload 4, 2) := by decide +kernel
theorem d_LA9_656 : decode code 656 = .ok (.iconst 1, 1) := by decide +kernel
theorem d_LA9_657 : decode code 657 = .ok (.iadd, 1) := by decide +kernel
theorem d_LA9_658 : decode code 658 = .ok (.iaload, 1) := by decide +kernel
theorem d_LA9_659 : decode code 659 = .ok (.invokevirtual 109, 3) := by decide +kernel
theorem d_LA9_662 : decode code 662 = .ok (.istore 6, 2) := by decide +kernel
theorem d_LA9_664 : decode code 664 = .ok (.aload_n 2, 1) := by decide +kernel
theorem d_LA9_665 : decode code 665 = .ok (.invokevirtual 74, 3) := by decide +kernel
theorem d_LA9_668 : decode code 668 = .ok (.iload 5, 2) := by decide +kernel
theorem d_LA9_670 : decode code 670 = .ok (.if_icmp .eq 5, 3) := by decide +kernel
theorem d_LA9_673 : decode code 673 = .ok (.iconst 0, 1) := by decide +kernel
theorem d_LA9_674 : decode code 674 = .ok (.ireturn, 1) := by decide +kernel
theorem d_LA9_675 : decode code 675 = .ok (.iload 5, 2) := by decide +kernel
theorem d_LA9_677 : decode code 677 = .ok (.ifCond .ne 15, 3) := by decide +kernel
theorem d_LA9_680 : decode code 680 = .ok (.aload_n 3, 1) := by decide +kernel
theorem d_LA9_681 : decode code 681 = .ok (.iconst 0, 1) := by decide +kernel
theorem d_LA9_682 : decode code 682 = .ok (.laload, 1) := by decide +kernel
theorem d_LA9_683 : decode code 683 = .ok (.iload 6, 2) := by decide +kernel
theorem d_LA9_685 : decode code 685 = .ok (.i2l, 1) := by decide +kernel
theorem d_LA9_686 : decode code 686 = .ok (.lcmp, 1) := by decide +kernel
theorem d_LA9_687 : decode code 687 = .ok (.ifCond .eq 5, 3) := by decide +kernel
theorem d_LA9_690 : decode code 690 = .ok (.iconst 0, 1) := by decide +kernel
theorem d_LA9_691 : decode code 691 = .ok (.ireturn, 1) := by decide +kernel
theorem d_LA9_692 : decode code 692 = .ok (.goto 194, 3) := by decide +kernel
theorem d_LA9 : ∀ z ∈ q_LA9, decode code z.1 = .ok z.2 := List.forall_mem_cons.mpr ⟨d_LA9_639, List.forall_mem_cons.mpr ⟨d_LA9_640, List.forall_mem_cons.mpr ⟨d_LA9_641, List.forall_mem_cons.mpr ⟨d_LA9_643, List.forall_mem_cons.mpr ⟨d_LA9_644, List.forall_mem_cons.mpr ⟨d_LA9_645, List.forall_mem_cons.mpr ⟨d_LA9_646, List.forall_mem_cons.mpr ⟨d_LA9_647, List.forall_mem_cons.mpr ⟨d_LA9_650, List.forall_mem_cons.mpr ⟨d_LA9_652, List.forall_mem_cons.mpr ⟨d_LA9_653, List.forall_mem_cons.mpr ⟨d_LA9_654, List.forall_mem_cons.mpr ⟨d_LA9_656, List.forall_mem_cons.mpr ⟨d_LA9_657, List.forall_mem_cons.mpr ⟨d_LA9_658, List.forall_mem_cons.mpr ⟨d_LA9_659, List.forall_mem_cons.mpr ⟨d_LA9_662, List.forall_mem_cons.mpr ⟨d_LA9_664, List.forall_mem_cons.mpr ⟨d_LA9_665, List.forall_mem_cons.mpr ⟨d_LA9_668, List.forall_mem_cons.mpr ⟨d_LA9_670, List.forall_mem_cons.mpr ⟨d_LA9_673, List.forall_mem_cons.mpr ⟨d_LA9_674, List.forall_mem_cons.mpr ⟨d_LA9_675, List.forall_mem_cons.mpr ⟨d_LA9_677, List.forall_mem_cons.mpr ⟨d_LA9_680, List.forall_mem_cons.mpr ⟨d_LA9_681, List.forall_mem_cons.mpr ⟨d_LA9_682, List.forall_mem_cons.mpr ⟨d_LA9_683, List.forall_mem_cons.mpr ⟨d_LA9_685, List.forall_mem_cons.mpr ⟨d_LA9_686, List.forall_mem_cons.mpr ⟨d_LA9_687, List.forall_mem_cons.mpr ⟨d_LA9_690, List.forall_mem_cons.mpr ⟨d_LA9_691, List.forall_mem_cons.mpr ⟨d_LA9_692, fun _ h => absurd h List.not_mem_nil⟩⟩⟩⟩⟩⟩⟩⟩⟩⟩⟩⟩⟩⟩⟩⟩⟩⟩⟩⟩⟩⟩⟩⟩⟩⟩⟩⟩⟩⟩⟩⟩⟩⟩⟩
theorem i_LA9_ok : ∀ pc i n, i_LA9 pc = some (i, n) → decode code pc = .ok (i, n) := fun pc i n h => d_LA9 (pc, i, n) (am_find_mem h)
theorem i_LA9_639 : i_LA9 639 = some (.aload_n 1, 1) := rfl
theorem i_LA9_640 : i_LA9 640 = some (.aload_n 0, 1) := rfl
theorem i_LA9_641 : i_LA9 641 = some (.iload 4, 2) := rfl
theorem i_LA9_643 : i_LA9 643 = some (.iconst 1, 1) := rfl
theorem i_LA9_644 : i_LA9 644 = some (.iadd, 1) := rfl
theorem i_LA9_645 : i_LA9 645 = some (.iaload, 1) := rfl
theorem i_LA9_646 : i_LA9 646 = some (.aload_n 3, 1) := rfl
theorem i_LA9_647 : i_LA9 647 = some (.invokestatic 107, 3) := rfl
theorem i_LA9_650 : i_LA9 650 = some (.istore 5, 2) := rfl
theorem i_LA9_652 : i_LA9 652 = some (.aload_n 2, 1) := rfl
theorem i_LA9_653 : i_LA9 653 = some (.aload_n 0, 1) := rfl
theorem i_LA9_654 : i_LA9 654 = some (.iload 4, 2) := rfl
theorem i_LA9_656 : i_LA9 656 = some (.iconst 1, 1) := rfl
theorem i_LA9_657 : i_LA9 657 = some (.iadd, 1) := rfl
theorem i_LA9_658 : i_LA9 658 = some (.iaload, 1) := rfl
theorem i_LA9_659 : i_LA9 659 = some (.invokevirtual 109, 3) := rfl
theorem i_LA9_662 : i_LA9 662 = some (.istore 6, 2) := rfl
theorem i_LA9_664 : i_LA9 664 = some (.aload_n 2, 1) := rfl
theorem i_LA9_665 : i_LA9 665 = some (.invokevirtual 74, 3) := rfl
theorem i_LA9_668 : i_LA9 668 = some (.iload 5, 2) := rfl
theorem i_LA9_670 : i_LA9 670 = some (.if_icmp .eq 5, 3) := rfl
theorem i_LA9_673 : i_LA9 673 = some (.iconst 0, 1) := rfl
theorem i_LA9_674 : i_LA9 674 = some (.ireturn, 1) := rfl
theorem i_LA9_675 : i_LA9 675 = some (.iload 5, 2) := rfl
theorem i_LA9_677 : i_LA9 677 = some (.ifCond .ne 15, 3) := rfl
theorem i_LA9_680 : i_LA9 680 = some (.aload_n 3, 1) := rfl
theorem i_LA9_681 : i_LA9 681 = some (.iconst 0, 1) := rfl
theorem i_LA9_682 : i_LA9 682 = some (.laload, 1) := rfl
theorem i_LA9_683 : i_LA9 683 = some (.iload 6, 2) := rfl
theorem i_LA9_685 : i_LA9 685 = some (.i2l, 1) := rfl
theorem i_LA9_686 : i_LA9 686 = some (.lcmp, 1) := rfl
theorem i_LA9_687 : i_LA9 687 = some (.ifCond .eq 5, 3) := rfl
theorem i_LA9_690 : i_LA9 690 = some (.iconst 0, 1) := rfl
theorem i_LA9_691 : i_LA9 691 = some (.ireturn, 1) := rfl
theorem i_LA9_692 : i_LA9 692 = some (.goto 194, 3) := rfl
def q_LA10 : List (Nat × Instr × Nat) := [(695, .aload_n 1, 1), (696, .aload_n 0, 1), (697, .iload 4, 2), (699, .iconst 1, 1), (700, .iadd, 1), (701, .iaload, 1), (702, .aload_n 0, 1), (703, .iload 4, 2), (705, .iconst 2, 1), (706, .iadd, 1), (707, .iaload, 1), (708, .aload_n 3, 1), (709, .invokestatic 110, 3), (712, .istore 5, 2), (714, .aload_n 2, 1), (715, .aload_n 0, 1), (716, .iload 4, 2), (718, .iconst 1, 1), (719, .iadd, 1), (720, .iaload, 1), (721, .aload_n 0, 1), (722, .iload 4, 2), (724, .iconst 2, 1), (725, .iadd, 1), (726, .iaload, 1), (727, .invokevirtual 112, 3), (730, .istore 6, 2), (732, .aload_n 2, 1), (733, .invokevirtual 74, 3), (736, .iload 5, 2), (738, .if_icmp .eq 5, 3), (741, .iconst 0, 1), (742, .ireturn, 1), (743, .iload 5, 2), (745, .ifCond .ne 15, 3), (748, .aload_n 3, 1), (749, .iconst 0, 1), (750, .laload, 1), (751, .iload 6, 2), (753, .i2l, 1), (754, .lcmp, 1), (755, .ifCond .eq 5, 3), (758, .iconst 0, 1), (759, .ireturn, 1), (760, .goto 126, 3)]
def i_LA10 : Nat → Option (Instr × Nat) := am_find q_LA10
theorem d_LA10_695 : decode code 695 = .ok (.aload_n 1, 1) := by decide +kernel
theorem d_LA10_696 : decode code 696 = .ok (.aload_n 0, 1) := by decide +kernel
theorem d_LA10_697 : decode code 697 = .ok (.iload 4, 2) := by decide +kernel
theorem d_LA10_699 : decode code 699 = .ok (.iconst 1, 1) := by decide +kernel
theorem d_LA10_700 : decode code 700 = .ok (.iadd, 1) := by decide +kernel
theorem d_LA10_701 : decode code 701 = .ok (.iaload, 1) := by decide +kernel
theorem d_LA10_702 : decode code 702 = .ok (.aload_n 0, 1) := by decide +kernel
theorem d_LA10_703 : decode code 703 = .ok (.iload 4, 2) := by decide +kernel
theorem d_LA10_705 : decode code 705 = .ok (.iconst 2, 1) := by decide +kernel
theorem d_LA10_706 : decode code 706 = .ok (.iadd, 1) := by decide +kernel
theorem d_LA10_707 : decode code 707 = .ok (.iaload, 1) := by decide +kernel
theorem d_LA10_708 : decode code 708 = .ok (.aload_n 3, 1) := by decide +kernel
theorem d_LA10_709 : decode code 709 = .ok (.invokestatic 110, 3) := by decide +kernel
theorem d_LA10_712 : decode code 712 = .ok (.istore 5, 2) := by decide +kernel
theorem d_LA10_714 : decode code 714 = .ok (.aload_n 2, 1) := by decide +kernel
theorem d_LA10_715 : decode code 715 = .ok (.aload_n 0, 1) := by decide +kernel
theorem d_LA10_716 : decode code 716 = .ok (.iload 4, 2) := by decide +kernel
theorem d_LA10_718 : decode code 718 = .ok (.iconst 1, 1) := by decide +kernel
theorem d_LA10_719 : decode code 719 = .ok (.iadd, 1) := by decide +kernel
theorem d_LA10_720 : decode code 720 = .ok (.iaload, 1) := by decide +kernel
theorem d_LA10_721 : decode code 721 = .ok (.aload_n 0, 1) := by decide +kernel
theorem d_LA10_722 : decode code 722 = .ok (.iload 4, 2) := by decide +kernel
theorem d_LA10_724 : decode code 724 = .ok (.iconst 2, 1) := by decide +kernel
theorem d_LA10_725 : decode code 725 = .ok (.iadd, 1) := by decide +kernel
theorem d_LA10_726 : decode code 726 = .ok (.iaload, 1) := by decide +kernel
theorem d_LA10_727 : decode code 727 = .ok (.invokevirtual 112, 3) := by decide +kernel
theorem d_LA10_730 : decode code 730 = .ok (.istore 6, 2) := by decide +kernel
theorem d_LA10_732 : decode code 732 = .ok (.aload_n 2, 1) := by decide +kernel
theorem d_LA10_733 : decode code 733 = .ok (.invokevirtual 74, 3) := by decide +kernel
theorem d_LA10_736 : decode code 736 = .ok (.iload 5, 2) := by decide +kernel
theorem d_LA10_738 : decode code 738 = .ok (.if_icmp .eq 5, 3) := by decide +kernel
theorem d_LA10_741 : decode code 741 = .ok (.iconst 0, 1) := by decide +kernel
theorem d_LA10_742 : decode code 742 = .ok (.ireturn, 1) := by decide +kernel
theorem d_LA10_743 : decode code 743 = .ok (.iload 5, 2) := by decide +kernel
theorem d_LA10_745 : decode code 745 = .ok (.ifCond .ne 15, 3) := by decide +kernel
theorem d_LA10_748 : decode code 748 = .ok (.aload_n 3, 1) := by decide +kernel
theorem d_LA10_749 : decode code 749 = .ok (.iconst 0, 1) := by decide +kernel
theorem d_LA10_750 : decode code 750 = .ok (.laload, 1) := by decide +kernel
theorem d_LA10_751 : decode code 751 = .ok (.iload 6, 2) := by decide +kernel
theorem d_LA10_753 : decode code 753 = .ok (.i2l, 1) := by decide +kernel
theorem d_LA10_754 : decode code 754 = .ok (.lcmp, 1) := by decide +kernel
theorem d_LA10_755 : decode code 755 = .ok (.ifCond .eq 5, 3) := by decide +kernel
theorem d_LA10_758 : decode code 758 = .ok (.iconst 0, 1) := by decide +kernel
theorem d_LA10_759 : decode code 759 = .ok (.ireturn, 1) := by decide +kernel
theorem d_LA10_760 : decode code 760 = .ok (.goto 126, 3) := by decide +kernel
theorem d_LA10 : ∀ z ∈ q_LA10, decode code z.1 = .ok z.2 := List.forall_mem_cons.mpr ⟨d_LA10_695, List.forall_mem_cons.mpr ⟨d_LA10_696, List.forall_mem_cons.mpr ⟨d_LA10_697, List.forall_mem_cons.mpr ⟨d_LA10_699, List.forall_mem_cons.mpr ⟨d_LA10_700, List.forall_mem_cons.mpr ⟨d_LA10_701, List.forall_mem_cons.mpr ⟨d_LA10_702, List.forall_mem_cons.mpr ⟨d_LA10_703, List.forall_mem_cons.mpr ⟨d_LA10_705, List.forall_mem_cons.mpr ⟨d_LA10_706, List.forall_mem_cons.mpr ⟨d_LA10_707, List.forall_mem_cons.mpr ⟨d_LA10_708, List.forall_mem_cons.mpr ⟨d_LA10_709, List.forall_mem_cons.mpr ⟨d_LA10_712, List.forall_mem_cons.mpr ⟨d_LA10_714, List.forall_mem_cons.mpr ⟨d_LA10_715, List.forall_mem_cons.mpr ⟨d_LA10_716, List.forall_mem_cons.mpr ⟨d_LA10_718, List.forall_mem_cons.mpr ⟨d_LA10_719, List.forall_mem_cons.mpr ⟨d_LA10_720, List.forall_mem_cons.mpr ⟨d_LA10_721, List.forall_mem_cons.mpr ⟨d_LA10_722, List.forall_mem_cons.mpr ⟨d_LA10_724, List.forall_mem_cons.mpr ⟨d_LA10_725, List.forall_mem_cons.mpr ⟨d_LA10_726, List.forall_mem_cons.mpr ⟨d_LA10_727, List.forall_mem_cons.mpr ⟨d_LA10_730, List.forall_mem_cons.mpr ⟨d_LA10_732, List.forall_mem_cons.mpr ⟨d_LA10_733, List.forall_mem_cons.mpr ⟨d_LA10_736, List.forall_mem_cons.mpr ⟨d_LA10_738, List.forall_mem_cons.mpr ⟨d_LA10_741, List.forall_mem_cons.mpr ⟨d_LA10_742, List.forall_mem_cons.mpr ⟨d_LA10_743, List.forall_mem_cons.mpr ⟨d_LA10_745, List.forall_mem_cons.mpr ⟨d_LA10_748, List.forall_mem_cons.mpr ⟨d_LA10_749, List.forall_mem_cons.mpr ⟨d_LA10_750, List.forall_mem_cons.mpr ⟨d_LA10_751, List.forall_mem_cons.mpr ⟨d_LA10_753, List.forall_mem_cons.mpr ⟨d_LA10_754, List.forall_mem_cons.mpr ⟨d_LA10_755, List.forall_mem_cons.mpr ⟨d_LA10_758, List.forall_mem_cons.mpr ⟨d_LA10_759, List.forall_mem_cons.mpr ⟨d_LA10_760, fun _ h => absurd h List.not_mem_nil⟩⟩⟩⟩⟩⟩⟩⟩⟩⟩⟩⟩⟩⟩⟩⟩⟩⟩⟩⟩⟩⟩⟩⟩⟩⟩⟩⟩⟩⟩⟩⟩⟩⟩⟩⟩⟩⟩⟩⟩⟩⟩⟩⟩⟩
theorem i_LA10_ok : ∀ pc i n, i_LA10 pc = some (i, n) → decode code pc = .ok (i, n) := fun pc i n h => d_LA10 (pc, i, n) (am_find_mem h)
theorem i_LA10_695 : i_LA10 695 = some (.aload_n 1, 1) := rfl
theorem i_LA10_696 : i_LA10 696 = some (.aload_n 0, 1) := rfl
theorem i_LA10_697 : i_LA10 697 = some (.iload 4, 2) := rfl
theorem i_LA10_699 : i_LA10 699 = some (.iconst 1, 1) := rfl
theorem i_LA10_700 : i_LA10 700 = some (.iadd, 1) := rfl
theorem i_LA10_701 : i_LA10 701 = some (.iaload, 1) := rfl
theorem i_LA10_702 : i_LA10 702 = some (.aload_n 0, 1) := rfl
theorem i_LA10_703 : i_LA10 703 = some (.iload 4, 2) := rfl
theorem i_LA10_705 : i_LA10 705 = some (.iconst 2, 1) := rfl
theorem i_LA10_706 : i_LA10 706 = some (.iadd, 1) := rfl
theorem i_LA10_707 : i_LA10 707 = some (.iaload, 1) := rfl
theorem i_LA10_708 : i_LA10 708 = some (.aload_n 3, 1) := rfl
theorem i_LA10_709 : i_LA10 709 = some (.invokestatic 110, 3) := rfl
theorem i_LA10_712 : i_LA10 712 = some (.istore 5, 2) := rfl
theorem i_LA10_714 : i_LA10 714 = some (.aload_n 2, 1) := rfl
theorem i_LA10_715 : i_LA10 715 = some (.aload_n 0, 1) := rfl
theorem i_LA10_716 : i_LA10 716 = some (.iload 4, 2) := rfl
theorem i_LA10_718 : i_LA10 718 = some (.iconst 1, 1) := rfl
theorem i_LA10_719 : i_LA10 719 = some (.iadd, 1) := rfl
theorem i_LA10_720 : i_LA10 720 = some (.iaload, 1) := rfl
theorem i_LA10_721 : i_LA10 721 = some (.aload_n 0, 1) := rfl
theorem i_LA10_722 : i_LA10 722 = some (.iload 4, 2) := rfl
theorem i_LA10_724 : i_LA10 724 = some (.iconst 2, 1) := rfl
theorem i_LA10_725 : i_LA10 725 = some (.iadd, 1) := rfl
theorem i_LA10_726 : i_LA10 726 = some (.iaload, 1) := rfl
theorem i_LA10_727 : i_LA10 727 = some (.invokevirtual 112, 3) := rfl
theorem i_LA10_730 : i_LA10 730 = some (.istore 6, 2) := rfl
theorem i_LA10_732 : i_LA10 732 = some (.aload_n 2, 1) := rfl
theorem i_LA10_733 : i_LA10 733 = some (.invokevirtual 74, 3) := rfl
theorem i_LA10_736 : i_LA10 736 = some (.iload 5, 2) := rfl
theorem i_LA10_738 : i_LA10 738 = some (.if_icmp .eq 5, 3) := rfl
theorem i_LA10_741 : i_LA10 741 = some (.iconst 0, 1) := rfl
theorem i_LA10_742 : i_LA10 742 = some (.ireturn, 1) := rfl
theorem i_LA10_743 : i_LA10 743 = some (.iload 5, 2) := rfl
theorem i_LA10_745 : i_LA10 745 = some (.ifCond .ne 15, 3) := rfl
theorem i_LA10_748 : i_LA10 748 = some (.aload_n 3, 1) := rfl
theorem i_LA10_749 : i_LA10 749 = some (.iconst 0, 1) := rfl
theorem i_LA10_750 : i_LA10 750 = some (.laload, 1) := rfl
theorem i_LA10_751 : i_LA10 751 = some (.iload 6, 2) := rfl
theorem i_LA10_753 : i_LA10 753 = some (.i2l, 1) := rfl
theorem i_LA10_754 : i_LA10 754 = some (.lcmp, 1) := rfl
theorem i_LA10_755 : i_LA10 755 = some (.ifCond .eq 5, 3) := rfl
theorem i_LA10_758 : i_LA10 758 = some (.iconst 0, 1) := rfl
theorem i_LA10_759 : i_LA10 759 = some (.ireturn, 1) := rfl
theorem i_LA10_760 : i_LA10 760 = some (.goto 126, 3) := rfl
def q_LA11 : List (Nat × Instr × Nat) := [(763, .aload_n 1, 1), (764, .aload_n 0, 1), (765, .iload 4, 2), (767, .iconst 1, 1), (768, .iadd, 1), (769, .iaload, 1), (770, .aload_n 3, 1), (771, .invokestatic 113, 3), (774, .istore 5, 2), (776, .aload_n 2, 1), (777, .aload_n 0, 1), (778, .iload 4, 2), (780, .iconst 1, 1), (781, .iadd, 1), (782, .iaload, 1), (783, .invokevirtual 115, 3), (786, .istore 6, 2), (788, .aload_n 2, 1), (789, .invokevirtual 74, 3), (792, .iload 5, 2), (794, .if_icmp .eq 5, 3), (797, .iconst 0, 1), (798, .ireturn, 1), (799, .iload 5, 2), (801, .ifCond .ne 15, 3), (804, .aload_n 3, 1), (805, .iconst 0, 1), (806, .laload, 1), (807, .iload 6, 2), (809, .i2l, 1), (810, .lcmp, 1), (811, .ifCond .eq 5, 3), (814, .iconst 0, 1), (815, .ireturn, 1), (816, .goto 70, 3)]
def i_LA11 : Nat → Option (Instr × Nat) := am_find q_LA11
theorem d_LA11_763 : decode code 763 = .ok (.aload_n 1, 1) := by decide +kernel
theorem d_LA11_764 : decode code 764 = .ok (.aload_n 0, 1) := by decide +kernel
theorem d_LA11_765 : decode code 765 = .ok (.iload 4, 2) := by decide +kernel
theorem d_LA11_767 : decode code 767 = .ok (.iconst 1, 1) := by decide +kernel
theorem d_LA11_768 : decode code 768 = .ok (.iadd, 1) := by decide +kernel
theorem d_LA11_769 : decode code 769 = .ok (.iaload, 1) := by decide +kernel
theorem d_LA11_770 : decode code 770 = .ok (.aload_n 3, 1) := by decide +kernel
theorem d_LA11_771 : decode code 771 = .ok (.invokestatic 113, 3) := by decide +kernel
theorem d_LA11_774 : decode code 774 = .ok (.istore 5, 2) := by decide +kernel
theorem d_LA11_776 : decode code 776 = .ok (.aload_n 2, 1) := by decide +kernel
theorem d_LA11_777 : decode code 777 = .ok (.aload_n 0, 1) := by decide +kernel
theorem d_LA11_778 : decode code 778 = .ok (.iload 4, 2) := by decide +kernel
theorem d_LA11_780 : decode code 780 = .ok (.iconst 1, 1) := by decide +kernel
theorem d_LA11_781 : decode code 781 = .ok (.iadd, 1) := by decide +kernel
theorem d_LA11_782 : decode code 782 = .ok (.iaload, 1) := by decide +kernel
theorem d_LA11_783 : decode code 783 = .ok (.invokevirtual 115, 3) := by decide +kernel
theorem d_LA11_786 : decode code 786 = .ok (.istore 6, 2) := by decide +kernel
theorem d_LA11_788 : decode code 788 = .ok (.aload_n 2, 1) := by decide +kernel
theorem d_LA11_789 : decode code 789 = .ok (.invokevirtual 74, 3) := by decide +kernel
theorem d_LA11_792 : decode code 792 = .ok (.iload 5, 2) := by decide +kernel
theorem d_LA11_794 : decode code 794 = .ok (.if_icmp .eq 5, 3) := by decide +kernel
theorem d_LA11_797 : decode code 797 = .ok (.iconst 0, 1) := by decide +kernel
theorem d_LA11_798 : decode code 798 = .ok (.ireturn, 1) := by decide +kernel
theorem d_LA11_799 : decode code 799 = .ok (.iload 5, 2) := by decide +kernel
theorem d_LA11_801 : decode code 801 = .ok (.ifCond .ne 15, 3) := by decide +kernel
theorem d_LA11_804 : decode code 804 = .ok (.aload_n 3, 1) := by decide +kernel
theorem d_LA11_805 : decode code 805 = .ok (.iconst 0, 1) := by decide +kernel
theorem d_LA11_806 : decode code 806 = .ok (.laload, 1) := by decide +kernel
theorem d_LA11_807 : decode code 807 = .ok (.iload 6, 2) := by decide +kernel
theorem d_LA11_809 : decode code 809 = .ok (.i2l, 1) := by decide +kernel
theorem d_LA11_810 : decode code 810 = .ok (.lcmp, 1) := by decide +kernel
theorem d_LA11_811 : decode code 811 = .ok (.ifCond .eq 5, 3) := by decide +kernel
theorem d_LA11_814 : decode code 814 = .ok (.iconst 0, 1) := by decide +kernel
theorem d_LA11_815 : decode code 815 = .ok (.ireturn, 1) := by decide +kernel
theorem d_LA11_816 : decode code 816 = .ok (.goto 70, 3) := by decide +kernel
theorem d_LA11 : ∀ z ∈ q_LA11, decode code z.1 = .ok z.2 := List.forall_mem_cons.mpr ⟨d_LA11_763, List.forall_mem_cons.mpr ⟨d_LA11_764, List.forall_mem_cons.mpr ⟨d_LA11_765, List.forall_mem_cons.mpr ⟨d_LA11_767, List.forall_mem_cons.mpr ⟨d_LA11_768, List.forall_mem_cons.mpr ⟨d_LA11_769, List.forall_mem_cons.mpr ⟨d_LA11_770, List.forall_mem_cons.mpr ⟨d_LA11_771, List.forall_mem_cons.mpr ⟨d_LA11_774, List.forall_mem_cons.mpr ⟨d_LA11_776, List.forall_mem_cons.mpr ⟨d_LA11_777, List.forall_mem_cons.mpr ⟨d_LA11_778, List.forall_mem_cons.mpr ⟨d_LA11_780, List.forall_mem_cons.mpr ⟨d_LA11_781, List.forall_mem_cons.mpr ⟨d_LA11_782, List.forall_mem_cons.mpr ⟨d_LA11_783, List.forall_mem_cons.mpr ⟨d_LA11_786, List.forall_mem_cons.mpr ⟨d_LA11_788, List.forall_mem_cons.mpr ⟨d_LA11_789, List.forall_mem_cons.mpr ⟨d_LA11_792, List.forall_mem_cons.mpr ⟨d_LA11_794, List.forall_mem_cons.mpr ⟨d_LA11_797, List.forall_mem_cons.mpr ⟨d_LA11_798, List.forall_mem_cons.mpr ⟨d_LA11_799, List.forall_mem_cons.mpr ⟨d_LA11_801, List.forall_mem_cons.mpr ⟨d_LA11_804, List.forall_mem_cons.mpr ⟨d_LA11_805, List.forall_mem_cons.mpr ⟨d_LA11_806, List.forall_mem_cons.mpr ⟨d_LA11_807, List.forall_mem_cons.mpr ⟨d_LA11_809, List.forall_mem_cons.mpr ⟨d_LA11_810, List.forall_mem_cons.mpr ⟨d_LA11_811, List.forall_mem_cons.mpr ⟨d_LA11_814, List.forall_mem_cons.mpr ⟨d_LA11_815, List.forall_mem_cons.mpr ⟨d_LA11_816, fun _ h => absurd h List.not_mem_nil⟩⟩⟩⟩⟩⟩⟩⟩⟩⟩⟩⟩⟩⟩⟩⟩⟩⟩⟩⟩⟩⟩⟩⟩⟩⟩⟩⟩⟩⟩⟩⟩⟩⟩⟩
theorem i_LA11_ok : ∀ pc i n, i_LA11 pc = some (i, n) → decode code pc = .ok (i, n) := fun pc i n h => d_LA11 (pc, i, n) (am_find_mem h)
theorem i_LA11_763 : i_LA11 763 = some (.aload_n 1, 1) := rfl
theorem i_LA11_764 : i_LA11 764 = some (.aload_n 0, 1) := rfl
theorem i_LA11_765 : i_LA11 765 = some (.iload 4, 2) := rfl
theorem i_LA11_767 : i_LA11 767 = some (.iconst 1, 1) := rfl
theorem i_LA11_768 : i_LA11 768 = some (.iadd, 1) := rfl
theorem i_LA11_769 : i_LA11 769 = some (.iaload, 1) := rfl
theorem i_LA11_770 : i_LA11 770 = some (.aload_n 3, 1) := rfl
theorem i_LA11_771 : i_LA11 771 = some (.invokestatic 113, 3) := rfl
theorem i_LA11_774 : i_LA11 774 = some (.istore 5, 2) := rfl
theorem i_LA11_776 : i_LA11 776 = some (.aload_n 2, 1) := rfl
theorem i_LA11_777 : i_LA11 777 = some (.aload_n 0, 1) := rfl
theorem i_LA11_778 : i_LA11 778 = some (.iload 4, 2) := rfl
theorem i_LA11_780 : i_LA11 780 = some (.iconst 1, 1) := rfl
theorem i_LA11_781 : i_LA11 781 = some (.iadd, 1) := rfl
theorem i_LA11_782 : i_LA11 782 = some (.iaload, 1) := rfl
theorem i_LA11_783 : i_LA11 783 = some (.invokevirtual 115, 3) := rfl
theorem i_LA11_786 : i_LA11 786 = some (.istore 6, 2) := rfl
theorem i_LA11_788 : i_LA11 788 = some (.aload_n 2, 1) := rfl
theorem i_LA11_789 : i_LA11 789 = some (.invokevirtual 74, 3) := rfl
theorem i_LA11_792 : i_LA11 792 = some (.iload 5, 2) := rfl
theorem i_LA11_794 : i_LA11 794 = some (.if_icmp .eq 5, 3) := rfl
theorem i_LA11_797 : i_LA11 797 = some (.iconst 0, 1) := rfl
theorem i_LA11_798 : i_LA11 798 = some (.ireturn, 1) := rfl
theorem i_LA11_799 : i_LA11 799 = some (.iload 5, 2) := rfl
theorem i_LA11_801 : i_LA11 801 = some (.ifCond .ne 15, 3) := rfl
theorem i_LA11_804 : i_LA11 804 = some (.aload_n 3, 1) := rfl
theorem i_LA11_805 : i_LA11 805 = some (.iconst 0, 1) := rfl
theorem i_LA11_806 : i_LA11 806 = some (.laload, 1) := rfl
theorem i_LA11_807 : i_LA11 807 = some (.iload 6, 2) := rfl
theorem i_LA11_809 : i_LA11 809 = some (.i2l, 1) := rfl
theorem i_LA11_810 : i_LA11 810 = some (.lcmp, 1) := rfl
theorem i_LA11_811 : i_LA11 811 = some (.ifCond .eq 5, 3) := rfl
theorem i_LA11_814 : i_LA11 814 = some (.iconst 0, 1) := rfl
theorem i_LA11_815 : i_LA11 815 = some (.ireturn, 1) := rfl
theorem i_LA11_816 : i_LA11 816 = some (.goto 70, 3) := rfl
def q_LA12 : List (Nat × Instr × Nat) := [(819, .aload_n 1, 1), (820, .aload_n 0, 1), (821, .iload 4, 2), (823, .iconst 1, 1), (824, .iadd, 1), (825, .iaload, 1), (826, .aload_n 3, 1), (827, .invokestatic 116, 3), (830, .istore 5, 2), (832, .aload_n 2, 1), (833, .aload_n 0, 1), (834, .iload 4, 2), (836, .iconst 1, 1), (837, .iadd, 1), (838, .iaload, 1), (839, .invokevirtual 118, 3), (842, .istore 6, 2), (844, .aload_n 2, 1), (845, .invokevirtual 74, 3), (848, .iload 5, 2), (850, .if_icmp .eq 5, 3), (853, .iconst 0, 1), (854, .ireturn, 1), (855, .iload 5, 2), (857, .ifCond .ne 15, 3), (860, .aload_n 3, 1), (861, .iconst 0, 1), (862, .laload, 1), (863, .iload 6, 2), (865, .i2l, 1), (866, .lcmp, 1), (867, .ifCond .eq 5, 3), (870, .iconst 0, 1), (871, .ireturn, 1), (872, .goto 14, 3)]
def i_LA12 : Nat → Option (Instr × Nat) := am_find q_LA12
theorem d_LA12_819 : decode code 819 = .ok (.aload_n 1, 1) := by decide +kernel
theorem d_LA12_820 : decode code 820 = .ok (.aload_n 0, 1) := by decide +kernel
theorem d_LA12_821 : decode code 821 = .ok (.iload 4, 2) := by decide +kernel
theorem d_LA12_823 : decode code 823 = .ok (.iconst 1, 1) := by decide +kernel
theorem d_LA12_824 : decode code 824 = .ok (.iadd, 1) := by decide +kernel
theorem d_LA12_825 : decode code 825 = .ok (.iaload, 1) := by decide +kernel
theorem d_LA12_826 : decode code 826 = .ok (.aload_n 3, 1) := by decide +kernel
theorem d_LA12_827 : decode code 827 = .ok (.invokestatic 116, 3) := by decide +kernel
theorem d_LA12_830 : decode code 830 = .ok (.istore 5, 2) := by decide +kernel
theorem d_LA12_832 : decode code 832 = .ok (.aload_n 2, 1) := by decide +kernel
theorem d_LA12_833 : decode code 833 = .ok (.aload_n 0, 1) := by decide +kernel
theorem d_LA12_834 : decode code 834 = .ok (.iload 4, 2) := by decide +kernel
theorem d_LA12_836 : decode code 836 = .ok (.iconst 1, 1) := by decide +kernel
theorem d_LA12_837 : decode code 837 = .ok (.iadd, 1) := by decide +kernel
theorem d_LA12_838 : decode code 838 = .ok (.iaload, 1) := by decide +kernel
theorem d_LA12_839 : decode code 839 = .ok (.invokevirtual 118, 3) := by decide +kernel
theorem d_LA12_842 : decode code 842 = .ok (.istore 6, 2) := by decide +kernel
theorem d_LA12_844 : decode code 844 = .ok (.aload_n 2, 1) := by decide +kernel
theorem d_LA12_845 : decode code 845 = .ok (.invokevirtual 74, 3) := by decide +kernel
theorem d_LA12_848 : decode code 848 = .ok (.iload 5, 2) := by decide +kernel
theorem d_LA12_850 : decode code 850 = .ok (.if_icmp .eq 5, 3) := by decide +kernel
theorem d_LA12_853 : decode code 853 = .ok (.iconst 0, 1) := by decide +kernel
theorem d_LA12_854 : decode code 854 = .ok (.ireturn, 1) := by decide +kernel
theorem d_LA12_855 : decode code 855 = .ok (.iload 5, 2) := by decide +kernel
theorem d_LA12_857 : decode code 857 = .ok (.ifCond .ne 15, 3) := by decide +kernel
theorem d_LA12_860 : decode code 860 = .ok (.aload_n 3, 1) := by decide +kernel
theorem d_LA12_861 : decode code 861 = .ok (.iconst 0, 1) := by decide +kernel
theorem d_LA12_862 : decode code 862 = .ok (.laload, 1) := by decide +kernel
theorem d_LA12_863 : decode code 863 = .ok (.iload 6, 2) := by decide +kernel
theorem d_LA12_865 : decode code 865 = .ok (.i2l, 1) := by decide +kernel
theorem d_LA12_866 : decode code 866 = .ok (.lcmp, 1) := by decide +kernel
theorem d_LA12_867 : decode code 867 = .ok (.ifCond .eq 5, 3) := by decide +kernel
theorem d_LA12_870 : decode code 870 = .ok (.iconst 0, 1) := by decide +kernel
theorem d_LA12_871 : decode code 871 = .ok (.ireturn, 1) := by decide +kernel
theorem d_LA12_872 : decode code 872 = .ok (.goto 14, 3) := by decide +kernel
theorem d_LA12 : ∀ z ∈ q_LA12, decode code z.1 = .ok z.2 := List.forall_mem_cons.mpr ⟨d_LA12_819, List.forall_mem_cons.mpr ⟨d_LA12_820, List.forall_mem_cons.mpr ⟨d_LA12_821, List.forall_mem_cons.mpr ⟨d_LA12_823, List.forall_mem_cons.mpr ⟨d_LA12_824, List.forall_mem_cons.mpr ⟨d_LA12_825, List.forall_mem_cons.mpr ⟨d_LA12_826, List.forall_mem_cons.mpr ⟨d_LA12_827, List.forall_mem_cons.mpr ⟨d_LA12_830, List.forall_mem_cons.mpr ⟨d_LA12_832, List.forall_mem_cons.mpr ⟨d_LA12_833, List.forall_mem_cons.mpr ⟨d_LA12_834, List.forall_mem_cons.mpr ⟨d_LA12_836, List.forall_mem_cons.mpr ⟨d_LA12_837, List.forall_mem_cons.mpr ⟨d_LA12_838, List.forall_mem_cons.mpr ⟨d_LA12_839, List.forall_mem_cons.mpr ⟨d_LA12_842, List.forall_mem_cons.mpr ⟨d_LA12_844, List.forall_mem_cons.mpr ⟨d_LA12_845, List.forall_mem_cons.mpr ⟨d_LA12_848, List.forall_mem_cons.mpr ⟨d_LA12_850, List.forall_mem_cons.mpr ⟨d_LA12_853, List.forall_mem_cons.mpr ⟨d_LA12_854, List.forall_mem_cons.mpr ⟨d_LA12_855, List.forall_mem_cons.mpr ⟨d_LA12_857, List.forall_mem_cons.mpr ⟨d_LA12_860, List.forall_mem_cons.mpr ⟨d_LA12_861, List.forall_mem_cons.mpr ⟨d_LA12_862, List.forall_mem_cons.mpr ⟨d_LA12_863, List.forall_mem_cons.mpr ⟨d_LA12_865, List.forall_mem_cons.mpr ⟨d_LA12_866, List.forall_mem_cons.mpr ⟨d_LA12_867, List.forall_mem_cons.mpr ⟨d_LA12_870, List.forall_mem_cons.mpr ⟨d_LA12_871, List.forall_mem_cons.mpr ⟨d_LA12_872, fun _ h => absurd h List.not_mem_nil⟩⟩⟩⟩⟩⟩⟩⟩⟩⟩⟩⟩⟩⟩⟩⟩⟩⟩⟩⟩⟩⟩⟩⟩⟩⟩⟩⟩⟩⟩⟩⟩⟩⟩⟩
theorem i_LA12_ok : ∀ pc i n, i_LA12 pc = some (i, n) → decode code pc = .ok (i, n) := fun pc i n h => d_LA12 (pc, i, n) (am_find_mem h)
theorem i_LA12_819 : i_LA12 819 = some (.aload_n 1, 1) := rfl
theorem i_LA12_820 : i_LA12 820 = some (.aload_n 0, 1) := rfl
theorem i_LA12_821 : i_LA12 821 = some (.iload 4, 2) := rfl
theorem i_LA12_823 : i_LA12 823 = some (.iconst 1, 1) := rfl
theorem i_LA12_824 : i_LA12 824 = some (.iadd, 1) := rfl
theorem i_LA12_825 : i_LA12 825 = some (.iaload, 1) := rfl
theorem i_LA12_826 : i_LA12 826 = some (.aload_n 3, 1) := rfl
theorem i_LA12_827 : i_LA12 827 = some (.invokestatic 116, 3) := rfl
theorem i_LA12_830 : i_LA12 830 = some (.istore 5, 2) := rfl
theorem i_LA12_832 : i_LA12 832 = some (.aload_n 2, 1) := rfl
theorem i_LA12_833 : i_LA12 833 = some (.aload_n 0, 1) := rfl
theorem i_LA12_834 : i_LA12 834 = some (.iload 4, 2) := rfl
theorem i_LA12_836 : i_LA12 836 = some (.iconst 1, 1) := rfl
theorem i_LA12_837 : i_LA12 837 = some (.iadd, 1) := rfl
theorem i_LA12_838 : i_LA12 838 = some (.iaload, 1) := rfl
theorem i_LA12_839 : i_LA12 839 = some (.invokevirtual 118, 3) := rfl
theorem i_LA12_842 : i_LA12 842 = some (.istore 6, 2) := rfl
theorem i_LA12_844 : i_LA12 844 = some (.aload_n 2, 1) := rfl
theorem i_LA12_845 : i_LA12 845 = some (.invokevirtual 74, 3) := rfl
theorem i_LA12_848 : i_LA12 848 = some (.iload 5, 2) := rfl
theorem i_LA12_850 : i_LA12 850 = some (.if_icmp .eq 5, 3) := rfl
theorem i_LA12_853 : i_LA12 853 = some (.iconst 0, 1) := rfl
theorem i_LA12_854 : i_LA12 854 = some (.ireturn, 1) := rfl
theorem i_LA12_855 : i_LA12 855 = some (.iload 5, 2) := rfl
theorem i_LA12_857 : i_LA12 857 = some (.ifCond .ne 15, 3) := rfl
theorem i_LA12_860 : i_LA12 860 = some (.aload_n 3, 1) := rfl
theorem i_LA12_861 : i_LA12 861 = some (.iconst 0, 1) := rfl
theorem i_LA12_862 : i_LA12 862 = some (.laload, 1) := rfl
theorem i_LA12_863 : i_LA12 863 = some (.iload 6, 2) := rfl
theorem i_LA12_865 : i_LA12 865 = some (.i2l, 1) := rfl
theorem i_LA12_866 : i_LA12 866 = some (.lcmp, 1) := rfl
theorem i_LA12_867 : i_LA12 867 = some (.ifCond .eq 5, 3) := rfl
theorem i_LA12_870 : i_LA12 870 = some (.iconst 0, 1) := rfl
theorem i_LA12_871 : i_LA12 871 = some (.ireturn, 1) := rfl
theorem i_LA12_872 : i_LA12 872 = some (.goto 14, 3) := rfl
def q_LA13 : List (Nat × Instr × Nat) := [(875, .aload_n 1, 1), (876, .invokevirtual 119, 3), (879, .aload_n 2, 1), (880, .invokevirtual 122, 3), (883, .goto 3, 3)]
def i_LA13 : Nat → Option (Instr × Nat) := am_find q_LA13
theorem d_LA13_875 : decode code 875 = .ok (.aload_n 1, 1) := by decide +kernel
theorem d_LA13_876 : decode code 876 = .ok (.invokevirtual 119, 3) := by decide +kernel
theorem d_LA13_879 : decode code 879 = .ok (.aload_n 2, 1) := by decide +kernel
theorem d_LA13_880 : decode code 880 = .ok (.invokevirtual 122, 3) := by decide +kernel
theorem d_LA13_883 : decode code 883 = .ok (.goto 3, 3) := by decide +kernel
theorem d_LA13 : ∀ z ∈ q_LA13, decode code z.1 = .ok z.2 := List.forall_mem_cons.mpr ⟨d_LA13_875, List.forall_mem_cons.mpr ⟨d_LA13_876, List.forall_mem_cons.mpr ⟨d_LA13_879, List.forall_mem_cons.mpr ⟨d_LA13_880, List.forall_mem_cons.mpr ⟨d_LA13_883, fun _ h => absurd h List.not_mem_nil⟩⟩⟩⟩⟩
theorem i_LA13_ok : ∀ pc i n, i_LA13 pc = some (i, n) → decode code pc = .ok (i, n) := fun pc i n h => d_LA13 (pc, i, n) (am_find_mem h)
theorem i_LA13_875 : i_LA13 875 = some (.aload_n 1, 1) := rfl
theorem i_LA13_876 : i_LA13 876 = some (.invokevirtual 119, 3) := rfl
theorem i_LA13_879 : i_LA13 879 = some (.aload_n 2, 1) := rfl
theorem i_LA13_880 : i_LA13 880 = some (.invokevirtual 122, 3) := rfl
theorem i_LA13_883 : i_LA13 883 = some (.goto 3, 3) := rfl
theorem hw_LW_task {R : Room} {s : State} {args : Array Value} {Ts : List Jvm.Cond} (hts : ∀ w ∈ Ts, w.before args s = true) (hW : ∀ w ∈ vw_W, w ∈ Ts) (hR : t_LW_task.frames + 1 ≤ R.frames ∧ 8 + (7 + 11) + t_LW_task.locals ≤ R.locals) : hp_W R s args "ServerDeskLaw" 68 y_LW_task b_LW_task 7 (some .int) h_LW_task w_LW_task t_LW_task 1 6 6 := ⟨⟨rfl, rfl, hR.1, hR.2⟩, hp_pay hts hW c_LW_task, List.mem_cons_self, hts _ (hW _ c_LW_task), hts _ (hW _ (vw_t 0 (by decide +kernel) (by decide +kernel))), by decide +kernel, hp_n (by decide +kernel), hts _ (hW _ (vw_t 372 (by decide +kernel) (by decide +kernel))), hts _ (hW _ (vw_t 373 (by decide +kernel) (by decide +kernel)))⟩
theorem s_LW_73 {R : Room} {s : State} {args : Array Value} {Ts : List Jvm.Cond} (hts : ∀ w ∈ Ts, w.before args s = true) (hW : ∀ w ∈ vw_W, w ∈ Ts) (hN : ∀ w ∈ vw_N, va_Nw w s) (hR : r_MO_task.frames + 1 ≤ R.frames ∧ 8 + (8 + 11) + r_MO_task.locals ≤ R.locals) : am_sV R s args "ServerDeskLaw" "ServerDeskModel" 73 y_MO_task b_MO_task 8 (some .int) w_MO_task r_MO_task 4 := Or.inl ⟨callB_of 4 hts (vw_G hW c_MO_task) rfl rfl rfl (hts _ (hW _ (vw_t 13 (by decide +kernel) (by decide +kernel)))) (hts _ (hW _ (vw_t 946 (by decide +kernel) (by decide +kernel)))) (by decide +kernel) hR, hts _ (hW _ (vw_t 947 (by decide +kernel) (by decide +kernel))), hts _ (hW _ (vw_t 948 (by decide +kernel) (by decide +kernel)))⟩
theorem s_LW_74 {R : Room} {s : State} {args : Array Value} {Ts : List Jvm.Cond} (hts : ∀ w ∈ Ts, w.before args s = true) (hW : ∀ w ∈ vw_W, w ∈ Ts) (hN : ∀ w ∈ vw_N, va_Nw w s) (hR : r_MO_thrown.frames + 1 ≤ R.frames ∧ 8 + (1 + 11) + r_MO_thrown.locals ≤ R.locals) : am_sV R s args "ServerDeskLaw" "ServerDeskModel" 74 y_MO_thrown b_MO_thrown 1 (some .int) w_MO_thrown r_MO_thrown 0 := Or.inl ⟨callB_of 0 hts (vw_G hW c_MO_thrown) rfl rfl rfl (hts _ (hW _ (vw_t 13 (by decide +kernel) (by decide +kernel)))) (hts _ (hW _ (vw_t 942 (by decide +kernel) (by decide +kernel)))) (by decide +kernel) hR, hts _ (hW _ (vw_t 943 (by decide +kernel) (by decide +kernel))), hts _ (hW _ (vw_t 944 (by decide +kernel) (by decide +kernel)))⟩
theorem hw_LW_rule {R : Room} {s : State} {args : Array Value} {Ts : List Jvm.Cond} (hts : ∀ w ∈ Ts, w.before args s = true) (hW : ∀ w ∈ vw_W, w ∈ Ts) (hR : t_LW_rule.frames + 1 ≤ R.frames ∧ 8 + (6 + 11) + t_LW_rule.locals ≤ R.locals) : hp_W R s args "ServerDeskLaw" 77 y_LW_rule b_LW_rule 6 (some .int) h_LW_rule w_LW_rule t_LW_rule 1 6 5 := ⟨⟨rfl, rfl, hR.1, hR.2⟩, hp_pay hts hW c_LW_rule, List.mem_cons_self, hts _ (hW _ c_LW_rule), hts _ (hW _ (vw_t 0 (by decide +kernel) (by decide +kernel))), by decide +kernel, hp_n (by decide +kernel), hts _ (hW _ (vw_t 499 (by decide +kernel) (by decide +kernel))), hts _ (hW _ (vw_t 500 (by decide +kernel) (by decide +kernel)))⟩
theorem s_LW_80 {R : Room} {s : State} {args : Array Value} {Ts : List Jvm.Cond} (hts : ∀ w ∈ Ts, w.before args s = true) (hW : ∀ w ∈ vw_W, w ∈ Ts) (hN : ∀ w ∈ vw_N, va_Nw w s) (hR : r_MO_rule.frames + 1 ≤ R.frames ∧ 8 + (6 + 11) + r_MO_rule.locals ≤ R.locals) : am_sV R s args "ServerDeskLaw" "ServerDeskModel" 80 y_MO_rule b_MO_rule 6 (some .boolean) w_MO_rule r_MO_rule 3 := Or.inl ⟨callB_of 3 hts (vw_G hW c_MO_rule) rfl rfl rfl (hts _ (hW _ (vw_t 13 (by decide +kernel) (by decide +kernel)))) (hts _ (hW _ (vw_t 960 (by decide +kernel) (by decide +kernel)))) (by decide +kernel) hR, hts _ (hW _ (vw_t 961 (by decide +kernel) (by decide +kernel))), hts _ (hW _ (vw_t 962 (by decide +kernel) (by decide +kernel)))⟩
theorem hw_LW_start {R : Room} {s : State} {args : Array Value} {Ts : List Jvm.Cond} (hts : ∀ w ∈ Ts, w.before args s = true) (hW : ∀ w ∈ vw_W, w ∈ Ts) (hR : t_LW_start.frames + 1 ≤ R.frames ∧ 8 + (2 + 11) + t_LW_start.locals ≤ R.locals) : hp_W R s args "ServerDeskLaw" 81 y_LW_start b_LW_start 2 (some .int) h_LW_start w_LW_start t_LW_start 1 6 1 := ⟨⟨rfl, rfl, hR.1, hR.2⟩, hp_pay hts hW c_LW_start, List.mem_cons_self, hts _ (hW _ c_LW_start), hts _ (hW _ (vw_t 0 (by decide +kernel) (by decide +kernel))), by decide +kernel, hp_n (by decide +kernel), hts _ (hW _ (vw_t 543 (by decide +kernel) (by decide +kernel))), hts _ (hW _ (vw_t 544 (by decide +kernel) (by decide +kernel)))⟩
theorem s_LW_84 {R : Room} {s : State} {args : Array Value} {Ts : List Jvm.Cond} (hts : ∀ w ∈ Ts, w.before args s = true) (hW : ∀ w ∈ vw_W, w ∈ Ts) (hN : ∀ w ∈ vw_N, va_Nw w s) (hR : r_MO_start.frames + 1 ≤ R.frames ∧ 8 + (1 + 11) + r_MO_start.locals ≤ R.locals) : am_sV R s args "ServerDeskLaw" "ServerDeskModel" 84 y_MO_start b_MO_start 1 none w_MO_start r_MO_start 0 := Or.inl ⟨callB_of 0 hts (vw_G hW c_MO_start) rfl rfl rfl (hts _ (hW _ (vw_t 13 (by decide +kernel) (by decide +kernel)))) (hts _ (hW _ (vw_t 975 (by decide +kernel) (by decide +kernel)))) (by decide +kernel) hR, hts _ (hW _ (vw_t 976 (by decide +kernel) (by decide +kernel))), hts _ (hW _ (vw_t 977 (by decide +kernel) (by decide +kernel)))⟩
theorem hw_LW_tick {R : Room} {s : State} {args : Array Value} {Ts : List Jvm.Cond} (hts : ∀ w ∈ Ts, w.before args s = true) (hW : ∀ w ∈ vw_W, w ∈ Ts) (hR : t_LW_tick.frames + 1 ≤ R.frames ∧ 8 + (4 + 11) + t_LW_tick.locals ≤ R.locals) : hp_W R s args "ServerDeskLaw" 85 y_LW_tick b_LW_tick 4 (some .int) h_LW_tick w_LW_tick t_LW_tick 1 6 3 := ⟨⟨rfl, rfl, hR.1, hR.2⟩, hp_pay hts hW c_LW_tick, List.mem_cons_self, hts _ (hW _ c_LW_tick), hts _ (hW _ (vw_t 0 (by decide +kernel) (by decide +kernel))), by decide +kernel, hp_n (by decide +kernel), hts _ (hW _ (vw_t 551 (by decide +kernel) (by decide +kernel))), hts _ (hW _ (vw_t 552 (by decide +kernel) (by decide +kernel)))⟩
theorem s_LW_88 {R : Room} {s : State} {args : Array Value} {Ts : List Jvm.Cond} (hts : ∀ w ∈ Ts, w.before args s = true) (hW : ∀ w ∈ vw_W, w ∈ Ts) (hN : ∀ w ∈ vw_N, va_Nw w s) (hR : r_MO_tick.frames + 1 ≤ R.frames ∧ 8 + (4 + 11) + r_MO_tick.locals ≤ R.locals) : am_sV R s args "ServerDeskLaw" "ServerDeskModel" 88 y_MO_tick b_MO_tick 4 (some .int) w_MO_tick r_MO_tick 1 := Or.inl ⟨callB_of 1 hts (vw_G hW c_MO_tick) rfl rfl rfl (hts _ (hW _ (vw_t 13 (by decide +kernel) (by decide +kernel)))) (hts _ (hW _ (vw_t 983 (by decide +kernel) (by decide +kernel)))) (by decide +kernel) hR, hts _ (hW _ (vw_t 984 (by decide +kernel) (by decide +kernel))), hts _ (hW _ (vw_t 985 (by decide +kernel) (by decide +kernel)))⟩
theorem hw_LW_job {R : Room} {s : State} {args : Array Value} {Ts : List Jvm.Cond} (hts : ∀ w ∈ Ts, w.before args s = true) (hW : ∀ w ∈ vw_W, w ∈ Ts) (hR : t_LW_job.frames + 1 ≤ R.frames ∧ 8 + (4 + 11) + t_LW_job.locals ≤ R.locals) : hp_W R s args "ServerDeskLaw" 89 y_LW_job b_LW_job 4 (some .int) h_LW_job w_LW_job t_LW_job 1 6 3 := ⟨⟨rfl, rfl, hR.1, hR.2⟩, hp_pay hts hW c_LW_job, List.mem_cons_self, hts _ (hW _ c_LW_job), hts _ (hW _ (vw_t 0 (by decide +kernel) (by decide +kernel))), by decide +kernel, hp_n (by decide +kernel), hts _ (hW _ (vw_t 637 (by decide +kernel) (by decide +kernel))), hts _ (hW _ (vw_t 638 (by decide +kernel) (by decide +kernel)))⟩
theorem s_LW_91 {R : Room} {s : State} {args : Array Value} {Ts : List Jvm.Cond} (hts : ∀ w ∈ Ts, w.before args s = true) (hW : ∀ w ∈ vw_W, w ∈ Ts) (hN : ∀ w ∈ vw_N, va_Nw w s) (hR : r_MO_job.frames + 1 ≤ R.frames ∧ 8 + (2 + 11) + r_MO_job.locals ≤ R.locals) : am_sV R s args "ServerDeskLaw" "ServerDeskModel" 91 y_MO_job b_MO_job 2 (some .int) w_MO_job r_MO_job 1 := Or.inl ⟨callB_of 1 hts (vw_G hW c_MO_job) rfl rfl rfl (hts _ (hW _ (vw_t 13 (by decide +kernel) (by decide +kernel)))) (hts _ (hW _ (vw_t 1031 (by decide +kernel) (by decide +kernel)))) (by decide +kernel) hR, hts _ (hW _ (vw_t 1032 (by decide +kernel) (by decide +kernel))), hts _ (hW _ (vw_t 1033 (by decide +kernel) (by decide +kernel)))⟩
theorem hw_LW_hard {R : Room} {s : State} {args : Array Value} {Ts : List Jvm.Cond} (hts : ∀ w ∈ Ts, w.before args s = true) (hW : ∀ w ∈ vw_W, w ∈ Ts) (hR : t_LW_hard.frames + 1 ≤ R.frames ∧ 8 + (5 + 11) + t_LW_hard.locals ≤ R.locals) : hp_W R s args "ServerDeskLaw" 92 y_LW_hard b_LW_hard 5 (some .int) h_LW_hard w_LW_hard t_LW_hard 1 6 4 := ⟨⟨rfl, rfl, hR.1, hR.2⟩, hp_pay hts hW c_LW_hard, List.mem_cons_self, hts _ (hW _ c_LW_hard), hts _ (hW _ (vw_t 0 (by decide +kernel) (by decide +kernel))), by decide +kernel, hp_n (by decide +kernel), hts _ (hW _ (vw_t 658 (by decide +kernel) (by decide +kernel))), hts _ (hW _ (vw_t 659 (by decide +kernel) (by decide +kernel)))⟩
theorem s_LW_95 {R : Room} {s : State} {args : Array Value} {Ts : List Jvm.Cond} (hts : ∀ w ∈ Ts, w.before args s = true) (hW : ∀ w ∈ vw_W, w ∈ Ts) (hN : ∀ w ∈ vw_N, va_Nw w s) (hR : r_MO_hard.frames + 1 ≤ R.frames ∧ 8 + (5 + 11) + r_MO_hard.locals ≤ R.locals) : am_sV R s args "ServerDeskLaw" "ServerDeskModel" 95 y_MO_hard b_MO_hard 5 (some .int) w_MO_hard r_MO_hard 2 := Or.inl ⟨callB_of 2 hts (vw_G hW c_MO_hard) rfl rfl rfl (hts _ (hW _ (vw_t 13 (by decide +kernel) (by decide +kernel)))) (hts _ (hW _ (vw_t 1043 (by decide +kernel) (by decide +kernel)))) (by decide +kernel) hR, hts _ (hW _ (vw_t 1044 (by decide +kernel) (by decide +kernel))), hts _ (hW _ (vw_t 1045 (by decide +kernel) (by decide +kernel)))⟩
theorem hw_LW_early {R : Room} {s : State} {args : Array Value} {Ts : List Jvm.Cond} (hts : ∀ w ∈ Ts, w.before args s = true) (hW : ∀ w ∈ vw_W, w ∈ Ts) (hR : t_LW_early.frames + 1 ≤ R.frames ∧ 8 + (4 + 11) + t_LW_early.locals ≤ R.locals) : hp_W R s args "ServerDeskLaw" 96 y_LW_early b_LW_early 4 (some .int) h_LW_early w_LW_early t_LW_early 1 6 3 := ⟨⟨rfl, rfl, hR.1, hR.2⟩, hp_pay hts hW c_LW_early, List.mem_cons_self, hts _ (hW _ c_LW_early), hts _ (hW _ (vw_t 0 (by decide +kernel) (by decide +kernel))), by decide +kernel, hp_n (by decide +kernel), hts _ (hW _ (vw_t 680 (by decide +kernel) (by decide +kernel))), hts _ (hW _ (vw_t 681 (by decide +kernel) (by decide +kernel)))⟩
theorem s_LW_99 {R : Room} {s : State} {args : Array Value} {Ts : List Jvm.Cond} (hts : ∀ w ∈ Ts, w.before args s = true) (hW : ∀ w ∈ vw_W, w ∈ Ts) (hN : ∀ w ∈ vw_N, va_Nw w s) (hR : r_MO_early.frames + 1 ≤ R.frames ∧ 8 + (4 + 11) + r_MO_early.locals ≤ R.locals) : am_sV R s args "ServerDeskLaw" "ServerDeskModel" 99 y_MO_early b_MO_early 4 none w_MO_early r_MO_early 2 := Or.inl ⟨callB_of 2 hts (vw_G hW c_MO_early) rfl rfl rfl (hts _ (hW _ (vw_t 13 (by decide +kernel) (by decide +kernel)))) (hts _ (hW _ (vw_t 1059 (by decide +kernel) (by decide +kernel)))) (by decide +kernel) hR, hts _ (hW _ (vw_t 1060 (by decide +kernel) (by decide +kernel))), hts _ (hW _ (vw_t 1061 (by decide +kernel) (by decide +kernel)))⟩
theorem hw_LW_ended {R : Room} {s : State} {args : Array Value} {Ts : List Jvm.Cond} (hts : ∀ w ∈ Ts, w.before args s = true) (hW : ∀ w ∈ vw_W, w ∈ Ts) (hR : t_LW_ended.frames + 1 ≤ R.frames ∧ 8 + (4 + 11) + t_LW_ended.locals ≤ R.locals) : hp_W R s args "ServerDeskLaw" 100 y_LW_ended b_LW_ended 4 (some .int) h_LW_ended w_LW_ended t_LW_ended 1 6 3 := ⟨⟨rfl, rfl, hR.1, hR.2⟩, hp_pay hts hW c_LW_ended, List.mem_cons_self, hts _ (hW _ c_LW_ended), hts _ (hW _ (vw_t 0 (by decide +kernel) (by decide +kernel))), by decide +kernel, hp_n (by decide +kernel), hts _ (hW _ (vw_t 698 (by decide +kernel) (by decide +kernel))), hts _ (hW _ (vw_t 699 (by decide +kernel) (by decide +kernel)))⟩
theorem s_LW_102 {R : Room} {s : State} {args : Array Value} {Ts : List Jvm.Cond} (hts : ∀ w ∈ Ts, w.before args s = true) (hW : ∀ w ∈ vw_W, w ∈ Ts) (hN : ∀ w ∈ vw_N, va_Nw w s) (hR : r_MO_ended.frames + 1 ≤ R.frames ∧ 8 + (2 + 11) + r_MO_ended.locals ≤ R.locals) : am_sV R s args "ServerDeskLaw" "ServerDeskModel" 102 y_MO_ended b_MO_ended 2 (some .int) w_MO_ended r_MO_ended 1 := Or.inl ⟨callB_of 1 hts (vw_G hW c_MO_ended) rfl rfl rfl (hts _ (hW _ (vw_t 13 (by decide +kernel) (by decide +kernel)))) (hts _ (hW _ (vw_t 1067 (by decide +kernel) (by decide +kernel)))) (by decide +kernel) hR, hts _ (hW _ (vw_t 1068 (by decide +kernel) (by decide +kernel))), hts _ (hW _ (vw_t 1069 (by decide +kernel) (by decide +kernel)))⟩
theorem hw_LW_slack {R : Room} {s : State} {args : Array Value} {Ts : List Jvm.Cond} (hts : ∀ w ∈ Ts, w.before args s = true) (hW : ∀ w ∈ vw_W, w ∈ Ts) (hR : t_LW_slack.frames + 1 ≤ R.frames ∧ 8 + (3 + 11) + t_LW_slack.locals ≤ R.locals) : hp_W R s args "ServerDeskLaw" 103 y_LW_slack b_LW_slack 3 (some .int) h_LW_slack w_LW_slack t_LW_slack 1 6 2 := ⟨⟨rfl, rfl, hR.1, hR.2⟩, hp_pay hts hW c_LW_slack, List.mem_cons_self, hts _ (hW _ c_LW_slack), hts _ (hW _ (vw_t 0 (by decide +kernel) (by decide +kernel))), by decide +kernel, hp_n (by decide +kernel), hts _ (hW _ (vw_t 722 (by decide +kernel) (by decide +kernel))), hts _ (hW _ (vw_t 723 (by decide +kernel) (by decide +kernel)))⟩
theorem s_LW_106 {R : Room} {s : State} {args : Array Value} {Ts : List Jvm.Cond} (hts : ∀ w ∈ Ts, w.before args s = true) (hW : ∀ w ∈ vw_W, w ∈ Ts) (hN : ∀ w ∈ vw_N, va_Nw w s) (hR : r_MO_slack.frames + 1 ≤ R.frames ∧ 8 + (1 + 11) + r_MO_slack.locals ≤ R.locals) : am_sV R s args "ServerDeskLaw" "ServerDeskModel" 106 y_MO_slack b_MO_slack 1 (some .int) w_MO_slack r_MO_slack 0 := Or.inl ⟨callB_of 0 hts (vw_G hW c_MO_slack) rfl rfl rfl (hts _ (hW _ (vw_t 13 (by decide +kernel) (by decide +kernel)))) (hts _ (hW _ (vw_t 1071 (by decide +kernel) (by decide +kernel)))) (by decide +kernel) hR, hts _ (hW _ (vw_t 1072 (by decide +kernel) (by decide +kernel))), hts _ (hW _ (vw_t 1073 (by decide +kernel) (by decide +kernel)))⟩
theorem hw_LW_trace {R : Room} {s : State} {args : Array Value} {Ts : List Jvm.Cond} (hts : ∀ w ∈ Ts, w.before args s = true) (hW : ∀ w ∈ vw_W, w ∈ Ts) (hR : t_LW_trace.frames + 1 ≤ R.frames ∧ 8 + (4 + 11) + t_LW_trace.locals ≤ R.locals) : hp_W R s args "ServerDeskLaw" 107 y_LW_trace b_LW_trace 4 (some .int) h_LW_trace w_LW_trace t_LW_trace 1 6 3 := ⟨⟨rfl, rfl, hR.1, hR.2⟩, hp_pay hts hW c_LW_trace, List.mem_cons_self, hts _ (hW _ c_LW_trace), hts _ (hW _ (vw_t 0 (by decide +kernel) (by decide +kernel))), by decide +kernel, hp_n (by decide +kernel), hts _ (hW _ (vw_t 731 (by decide +kernel) (by decide +kernel))), hts _ (hW _ (vw_t 732 (by decide +kernel) (by decide +kernel)))⟩
theorem s_LW_109 {R : Room} {s : State} {args : Array Value} {Ts : List Jvm.Cond} (hts : ∀ w ∈ Ts, w.before args s = true) (hW : ∀ w ∈ vw_W, w ∈ Ts) (hN : ∀ w ∈ vw_N, va_Nw w s) (hR : r_MO_trace.frames + 1 ≤ R.frames ∧ 8 + (2 + 11) + r_MO_trace.locals ≤ R.locals) : am_sV R s args "ServerDeskLaw" "ServerDeskModel" 109 y_MO_trace b_MO_trace 2 (some .int) w_MO_trace r_MO_trace 1 := Or.inl ⟨callB_of 1 hts (vw_G hW c_MO_trace) rfl rfl rfl (hts _ (hW _ (vw_t 13 (by decide +kernel) (by decide +kernel)))) (hts _ (hW _ (vw_t 1075 (by decide +kernel) (by decide +kernel)))) (by decide +kernel) hR, hts _ (hW _ (vw_t 1076 (by decide +kernel) (by decide +kernel))), hts _ (hW _ (vw_t 1077 (by decide +kernel) (by decide +kernel)))⟩
theorem hw_LW_served {R : Room} {s : State} {args : Array Value} {Ts : List Jvm.Cond} (hts : ∀ w ∈ Ts, w.before args s = true) (hW : ∀ w ∈ vw_W, w ∈ Ts) (hR : t_LW_served.frames + 1 ≤ R.frames ∧ 8 + (5 + 11) + t_LW_served.locals ≤ R.locals) : hp_W R s args "ServerDeskLaw" 110 y_LW_served b_LW_served 5 (some .int) h_LW_served w_LW_served t_LW_served 1 6 4 := ⟨⟨rfl, rfl, hR.1, hR.2⟩, hp_pay hts hW c_LW_served, List.mem_cons_self, hts _ (hW _ c_LW_served), hts _ (hW _ (vw_t 0 (by decide +kernel) (by decide +kernel))), by decide +kernel, hp_n (by decide +kernel), hts _ (hW _ (vw_t 755 (by decide +kernel) (by decide +kernel))), hts _ (hW _ (vw_t 756 (by decide +kernel) (by decide +kernel)))⟩
theorem s_LW_112 {R : Room} {s : State} {args : Array Value} {Ts : List Jvm.Cond} (hts : ∀ w ∈ Ts, w.before args s = true) (hW : ∀ w ∈ vw_W, w ∈ Ts) (hN : ∀ w ∈ vw_N, va_Nw w s) (hR : r_MO_served.frames + 1 ≤ R.frames ∧ 8 + (5 + 11) + r_MO_served.locals ≤ R.locals) : am_sV R s args "ServerDeskLaw" "ServerDeskModel" 112 y_MO_served b_MO_served 5 (some .int) w_MO_served r_MO_served 2 := Or.inl ⟨callB_of 2 hts (vw_G hW c_MO_served) rfl rfl rfl (hts _ (hW _ (vw_t 13 (by decide +kernel) (by decide +kernel)))) (hts _ (hW _ (vw_t 1079 (by decide +kernel) (by decide +kernel)))) (by decide +kernel) hR, hts _ (hW _ (vw_t 1080 (by decide +kernel) (by decide +kernel))), hts _ (hW _ (vw_t 1081 (by decide +kernel) (by decide +kernel)))⟩
theorem hw_LW_replay {R : Room} {s : State} {args : Array Value} {Ts : List Jvm.Cond} (hts : ∀ w ∈ Ts, w.before args s = true) (hW : ∀ w ∈ vw_W, w ∈ Ts) (hR : t_LW_replay.frames + 1 ≤ R.frames ∧ 8 + (4 + 11) + t_LW_replay.locals ≤ R.locals) : hp_W R s args "ServerDeskLaw" 113 y_LW_replay b_LW_replay 4 (some .int) h_LW_replay w_LW_replay t_LW_replay 1 6 3 := ⟨⟨rfl, rfl, hR.1, hR.2⟩, hp_pay hts hW c_LW_replay, List.mem_cons_self, hts _ (hW _ c_LW_replay), hts _ (hW _ (vw_t 0 (by decide +kernel) (by decide +kernel))), by decide +kernel, hp_n (by decide +kernel), hts _ (hW _ (vw_t 763 (by decide +kernel) (by decide +kernel))), hts _ (hW _ (vw_t 764 (by decide +kernel) (by decide +kernel)))⟩
theorem s_LW_115 {R : Room} {s : State} {args : Array Value} {Ts : List Jvm.Cond} (hts : ∀ w ∈ Ts, w.before args s = true) (hW : ∀ w ∈ vw_W, w ∈ Ts) (hN : ∀ w ∈ vw_N, va_Nw w s) (hR : r_MO_replay.frames + 1 ≤ R.frames ∧ 8 + (7 + 11) + r_MO_replay.locals ≤ R.locals) : am_sV R s args "ServerDeskLaw" "ServerDeskModel" 115 y_MO_replay b_MO_replay 7 (some .int) w_MO_replay r_MO_replay 1 := Or.inl ⟨callB_of 1 hts (vw_G hW c_MO_replay) rfl rfl rfl (hts _ (hW _ (vw_t 13 (by decide +kernel) (by decide +kernel)))) (hts _ (hW _ (vw_t 1083 (by decide +kernel) (by decide +kernel)))) (by decide +kernel) hR, hts _ (hW _ (vw_t 1084 (by decide +kernel) (by decide +kernel))), hts _ (hW _ (vw_t 1085 (by decide +kernel) (by decide +kernel)))⟩
theorem hw_LW_state {R : Room} {s : State} {args : Array Value} {Ts : List Jvm.Cond} (hts : ∀ w ∈ Ts, w.before args s = true) (hW : ∀ w ∈ vw_W, w ∈ Ts) (hR : t_LW_state.frames + 1 ≤ R.frames ∧ 8 + (4 + 11) + t_LW_state.locals ≤ R.locals) : hp_W R s args "ServerDeskLaw" 116 y_LW_state b_LW_state 4 (some .int) h_LW_state w_LW_state t_LW_state 1 6 3 := ⟨⟨rfl, rfl, hR.1, hR.2⟩, hp_pay hts hW c_LW_state, List.mem_cons_self, hts _ (hW _ c_LW_state), hts _ (hW _ (vw_t 0 (by decide +kernel) (by decide +kernel))), by decide +kernel, hp_n (by decide +kernel), hts _ (hW _ (vw_t 789 (by decide +kernel) (by decide +kernel))), hts _ (hW _ (vw_t 790 (by decide +kernel) (by decide +kernel)))⟩
theorem s_LW_118 {R : Room} {s : State} {args : Array Value} {Ts : List Jvm.Cond} (hts : ∀ w ∈ Ts, w.before args s = true) (hW : ∀ w ∈ vw_W, w ∈ Ts) (hN : ∀ w ∈ vw_N, va_Nw w s) (hR : r_MO_state.frames + 1 ≤ R.frames ∧ 8 + (2 + 11) + r_MO_state.locals ≤ R.locals) : am_sV R s args "ServerDeskLaw" "ServerDeskModel" 118 y_MO_state b_MO_state 2 (some .int) w_MO_state r_MO_state 1 := Or.inl ⟨callB_of 1 hts (vw_G hW c_MO_state) rfl rfl rfl (hts _ (hW _ (vw_t 13 (by decide +kernel) (by decide +kernel)))) (hts _ (hW _ (vw_t 1087 (by decide +kernel) (by decide +kernel)))) (by decide +kernel) hR, hts _ (hW _ (vw_t 1088 (by decide +kernel) (by decide +kernel))), hts _ (hW _ (vw_t 1089 (by decide +kernel) (by decide +kernel)))⟩
theorem s_LW_119 {R : Room} {s : State} {args : Array Value} {Ts : List Jvm.Cond} (hts : ∀ w ∈ Ts, w.before args s = true) (hW : ∀ w ∈ vw_W, w ∈ Ts) (hN : ∀ w ∈ vw_N, va_Nw w s) (hR : r_SD_reset.frames + 1 ≤ R.frames ∧ 8 + (1 + 11) + r_SD_reset.locals ≤ R.locals) : am_sV R s args "ServerDeskLaw" "ServerDesk" 119 y_SD_reset b_SD_reset 1 none w_SD_reset r_SD_reset 0 := Or.inl ⟨callB_of 0 hts (vw_G hW c_SD_reset) rfl rfl rfl (hts _ (hW _ (vw_t 1 (by decide +kernel) (by decide +kernel)))) (hts _ (hW _ (vw_t 339 (by decide +kernel) (by decide +kernel)))) (by decide +kernel) hR, hts _ (hW _ (vw_t 340 (by decide +kernel) (by decide +kernel))), hts _ (hW _ (vw_t 341 (by decide +kernel) (by decide +kernel)))⟩
theorem s_LW_122 {R : Room} {s : State} {args : Array Value} {Ts : List Jvm.Cond} (hts : ∀ w ∈ Ts, w.before args s = true) (hW : ∀ w ∈ vw_W, w ∈ Ts) (hN : ∀ w ∈ vw_N, va_Nw w s) (hR : r_MO_reset.frames + 1 ≤ R.frames ∧ 8 + (2 + 11) + r_MO_reset.locals ≤ R.locals) : am_sV R s args "ServerDeskLaw" "ServerDeskModel" 122 y_MO_reset b_MO_reset 2 none w_MO_reset r_MO_reset 0 := Or.inl ⟨callB_of 0 hts (vw_G hW c_MO_reset) rfl rfl rfl (hts _ (hW _ (vw_t 13 (by decide +kernel) (by decide +kernel)))) (hts _ (hW _ (vw_t 1095 (by decide +kernel) (by decide +kernel)))) (by decide +kernel) hR, hts _ (hW _ (vw_t 1096 (by decide +kernel) (by decide +kernel))), hts _ (hW _ (vw_t 1097 (by decide +kernel) (by decide +kernel)))⟩
