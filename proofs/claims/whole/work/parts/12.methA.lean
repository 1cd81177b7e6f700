/-! codes and listings of the class, the JDK, the law's helpers: printed by program (wip/whole/gen_meth.py) -/
abbrev b_SD_init : ByteArray := prog_1_method_1_code
abbrev y_SD_init : MethodName := ⟨"ServerDesk", "<init>", "()V"⟩
def q_SD_init : List (Nat × Instr × Nat) := [(0, .aload_n 0, 1), (1, .invokespecial 1, 3), (4, .aload_n 0, 1), (5, .new 7, 3), (8, .dup, 1), (9, .invokespecial 9, 3), (12, .putfield 10, 3), (15, .aload_n 0, 1), (16, .new 16, 3), (19, .dup, 1), (20, .invokespecial 18, 3), (23, .putfield 19, 3), (26, .aload_n 0, 1), (27, .new 23, 3), (30, .dup, 1), (31, .invokespecial 25, 3), (34, .putfield 26, 3), (37, .aload_n 0, 1), (38, .new 30, 3), (41, .dup, 1), (42, .invokespecial 32, 3), (45, .putfield 33, 3), (48, .aload_n 0, 1), (49, .new 37, 3), (52, .dup, 1), (53, .aload_n 0, 1), (54, .getfield 10, 3), (57, .invokespecial 39, 3), (60, .putfield 42, 3), (63, .aload_n 0, 1), (64, .new 46, 3), (67, .dup, 1), (68, .aload_n 0, 1), (69, .getfield 10, 3), (72, .aload_n 0, 1), (73, .getfield 26, 3), (76, .aload_n 0, 1), (77, .getfield 42, 3), (80, .invokespecial 48, 3), (83, .putfield 51, 3), (86, .aload_n 0, 1), (87, .new 55, 3), (90, .dup, 1), (91, .new 46, 3), (94, .dup, 1), (95, .aload_n 0, 1), (96, .getfield 10, 3), (99, .aload_n 0, 1), (100, .getfield 26, 3), (103, .aload_n 0, 1), (104, .getfield 42, 3), (107, .invokespecial 48, 3), (110, .aload_n 0, 1), (111, .getfield 26, 3), (114, .aload_n 0, 1), (115, .getfield 33, 3), (118, .invokespecial 57, 3), (121, .putfield 60, 3), (124, .aload_n 0, 1), (125, .sipush 2000, 3), (128, .newarray .int, 2), (130, .putfield 64, 3), (133, .aload_n 0, 1), (134, .iconst 0, 1), (135, .putfield 68, 3), (138, .aload_n 0, 1), (139, .iconst 0, 1), (140, .putfield 72, 3), (143, .return_, 1)]
def i_SD_init : Nat → Option (Instr × Nat) := am_find q_SD_init
theorem d_SD_init_0 : decode b_SD_init 0 = .ok (.aload_n 0, 1) := by decide +kernel
theorem d_SD_init_1 : decode b_SD_init 1 = .ok (.invokespecial 1, 3) := by decide +kernel
theorem d_SD_init_4 : decode b_SD_init 4 = .ok (.aload_n 0, 1) := by decide +kernel
theorem d_SD_init_5 : decode b_SD_init 5 = .ok (.new 7, 3) := by decide +kernel
theorem d_SD_init_8 : decode b_SD_init 8 = .ok (.dup, 1) := by decide +kernel
theorem d_SD_init_9 : decode b_SD_init 9 = .ok (.invokespecial 9, 3) := by decide +kernel
theorem d_SD_init_12 : decode b_SD_init 12 = .ok (.putfield 10, 3) := by decide +kernel
theorem d_SD_init_15 : decode b_SD_init 15 = .ok (.aload_n 0, 1) := by decide +kernel
theorem d_SD_init_16 : decode b_SD_init 16 = .ok (.new 16, 3) := by decide +kernel
theorem d_SD_init_19 : decode b_SD_init 19 = .ok (.dup, 1) := by decide +kernel
theorem d_SD_init_20 : decode b_SD_init 20 = .ok (.invokespecial 18, 3) := by decide +kernel
theorem d_SD_init_23 : decode b_SD_init 23 = .ok (.putfield 19, 3) := by decide +kernel
theorem d_SD_init_26 : decode b_SD_init 26 = .ok (.aload_n 0, 1) := by decide +kernel
theorem d_SD_init_27 : decode b_SD_init 27 = .ok (.new 23, 3) := by decide +kernel
theorem d_SD_init_30 : decode b_SD_init 30 = .ok (.dup, 1) := by decide +kernel
theorem d_SD_init_31 : decode b_SD_init 31 = .ok (.invokespecial 25, 3) := by decide +kernel
theorem d_SD_init_34 : decode b_SD_init 34 = .ok (.putfield 26, 3) := by decide +kernel
theorem d_SD_init_37 : decode b_SD_init 37 = .ok (.aload_n 0, 1) := by decide +kernel
theorem d_SD_init_38 : decode b_SD_init 38 = .ok (.new 30, 3) := by decide +kernel
theorem d_SD_init_41 : decode b_SD_init 41 = .ok (.dup, 1) := by decide +kernel
theorem d_SD_init_42 : decode b_SD_init 42 = .ok (.invokespecial 32, 3) := by decide +kernel
theorem d_SD_init_45 : decode b_SD_init 45 = .ok (.putfield 33, 3) := by decide +kernel
theorem d_SD_init_48 : decode b_SD_init 48 = .ok (.aload_n 0, 1) := by decide +kernel
theorem d_SD_init_49 : decode b_SD_init 49 = .ok (.new 37, 3) := by decide +kernel
theorem d_SD_init_52 : decode b_SD_init 52 = .ok (.dup, 1) := by decide +kernel
theorem d_SD_init_53 : decode b_SD_init 53 = .ok (.aload_n 0, 1) := by decide +kernel
theorem d_SD_init_54 : decode b_SD_init 54 = .ok (.getfield 10, 3) := by decide +kernel
theorem d_SD_init_57 : decode b_SD_init 57 = .ok (.invokespecial 39, 3) := by decide +kernel
theorem d_SD_init_60 : decode b_SD_init 60 = .ok (.putfield 42, 3) := by decide +kernel
theorem d_SD_init_63 : decode b_SD_init 63 = .ok (.aload_n 0, 1) := by decide +kernel
theorem d_SD_init_64 : decode b_SD_init 64 = .ok (.new 46, 3) := by decide +kernel
theorem d_SD_init_67 : decode b_SD_init 67 = .ok (.dup, 1) := by decide +kernel
theorem d_SD_init_68 : decode b_SD_init 68 = .ok (.aload_n 0, 1) := by decide +kernel
theorem d_SD_init_69 : decode b_SD_init 69 = .ok (.getfield 10, 3) := by decide +kernel
theorem d_SD_init_72 : decode b_SD_init 72 = .ok (.aload_n 0, 1) := by decide +kernel
theorem d_SD_init_73 : decode b_SD_init 73 = .ok (.getfield 26, 3) := by decide +kernel
theorem d_SD_init_76 : decode b_SD_init 76 = .ok (.aload_n 0, 1) := by decide +kernel
theorem d_SD_init_77 : decode b_SD_init 77 = .ok (.getfield 42, 3) := by decide +kernel
theorem d_SD_init_80 : decode b_SD_init 80 = .ok (.invokespecial 48, 3) := by decide +kernel
theorem d_SD_init_83 : decode b_SD_init 83 = .ok (.putfield 51, 3) := by decide +kernel
theorem d_SD_init_86 : decode b_SD_init 86 = .ok (.aload_n 0, 1) := by decide +kernel
theorem d_SD_init_87 : decode b_SD_init 87 = .ok (.new 55, 3) := by decide +kernel
theorem d_SD_init_90 : decode b_SD_init 90 = .ok (.dup, 1) := by decide +kernel
theorem d_SD_init_91 : decode b_SD_init 91 = .ok (.new 46, 3) := by decide +kernel
theorem d_SD_init_94 : decode b_SD_init 94 = .ok (.dup, 1) := by decide +kernel
theorem d_SD_init_95 : decode b_SD_init 95 = .ok (.aload_n 0, 1) := by decide +kernel
theorem d_SD_init_96 : decode b_SD_init 96 = .ok (.getfield 10, 3) := by decide +kernel
theorem d_SD_init_99 : decode b_SD_init 99 = .ok (.aload_n 0, 1) := by decide +kernel
theorem d_SD_init_100 : decode b_SD_init 100 = .ok (.getfield 26, 3) := by decide +kernel
theorem d_SD_init_103 : decode b_SD_init 103 = .ok (.aload_n 0, 1) := by decide +kernel
theorem d_SD_init_104 : decode b_SD_init 104 = .ok (.getfield 42, 3) := by decide +kernel
theorem d_SD_init_107 : decode b_SD_init 107 = .ok (.invokespecial 48, 3) := by decide +kernel
theorem d_SD_init_110 : decode b_SD_init 110 = .ok (.aload_n 0, 1) := by decide +kernel
theorem d_SD_init_111 : decode b_SD_init 111 = .ok (.getfield 26, 3) := by decide +kernel
theorem d_SD_init_114 : decode b_SD_init 114 = .ok (.aload_n 0, 1) := by decide +kernel
theorem d_SD_init_115 : decode b_SD_init 115 = .ok (.getfield 33, 3) := by decide +kernel
theorem d_SD_init_118 : decode b_SD_init 118 = .ok (.invokespecial 57, 3) := by decide +kernel
theorem d_SD_init_121 : decode b_SD_init 121 = .ok (.putfield 60, 3) := by decide +kernel
theorem d_SD_init_124 : decode b_SD_init 124 = .ok (.aload_n 0, 1) := by decide +kernel
theorem d_SD_init_125 : decode b_SD_init 125 = .ok (.sipush 2000, 3) := by decide +kernel
theorem d_SD_init_128 : decode b_SD_init 128 = .ok (.newarray .int, 2) := by decide +kernel
theorem d_SD_init_130 : decode b_SD_init 130 = .ok (.putfield 64, 3) := by decide +kernel
theorem d_SD_init_133 : decode b_SD_init 133 = .ok (.aload_n 0, 1) := by decide +kernel
theorem d_SD_init_134 : decode b_SD_init 134 = .ok (.iconst 0, 1) := by decide +kernel
theorem d_SD_init_135 : decode b_SD_init 135 = .ok (.putfield 68, 3) := by decide +kernel
theorem d_SD_init_138 : decode b_SD_init 138 = .ok (.aload_n 0, 1) := by decide +kernel
theorem d_SD_init_139 : decode b_SD_init 139 = .ok (.iconst 0, 1) := by decide +kernel
theorem d_SD_init_140 : decode b_SD_init 140 = .ok (.putfield 72, 3) := by decide +kernel
theorem d_SD_init_143 : decode b_SD_init 143 = .ok (.return_, 1) := by decide +kernel
theorem d_SD_init : ∀ z ∈ q_SD_init, decode b_SD_init z.1 = .ok z.2 := List.forall_mem_cons.mpr ⟨d_SD_init_0, List.forall_mem_cons.mpr ⟨d_SD_init_1, List.forall_mem_cons.mpr ⟨d_SD_init_4, List.forall_mem_cons.mpr ⟨d_SD_init_5, List.forall_mem_cons.mpr ⟨d_SD_init_8, List.forall_mem_cons.mpr ⟨d_SD_init_9, List.forall_mem_cons.mpr ⟨d_SD_init_12, List.forall_mem_cons.mpr ⟨d_SD_init_15, List.forall_mem_cons.mpr ⟨d_SD_init_16, List.forall_mem_cons.mpr ⟨d_SD_init_19, List.forall_mem_cons.mpr ⟨d_SD_init_20, List.forall_mem_cons.mpr ⟨d_SD_init_23, List.forall_mem_cons.mpr ⟨d_SD_init_26, List.forall_mem_cons.mpr ⟨d_SD_init_27, List.forall_mem_cons.mpr ⟨d_SD_init_30, List.forall_mem_cons.mpr ⟨d_SD_init_31, List.forall_mem_cons.mpr ⟨d_SD_init_34, List.forall_mem_cons.mpr ⟨d_SD_init_37, List.forall_mem_cons.mpr ⟨d_SD_init_38, List.forall_mem_cons.mpr ⟨d_SD_init_41, List.forall_mem_cons.mpr ⟨d_SD_init_42, List.forall_mem_cons.mpr ⟨d_SD_init_45, List.forall_mem_cons.mpr ⟨d_SD_init_48, List.forall_mem_cons.mpr ⟨d_SD_init_49, List.forall_mem_cons.mpr ⟨d_SD_init_52, List.forall_mem_cons.mpr ⟨d_SD_init_53, List.forall_mem_cons.mpr ⟨d_SD_init_54, List.forall_mem_cons.mpr ⟨d_SD_init_57, List.forall_mem_cons.mpr ⟨d_SD_init_60, List.forall_mem_cons.mpr ⟨d_SD_init_63, List.forall_mem_cons.mpr ⟨d_SD_init_64, List.forall_mem_cons.mpr ⟨d_SD_init_67, List.forall_mem_cons.mpr ⟨d_SD_init_68, List.forall_mem_cons.mpr ⟨d_SD_init_69, List.forall_mem_cons.mpr ⟨d_SD_init_72, List.forall_mem_cons.mpr ⟨d_SD_init_73, List.forall_mem_cons.mpr ⟨d_SD_init_76, List.forall_mem_cons.mpr ⟨d_SD_init_77, List.forall_mem_cons.mpr ⟨d_SD_init_80, List.forall_mem_cons.mpr ⟨d_SD_init_83, List.forall_mem_cons.mpr ⟨d_SD_init_86, List.forall_mem_cons.mpr ⟨d_SD_init_87, List.forall_mem_cons.mpr ⟨d_SD_init_90, List.forall_mem_cons.mpr ⟨d_SD_init_91, List.forall_mem_cons.mpr ⟨d_SD_init_94, List.forall_mem_cons.mpr ⟨d_SD_init_95, List.forall_mem_cons.mpr ⟨d_SD_init_96, List.forall_mem_cons.mpr ⟨d_SD_init_99, List.forall_mem_cons.mpr ⟨d_SD_init_100, List.forall_mem_cons.mpr ⟨d_SD_init_103, List.forall_mem_cons.mpr ⟨d_SD_init_104, List.forall_mem_cons.mpr ⟨d_SD_init_107, List.forall_mem_cons.mpr ⟨d_SD_init_110, List.forall_mem_cons.mpr ⟨d_SD_init_111, List.forall_mem_cons.mpr ⟨d_SD_init_114, List.forall_mem_cons.mpr ⟨d_SD_init_115, List.forall_mem_cons.mpr ⟨d_SD_init_118, List.forall_mem_cons.mpr ⟨d_SD_init_121, List.forall_mem_cons.mpr ⟨d_SD_init_124, List.forall_mem_cons.mpr ⟨d_SD_init_125, List.forall_mem_cons.mpr ⟨d_SD_init_128, List.forall_mem_cons.mpr ⟨d_SD_init_130, List.forall_mem_cons.mpr ⟨d_SD_init_133, List.forall_mem_cons.mpr ⟨d_SD_init_134, List.forall_mem_cons.mpr ⟨d_SD_init_135, List.forall_mem_cons.mpr ⟨d_SD_init_138, List.forall_mem_cons.mpr ⟨d_SD_init_139, List.forall_mem_cons.mpr ⟨d_SD_init_140, List.forall_mem_cons.mpr ⟨d_SD_init_143, fun _ h => absurd h List.not_mem_nil⟩⟩⟩⟩⟩⟩⟩⟩⟩⟩⟩⟩⟩⟩⟩⟩⟩⟩⟩⟩⟩⟩⟩⟩⟩⟩⟩⟩⟩⟩⟩⟩⟩⟩⟩⟩⟩⟩⟩⟩⟩⟩⟩⟩⟩⟩⟩⟩⟩⟩⟩⟩⟩⟩⟩⟩⟩⟩⟩⟩⟩⟩⟩⟩⟩⟩⟩⟩⟩
theorem i_SD_init_ok : ∀ pc i n, i_SD_init pc = some (i, n) → decode b_SD_init pc = .ok (i, n) := fun pc i n h => d_SD_init (pc, i, n) (am_find_mem h)
theorem i_SD_init_0 : i_SD_init 0 = some (.aload_n 0, 1) := rfl
theorem i_SD_init_1 : i_SD_init 1 = some (.invokespecial 1, 3) := rfl
theorem i_SD_init_4 : i_SD_init 4 = some (.aload_n 0, 1) := rfl
theorem i_SD_init_5 : i_SD_init 5 = some (.new 7, 3) := rfl
theorem i_SD_init_8 : i_SD_init 8 = some (.dup, 1) := rfl
theorem i_SD_init_9 : i_SD_init 9 = some (.invokespecial 9, 3) := rfl
theorem i_SD_init_12 : i_SD_init 12 = some (.putfield 10, 3) := rfl
theorem i_SD_init_15 : i_SD_init 15 = some (.aload_n 0, 1) := rfl
theorem i_SD_init_16 : i_SD_init 16 = some (.new 16, 3) := rfl
theorem i_SD_init_19 : i_SD_init 19 = some (.dup, 1) := rfl
theorem i_SD_init_20 : i_SD_init 20 = some (.invokespecial 18, 3) := rfl
theorem i_SD_init_23 : i_SD_init 23 = some (.putfield 19, 3) := rfl
theorem i_SD_init_26 : i_SD_init 26 = some (.aload_n 0, 1) := rfl
theorem i_SD_init_27 : i_SD_init 27 = some (.new 23, 3) := rfl
theorem i_SD_init_30 : i_SD_init 30 = some (.dup, 1) := rfl
theorem i_SD_init_31 : i_SD_init 31 = some (.invokespecial 25, 3) := rfl
theorem i_SD_init_34 : i_SD_init 34 = some (.putfield 26, 3) := rfl
theorem i_SD_init_37 : i_SD_init 37 = some (.aload_n 0, 1) := rfl
theorem i_SD_init_38 : i_SD_init 38 = some (.new 30, 3) := rfl
theorem i_SD_init_41 : i_SD_init 41 = some (.dup, 1) := rfl
theorem i_SD_init_42 : i_SD_init 42 = some (.invokespecial 32, 3) := rfl
theorem i_SD_init_45 : i_SD_init 45 = some (.putfield 33, 3) := rfl
theorem i_SD_init_48 : i_SD_init 48 = some (.aload_n 0, 1) := rfl
theorem i_SD_init_49 : i_SD_init 49 = some (.new 37, 3) := rfl
theorem i_SD_init_52 : i_SD_init 52 = some (.dup, 1) := rfl
theorem i_SD_init_53 : i_SD_init 53 = some (.aload_n 0, 1) := rfl
theorem i_SD_init_54 : i_SD_init 54 = some (.getfield 10, 3) := rfl
theorem i_SD_init_57 : i_SD_init 57 = some (.invokespecial 39, 3) := rfl
theorem i_SD_init_60 : i_SD_init 60 = some (.putfield 42, 3) := rfl
theorem i_SD_init_63 : i_SD_init 63 = some (.aload_n 0, 1) := rfl
theorem i_SD_init_64 : i_SD_init 64 = some (.new 46, 3) := rfl
theorem i_SD_init_67 : i_SD_init 67 = some (.dup, 1) := rfl
theorem i_SD_init_68 : i_SD_init 68 = some (.aload_n 0, 1) := rfl
theorem i_SD_init_69 : i_SD_init 69 = some (.getfield 10, 3) := rfl
theorem i_SD_init_72 : i_SD_init 72 = some (.aload_n 0, 1) := rfl
theorem i_SD_init_73 : i_SD_init 73 = some (.getfield 26, 3) := rfl
theorem i_SD_init_76 : i_SD_init 76 = some (.aload_n 0, 1) := rfl
theorem i_SD_init_77 : i_SD_init 77 = some (.getfield 42, 3) := rfl
theorem i_SD_init_80 : i_SD_init 80 = some (.invokespecial 48, 3) := rfl
theorem i_SD_init_83 : i_SD_init 83 = some (.putfield 51, 3) := rfl
theorem i_SD_init_86 : i_SD_init 86 = some (.aload_n 0, 1) := rfl
theorem i_SD_init_87 : i_SD_init 87 = some (.new 55, 3) := rfl
theorem i_SD_init_90 : i_SD_init 90 = some (.dup, 1) := rfl
theorem i_SD_init_91 : i_SD_init 91 = some (.new 46, 3) := rfl
theorem i_SD_init_94 : i_SD_init 94 = some (.dup, 1) := rfl
theorem i_SD_init_95 : i_SD_init 95 = some (.aload_n 0, 1) := rfl
theorem i_SD_init_96 : i_SD_init 96 = some (.getfield 10, 3) := rfl
theorem i_SD_init_99 : i_SD_init 99 = some (.aload_n 0, 1) := rfl
theorem i_SD_init_100 : i_SD_init 100 = some (.getfield 26, 3) := rfl
theorem i_SD_init_103 : i_SD_init 103 = some (.aload_n 0, 1) := rfl
theorem i_SD_init_104 : i_SD_init 104 = some (.getfield 42, 3) := rfl
theorem i_SD_init_107 : i_SD_init 107 = some (.invokespecial 48, 3) := rfl
theorem i_SD_init_110 : i_SD_init 110 = some (.aload_n 0, 1) := rfl
theorem i_SD_init_111 : i_SD_init 111 = some (.getfield 26, 3) := rfl
theorem i_SD_init_114 : i_SD_init 114 = some (.aload_n 0, 1) := rfl
theorem i_SD_init_115 : i_SD_init 115 = some (.getfield 33, 3) := rfl
theorem i_SD_init_118 : i_SD_init 118 = some (.invokespecial 57, 3) := rfl
theorem i_SD_init_121 : i_SD_init 121 = some (.putfield 60, 3) := rfl
theorem i_SD_init_124 : i_SD_init 124 = some (.aload_n 0, 1) := rfl
theorem i_SD_init_125 : i_SD_init 125 = some (.sipush 2000, 3) := rfl
theorem i_SD_init_128 : i_SD_init 128 = some (.newarray .int, 2) := rfl
theorem i_SD_init_130 : i_SD_init 130 = some (.putfield 64, 3) := rfl
theorem i_SD_init_133 : i_SD_init 133 = some (.aload_n 0, 1) := rfl
theorem i_SD_init_134 : i_SD_init 134 = some (.iconst 0, 1) := rfl
theorem i_SD_init_135 : i_SD_init 135 = some (.putfield 68, 3) := rfl
theorem i_SD_init_138 : i_SD_init 138 = some (.aload_n 0, 1) := rfl
theorem i_SD_init_139 : i_SD_init 139 = some (.iconst 0, 1) := rfl
theorem i_SD_init_140 : i_SD_init 140 = some (.putfield 72, 3) := rfl
theorem i_SD_init_143 : i_SD_init 143 = some (.return_, 1) := rfl
abbrev w_SD_init : List Jvm.Cond := Jvm.Cond.code y_SD_init b_SD_init 1 none :: vw_W
theorem c_SD_init : Jvm.Cond.code y_SD_init b_SD_init 1 none ∈ vw_W := vw_t 27 (by decide +kernel) (by decide +kernel)
abbrev r_SD_init : Room := { frames := 3, cells := 0, slots := 0, locals := 63 }
abbrev b_TS_init : ByteArray := prog_11_method_1_code
abbrev y_TS_init : MethodName := ⟨"ServerDesk$TaskSet", "<init>", "()V"⟩
def q_TS_init : List (Nat × Instr × Nat) := [(0, .aload_n 0, 1), (1, .invokespecial 3, 3), (4, .aload_n 0, 1), (5, .iconst 5, 1), (6, .newarray .int, 2), (8, .putfield 9, 3), (11, .aload_n 0, 1), (12, .iconst 5, 1), (13, .newarray .int, 2), (15, .putfield 15, 3), (18, .aload_n 0, 1), (19, .iconst 5, 1), (20, .newarray .int, 2), (22, .putfield 18, 3), (25, .aload_n 0, 1), (26, .iconst 5, 1), (27, .newarray .int, 2), (29, .putfield 21, 3), (32, .aload_n 0, 1), (33, .iconst 5, 1), (34, .newarray .int, 2), (36, .putfield 24, 3), (39, .aload_n 0, 1), (40, .iconst 0, 1), (41, .putfield 27, 3), (44, .aload_n 0, 1), (45, .iconst 1, 1), (46, .putfield 31, 3), (49, .return_, 1)]
def i_TS_init : Nat → Option (Instr × Nat) := am_find q_TS_init
theorem d_TS_init_0 : decode b_TS_init 0 = .ok (.aload_n 0, 1) := by decide +kernel
theorem d_TS_init_1 : decode b_TS_init 1 = .ok (.invokespecial 3, 3) := by decide +kernel
theorem d_TS_init_4 : decode b_TS_init 4 = .ok (.aload_n 0, 1) := by decide +kernel
theorem d_TS_init_5 : decode b_TS_init 5 = .ok (.iconst 5, 1) := by decide +kernel
theorem d_TS_init_6 : decode b_TS_init 6 = .ok (.newarray .int, 2) := by decide +kernel
theorem d_TS_init_8 : decode b_TS_init 8 = .ok (.putfield 9, 3) := by decide +kernel
theorem d_TS_init_11 : decode b_TS_init 11 = .ok (.aload_n 0, 1) := by decide +kernel
theorem d_TS_init_12 : decode b_TS_init 12 = .ok (.iconst 5, 1) := by decide +kernel
theorem d_TS_init_13 : decode b_TS_init 13 = .ok (.newarray .int, 2) := by decide +kernel
theorem d_TS_init_15 : decode b_TS_init 15 = .ok (.putfield 15, 3) := by decide +kernel
theorem d_TS_init_18 : decode b_TS_init 18 = .ok (.aload_n 0, 1) := by decide +kernel
theorem d_TS_init_19 : decode b_TS_init 19 = .ok (.iconst 5, 1) := by decide +kernel
theorem d_TS_init_20 : decode b_TS_init 20 = .ok (.newarray .int, 2) := by decide +kernel
theorem d_TS_init_22 : decode b_TS_init 22 = .ok (.putfield 18, 3) := by decide +kernel
theorem d_TS_init_25 : decode b_TS_init 25 = .ok (.aload_n 0, 1) := by decide +kernel
theorem d_TS_init_26 : decode b_TS_init 26 = .ok (.iconst 5, 1) := by decide +kernel
theorem d_TS_init_27 : decode b_TS_init 27 = .ok (.newarray .int, 2) := by decide +kernel
theorem d_TS_init_29 : decode b_TS_init 29 = .ok (.putfield 21, 3) := by decide +kernel
theorem d_TS_init_32 : decode b_TS_init 32 = .ok (.aload_n 0, 1) := by decide +kernel
theorem d_TS_init_33 : decode b_TS_init 33 = .ok (.iconst 5, 1) := by decide +kernel
theorem d_TS_init_34 : decode b_TS_init 34 = .ok (.newarray .int, 2) := by decide +kernel
theorem d_TS_init_36 : decode b_TS_init 36 = .ok (.putfield 24, 3) := by decide +kernel
theorem d_TS_init_39 : decode b_TS_init 39 = .ok (.aload_n 0, 1) := by decide +kernel
theorem d_TS_init_40 : decode b_TS_init 40 = .ok (.iconst 0, 1) := by decide +kernel
theorem d_TS_init_41 : decode b_TS_init 41 = .ok (.putfield 27, 3) := by decide +kernel
theorem d_TS_init_44 : decode b_TS_init 44 = .ok (.aload_n 0, 1) := by decide +kernel
theorem d_TS_init_45 : decode b_TS_init 45 = .ok (.iconst 1, 1) := by decide +kernel
theorem d_TS_init_46 : decode b_TS_init 46 = .ok (.putfield 31, 3) := by decide +kernel
theorem d_TS_init_49 : decode b_TS_init 49 = .ok (.return_, 1) := by decide +kernel
theorem d_TS_init : ∀ z ∈ q_TS_init, decode b_TS_init z.1 = .ok z.2 := List.forall_mem_cons.mpr ⟨d_TS_init_0, List.forall_mem_cons.mpr ⟨d_TS_init_1, List.forall_mem_cons.mpr ⟨d_TS_init_4, List.forall_mem_cons.mpr ⟨d_TS_init_5, List.forall_mem_cons.mpr ⟨d_TS_init_6, List.forall_mem_cons.mpr ⟨d_TS_init_8, List.forall_mem_cons.mpr ⟨d_TS_init_11, List.forall_mem_cons.mpr ⟨d_TS_init_12, List.forall_mem_cons.mpr ⟨d_TS_init_13, List.forall_mem_cons.mpr ⟨d_TS_init_15, List.forall_mem_cons.mpr ⟨d_TS_init_18, List.forall_mem_cons.mpr ⟨d_TS_init_19, List.forall_mem_cons.mpr ⟨d_TS_init_20, List.forall_mem_cons.mpr ⟨d_TS_init_22, List.forall_mem_cons.mpr ⟨d_TS_init_25, List.forall_mem_cons.mpr ⟨d_TS_init_26, List.forall_mem_cons.mpr ⟨d_TS_init_27, List.forall_mem_cons.mpr ⟨d_TS_init_29, List.forall_mem_cons.mpr ⟨d_TS_init_32, List.forall_mem_cons.mpr ⟨d_TS_init_33, List.forall_mem_cons.mpr ⟨d_TS_init_34, List.forall_mem_cons.mpr ⟨d_TS_init_36, List.forall_mem_cons.mpr ⟨d_TS_init_39, List.forall_mem_cons.mpr ⟨d_TS_init_40, List.forall_mem_cons.mpr ⟨d_TS_init_41, List.forall_mem_cons.mpr ⟨d_TS_init_44, List.forall_mem_cons.mpr ⟨d_TS_init_45, List.forall_mem_cons.mpr ⟨d_TS_init_46, List.forall_mem_cons.mpr ⟨d_TS_init_49, fun _ h => absurd h List.not_mem_nil⟩⟩⟩⟩⟩⟩⟩⟩⟩⟩⟩⟩⟩⟩⟩⟩⟩⟩⟩⟩⟩⟩⟩⟩⟩⟩⟩⟩⟩
theorem i_TS_init_ok : ∀ pc i n, i_TS_init pc = some (i, n) → decode b_TS_init pc = .ok (i, n) := fun pc i n h => d_TS_init (pc, i, n) (am_find_mem h)
theorem i_TS_init_0 : i_TS_init 0 = some (.aload_n 0, 1) := rfl
theorem i_TS_init_1 : i_TS_init 1 = some (.invokespecial 3, 3) := rfl
theorem i_TS_init_4 : i_TS_init 4 = some (.aload_n 0, 1) := rfl
theorem i_TS_init_5 : i_TS_init 5 = some (.iconst 5, 1) := rfl
theorem i_TS_init_6 : i_TS_init 6 = some (.newarray .int, 2) := rfl
theorem i_TS_init_8 : i_TS_init 8 = some (.putfield 9, 3) := rfl
theorem i_TS_init_11 : i_TS_init 11 = some (.aload_n 0, 1) := rfl
theorem i_TS_init_12 : i_TS_init 12 = some (.iconst 5, 1) := rfl
theorem i_TS_init_13 : i_TS_init 13 = some (.newarray .int, 2) := rfl
theorem i_TS_init_15 : i_TS_init 15 = some (.putfield 15, 3) := rfl
theorem i_TS_init_18 : i_TS_init 18 = some (.aload_n 0, 1) := rfl
theorem i_TS_init_19 : i_TS_init 19 = some (.iconst 5, 1) := rfl
theorem i_TS_init_20 : i_TS_init 20 = some (.newarray .int, 2) := rfl
theorem i_TS_init_22 : i_TS_init 22 = some (.putfield 18, 3) := rfl
theorem i_TS_init_25 : i_TS_init 25 = some (.aload_n 0, 1) := rfl
theorem i_TS_init_26 : i_TS_init 26 = some (.iconst 5, 1) := rfl
theorem i_TS_init_27 : i_TS_init 27 = some (.newarray .int, 2) := rfl
theorem i_TS_init_29 : i_TS_init 29 = some (.putfield 21, 3) := rfl
theorem i_TS_init_32 : i_TS_init 32 = some (.aload_n 0, 1) := rfl
theorem i_TS_init_33 : i_TS_init 33 = some (.iconst 5, 1) := rfl
theorem i_TS_init_34 : i_TS_init 34 = some (.newarray .int, 2) := rfl
theorem i_TS_init_36 : i_TS_init 36 = some (.putfield 24, 3) := rfl
theorem i_TS_init_39 : i_TS_init 39 = some (.aload_n 0, 1) := rfl
theorem i_TS_init_40 : i_TS_init 40 = some (.iconst 0, 1) := rfl
theorem i_TS_init_41 : i_TS_init 41 = some (.putfield 27, 3) := rfl
theorem i_TS_init_44 : i_TS_init 44 = some (.aload_n 0, 1) := rfl
theorem i_TS_init_45 : i_TS_init 45 = some (.iconst 1, 1) := rfl
theorem i_TS_init_46 : i_TS_init 46 = some (.putfield 31, 3) := rfl
theorem i_TS_init_49 : i_TS_init 49 = some (.return_, 1) := rfl
abbrev w_TS_init : List Jvm.Cond := Jvm.Cond.code y_TS_init b_TS_init 1 none :: vw_W
theorem c_TS_init : Jvm.Cond.code y_TS_init b_TS_init 1 none ∈ vw_W := vw_t 35 (by decide +kernel) (by decide +kernel)
abbrev r_TS_init : Room := { frames := 0, cells := 0, slots := 0, locals := 0 }
abbrev b_RB_init : ByteArray := prog_9_method_1_code
abbrev y_RB_init : MethodName := ⟨"ServerDesk$RuleBook", "<init>", "()V"⟩
def q_RB_init : List (Nat × Instr × Nat) := [(0, .aload_n 0, 1), (1, .invokespecial 3, 3), (4, .aload_n 0, 1), (5, .iconst 4, 1), (6, .newarray .int, 2), (8, .putfield 9, 3), (11, .aload_n 0, 1), (12, .iconst 4, 1), (13, .newarray .int, 2), (15, .putfield 15, 3), (18, .aload_n 0, 1), (19, .iconst 0, 1), (20, .putfield 18, 3), (23, .aload_n 0, 1), (24, .invokevirtual 22, 3), (27, .return_, 1)]
def i_RB_init : Nat → Option (Instr × Nat) := am_find q_RB_init
theorem d_RB_init_0 : decode b_RB_init 0 = .ok (.aload_n 0, 1) := by decide +kernel
theorem d_RB_init_1 : decode b_RB_init 1 = .ok (.invokespecial 3, 3) := by decide +kernel
theorem d_RB_init_4 : decode b_RB_init 4 = .ok (.aload_n 0, 1) := by decide +kernel
theorem d_RB_init_5 : decode b_RB_init 5 = .ok (.iconst 4, 1) := by decide +kernel
theorem d_RB_init_6 : decode b_RB_init 6 = .ok (.newarray .int, 2) := by decide +kernel
theorem d_RB_init_8 : decode b_RB_init 8 = .ok (.putfield 9, 3) := by decide +kernel
theorem d_RB_init_11 : decode b_RB_init 11 = .ok (.aload_n 0, 1) := by decide +kernel
theorem d_RB_init_12 : decode b_RB_init 12 = .ok (.iconst 4, 1) := by decide +kernel
theorem d_RB_init_13 : decode b_RB_init 13 = .ok (.newarray .int, 2) := by decide +kernel
theorem d_RB_init_15 : decode b_RB_init 15 = .ok (.putfield 15, 3) := by decide +kernel
theorem d_RB_init_18 : decode b_RB_init 18 = .ok (.aload_n 0, 1) := by decide +kernel
theorem d_RB_init_19 : decode b_RB_init 19 = .ok (.iconst 0, 1) := by decide +kernel
theorem d_RB_init_20 : decode b_RB_init 20 = .ok (.putfield 18, 3) := by decide +kernel
theorem d_RB_init_23 : decode b_RB_init 23 = .ok (.aload_n 0, 1) := by decide +kernel
theorem d_RB_init_24 : decode b_RB_init 24 = .ok (.invokevirtual 22, 3) := by decide +kernel
theorem d_RB_init_27 : decode b_RB_init 27 = .ok (.return_, 1) := by decide +kernel
theorem d_RB_init : ∀ z ∈ q_RB_init, decode b_RB_init z.1 = .ok z.2 := List.forall_mem_cons.mpr ⟨d_RB_init_0, List.forall_mem_cons.mpr ⟨d_RB_init_1, List.forall_mem_cons.mpr ⟨d_RB_init_4, List.forall_mem_cons.mpr ⟨d_RB_init_5, List.forall_mem_cons.mpr ⟨d_RB_init_6, List.forall_mem_cons.mpr ⟨d_RB_init_8, List.forall_mem_cons.mpr ⟨d_RB_init_11, List.forall_mem_cons.mpr ⟨d_RB_init_12, List.forall_mem_cons.mpr ⟨d_RB_init_13, List.forall_mem_cons.mpr ⟨d_RB_init_15, List.forall_mem_cons.mpr ⟨d_RB_init_18, List.forall_mem_cons.mpr ⟨d_RB_init_19, List.forall_mem_cons.mpr ⟨d_RB_init_20, List.forall_mem_cons.mpr ⟨d_RB_init_23, List.forall_mem_cons.mpr ⟨d_RB_init_24, List.forall_mem_cons.mpr ⟨d_RB_init_27, fun _ h => absurd h List.not_mem_nil⟩⟩⟩⟩⟩⟩⟩⟩⟩⟩⟩⟩⟩⟩⟩⟩
theorem i_RB_init_ok : ∀ pc i n, i_RB_init pc = some (i, n) → decode b_RB_init pc = .ok (i, n) := fun pc i n h => d_RB_init (pc, i, n) (am_find_mem h)
theorem i_RB_init_0 : i_RB_init 0 = some (.aload_n 0, 1) := rfl
theorem i_RB_init_1 : i_RB_init 1 = some (.invokespecial 3, 3) := rfl
theorem i_RB_init_4 : i_RB_init 4 = some (.aload_n 0, 1) := rfl
theorem i_RB_init_5 : i_RB_init 5 = some (.iconst 4, 1) := rfl
theorem i_RB_init_6 : i_RB_init 6 = some (.newarray .int, 2) := rfl
theorem i_RB_init_8 : i_RB_init 8 = some (.putfield 9, 3) := rfl
theorem i_RB_init_11 : i_RB_init 11 = some (.aload_n 0, 1) := rfl
theorem i_RB_init_12 : i_RB_init 12 = some (.iconst 4, 1) := rfl
theorem i_RB_init_13 : i_RB_init 13 = some (.newarray .int, 2) := rfl
theorem i_RB_init_15 : i_RB_init 15 = some (.putfield 15, 3) := rfl
theorem i_RB_init_18 : i_RB_init 18 = some (.aload_n 0, 1) := rfl
theorem i_RB_init_19 : i_RB_init 19 = some (.iconst 0, 1) := rfl
theorem i_RB_init_20 : i_RB_init 20 = some (.putfield 18, 3) := rfl
theorem i_RB_init_23 : i_RB_init 23 = some (.aload_n 0, 1) := rfl
theorem i_RB_init_24 : i_RB_init 24 = some (.invokevirtual 22, 3) := rfl
theorem i_RB_init_27 : i_RB_init 27 = some (.return_, 1) := rfl
abbrev w_RB_init : List Jvm.Cond := Jvm.Cond.code y_RB_init b_RB_init 1 none :: vw_W
theorem c_RB_init : Jvm.Cond.code y_RB_init b_RB_init 1 none ∈ vw_W := vw_t 78 (by decide +kernel) (by decide +kernel)
abbrev r_RB_init : Room := { frames := 2, cells := 0, slots := 0, locals := 43 }
abbrev b_RB_clear : ByteArray := prog_9_method_2_code
abbrev y_RB_clear : MethodName := ⟨"ServerDesk$RuleBook", "clear", "()V"⟩
def q_RB_clear : List (Nat × Instr × Nat) := [(0, .aload_n 0, 1), (1, .getfield 9, 3), (4, .iconst 1, 1), (5, .invokestatic 25, 3), (8, .aload_n 0, 1), (9, .getfield 15, 3), (12, .bipush 60, 2), (14, .invokestatic 25, 3), (17, .aload_n 0, 1), (18, .iconst 0, 1), (19, .putfield 18, 3), (22, .return_, 1)]
def i_RB_clear : Nat → Option (Instr × Nat) := am_find q_RB_clear
theorem d_RB_clear_0 : decode b_RB_clear 0 = .ok (.aload_n 0, 1) := by decide +kernel
theorem d_RB_clear_1 : decode b_RB_clear 1 = .ok (.getfield 9, 3) := by decide +kernel
theorem d_RB_clear_4 : decode b_RB_clear 4 = .ok (.iconst 1, 1) := by decide +kernel
theorem d_RB_clear_5 : decode b_RB_clear 5 = .ok (.invokestatic 25, 3) := by decide +kernel
theorem d_RB_clear_8 : decode b_RB_clear 8 = .ok (.aload_n 0, 1) := by decide +kernel
theorem d_RB_clear_9 : decode b_RB_clear 9 = .ok (.getfield 15, 3) := by decide +kernel
theorem d_RB_clear_12 : decode b_RB_clear 12 = .ok (.bipush 60, 2) := by decide +kernel
theorem d_RB_clear_14 : decode b_RB_clear 14 = .ok (.invokestatic 25, 3) := by decide +kernel
theorem d_RB_clear_17 : decode b_RB_clear 17 = .ok (.aload_n 0, 1) := by decide +kernel
theorem d_RB_clear_18 : decode b_RB_clear 18 = .ok (.iconst 0, 1) := by decide +kernel
theorem d_RB_clear_19 : decode b_RB_clear 19 = .ok (.putfield 18, 3) := by decide +kernel
theorem d_RB_clear_22 : decode b_RB_clear 22 = .ok (.return_, 1) := by decide +kernel
theorem d_RB_clear : ∀ z ∈ q_RB_clear, decode b_RB_clear z.1 = .ok z.2 := List.forall_mem_cons.mpr ⟨d_RB_clear_0, List.forall_mem_cons.mpr ⟨d_RB_clear_1, List.forall_mem_cons.mpr ⟨d_RB_clear_4, List.forall_mem_cons.mpr ⟨d_RB_clear_5, List.forall_mem_cons.mpr ⟨d_RB_clear_8, List.forall_mem_cons.mpr ⟨d_RB_clear_9, List.forall_mem_cons.mpr ⟨d_RB_clear_12, List.forall_mem_cons.mpr ⟨d_RB_clear_14, List.forall_mem_cons.mpr ⟨d_RB_clear_17, List.forall_mem_cons.mpr ⟨d_RB_clear_18, List.forall_mem_cons.mpr ⟨d_RB_clear_19, List.forall_mem_cons.mpr ⟨d_RB_clear_22, fun _ h => absurd h List.not_mem_nil⟩⟩⟩⟩⟩⟩⟩⟩⟩⟩⟩⟩
theorem i_RB_clear_ok : ∀ pc i n, i_RB_clear pc = some (i, n) → decode b_RB_clear pc = .ok (i, n) := fun pc i n h => d_RB_clear (pc, i, n) (am_find_mem h)
theorem i_RB_clear_0 : i_RB_clear 0 = some (.aload_n 0, 1) := rfl
theorem i_RB_clear_1 : i_RB_clear 1 = some (.getfield 9, 3) := rfl
theorem i_RB_clear_4 : i_RB_clear 4 = some (.iconst 1, 1) := rfl
theorem i_RB_clear_5 : i_RB_clear 5 = some (.invokestatic 25, 3) := rfl
theorem i_RB_clear_8 : i_RB_clear 8 = some (.aload_n 0, 1) := rfl
theorem i_RB_clear_9 : i_RB_clear 9 = some (.getfield 15, 3) := rfl
theorem i_RB_clear_12 : i_RB_clear 12 = some (.bipush 60, 2) := rfl
theorem i_RB_clear_14 : i_RB_clear 14 = some (.invokestatic 25, 3) := rfl
theorem i_RB_clear_17 : i_RB_clear 17 = some (.aload_n 0, 1) := rfl
theorem i_RB_clear_18 : i_RB_clear 18 = some (.iconst 0, 1) := rfl
theorem i_RB_clear_19 : i_RB_clear 19 = some (.putfield 18, 3) := rfl
theorem i_RB_clear_22 : i_RB_clear 22 = some (.return_, 1) := rfl
abbrev w_RB_clear : List Jvm.Cond := Jvm.Cond.code y_RB_clear b_RB_clear 1 none :: vw_W
theorem c_RB_clear : Jvm.Cond.code y_RB_clear b_RB_clear 1 none ∈ vw_W := vw_t 83 (by decide +kernel) (by decide +kernel)
abbrev r_RB_clear : Room := { frames := 1, cells := 0, slots := 0, locals := 23 }
abbrev b_JA_fill : ByteArray := prog_23_method_103_code
abbrev y_JA_fill : MethodName := ⟨"java/util/Arrays", "fill", "([II)V"⟩
def q_JA_fill : List (Nat × Instr × Nat) := [(0, .iconst 0, 1), (1, .istore_n 2, 1), (2, .aload_n 0, 1), (3, .arraylength, 1), (4, .istore_n 3, 1), (5, .iload_n 2, 1), (6, .iload_n 3, 1), (7, .if_icmp .ge 13, 3), (10, .aload_n 0, 1), (11, .iload_n 2, 1), (12, .iload_n 1, 1), (13, .iastore, 1), (14, .iinc 2 1, 3), (17, .goto (-12), 3), (20, .return_, 1)]
def i_JA_fill : Nat → Option (Instr × Nat) := am_find q_JA_fill
theorem d_JA_fill_0 : decode b_JA_fill 0 = .ok (.iconst 0, 1) := by decide +kernel
theorem d_JA_fill_1 : decode b_JA_fill 1 = .ok (.istore_n 2, 1) := by decide +kernel
theorem d_JA_fill_2 : decode b_JA_fill 2 = .ok (.aload_n 0, 1) := by decide +kernel
theorem d_JA_fill_3 : decode b_JA_fill 3 = .ok (.arraylength, 1) := by decide +kernel
theorem d_JA_fill_4 : decode b_JA_fill 4 = .ok (.istore_n 3, 1) := by decide +kernel
theorem d_JA_fill_5 : decode b_JA_fill 5 = .ok (.iload_n 2, 1) := by decide +kernel
theorem d_JA_fill_6 : decode b_JA_fill 6 = .ok (.iload_n 3, 1) := by decide +kernel
theorem d_JA_fill_7 : decode b_JA_fill 7 = .ok (.if_icmp .ge 13, 3) := by decide +kernel
theorem d_JA_fill_10 : decode b_JA_fill 10 = .ok (.aload_n 0, 1) := by decide +kernel
theorem d_JA_fill_11 : decode b_JA_fill 11 = .ok (.iload_n 2, 1) := by decide +kernel
theorem d_JA_fill_12 : decode b_JA_fill 12 = .ok (.iload_n 1, 1) := by decide +kernel
theorem d_JA_fill_13 : decode b_JA_fill 13 = .ok (.iastore, 1) := by decide +kernel
theorem d_JA_fill_14 : decode b_JA_fill 14 = .ok (.iinc 2 1, 3) := by decide +kernel
theorem d_JA_fill_17 : decode b_JA_fill 17 = .ok (.goto (-12), 3) := by decide +kernel
theorem d_JA_fill_20 : decode b_JA_fill 20 = .ok (.return_, 1) := by decide +kernel
theorem d_JA_fill : ∀ z ∈ q_JA_fill, decode b_JA_fill z.1 = .ok z.2 := List.forall_mem_cons.mpr ⟨d_JA_fill_0, List.forall_mem_cons.mpr ⟨d_JA_fill_1, List.forall_mem_cons.mpr ⟨d_JA_fill_2, List.forall_mem_cons.mpr ⟨d_JA_fill_3, List.forall_mem_cons.mpr ⟨d_JA_fill_4, List.forall_mem_cons.mpr ⟨d_JA_fill_5, List.forall_mem_cons.mpr ⟨d_JA_fill_6, List.forall_mem_cons.mpr ⟨d_JA_fill_7, List.forall_mem_cons.mpr ⟨d_JA_fill_10, List.forall_mem_cons.mpr ⟨d_JA_fill_11, List.forall_mem_cons.mpr ⟨d_JA_fill_12, List.forall_mem_cons.mpr ⟨d_JA_fill_13, List.forall_mem_cons.mpr ⟨d_JA_fill_14, List.forall_mem_cons.mpr ⟨d_JA_fill_17, List.forall_mem_cons.mpr ⟨d_JA_fill_20, fun _ h => absurd h List.not_mem_nil⟩⟩⟩⟩⟩⟩⟩⟩⟩⟩⟩⟩⟩⟩⟩
theorem i_JA_fill_ok : ∀ pc i n, i_JA_fill pc = some (i, n) → decode b_JA_fill pc = .ok (i, n) := fun pc i n h => d_JA_fill (pc, i, n) (am_find_mem h)
theorem i_JA_fill_0 : i_JA_fill 0 = some (.iconst 0, 1) := rfl
theorem i_JA_fill_1 : i_JA_fill 1 = some (.istore_n 2, 1) := rfl
theorem i_JA_fill_2 : i_JA_fill 2 = some (.aload_n 0, 1) := rfl
theorem i_JA_fill_3 : i_JA_fill 3 = some (.arraylength, 1) := rfl
theorem i_JA_fill_4 : i_JA_fill 4 = some (.istore_n 3, 1) := rfl
theorem i_JA_fill_5 : i_JA_fill 5 = some (.iload_n 2, 1) := rfl
theorem i_JA_fill_6 : i_JA_fill 6 = some (.iload_n 3, 1) := rfl
theorem i_JA_fill_7 : i_JA_fill 7 = some (.if_icmp .ge 13, 3) := rfl
theorem i_JA_fill_10 : i_JA_fill 10 = some (.aload_n 0, 1) := rfl
theorem i_JA_fill_11 : i_JA_fill 11 = some (.iload_n 2, 1) := rfl
theorem i_JA_fill_12 : i_JA_fill 12 = some (.iload_n 1, 1) := rfl
theorem i_JA_fill_13 : i_JA_fill 13 = some (.iastore, 1) := rfl
theorem i_JA_fill_14 : i_JA_fill 14 = some (.iinc 2 1, 3) := rfl
theorem i_JA_fill_17 : i_JA_fill 17 = some (.goto (-12), 3) := rfl
theorem i_JA_fill_20 : i_JA_fill 20 = some (.return_, 1) := rfl
abbrev w_JA_fill : List Jvm.Cond := Jvm.Cond.code y_JA_fill b_JA_fill 4 none :: vw_W
theorem c_JA_fill : Jvm.Cond.code y_JA_fill b_JA_fill 4 none ∈ vw_W := vw_t 86 (by decide +kernel) (by decide +kernel)
abbrev r_JA_fill : Room := { frames := 0, cells := 0, slots := 0, locals := 0 }
abbrev b_JL_init : ByteArray := prog_5_method_1_code
abbrev y_JL_init : MethodName := ⟨"ServerDesk$JobLog", "<init>", "()V"⟩
def q_JL_init : List (Nat × Instr × Nat) := [(0, .aload_n 0, 1), (1, .invokespecial 3, 3), (4, .aload_n 0, 1), (5, .bipush 40, 2), (7, .newarray .int, 2), (9, .putfield 9, 3), (12, .aload_n 0, 1), (13, .bipush 40, 2), (15, .newarray .int, 2), (17, .putfield 15, 3), (20, .aload_n 0, 1), (21, .bipush 40, 2), (23, .newarray .boolean, 2), (25, .putfield 18, 3), (28, .aload_n 0, 1), (29, .iconst 0, 1), (30, .putfield 22, 3), (33, .return_, 1)]
def i_JL_init : Nat → Option (Instr × Nat) := am_find q_JL_init
theorem d_JL_init_0 : decode b_JL_init 0 = .ok (.aload_n 0, 1) := by decide +kernel
theorem d_JL_init_1 : decode b_JL_init 1 = .ok (.invokespecial 3, 3) := by decide +kernel
theorem d_JL_init_4 : decode b_JL_init 4 = .ok (.aload_n 0, 1) := by decide +kernel
theorem d_JL_init_5 : decode b_JL_init 5 = .ok (.bipush 40, 2) := by decide +kernel
theorem d_JL_init_7 : decode b_JL_init 7 = .ok (.newarray .int, 2) := by decide +kernel
theorem d_JL_init_9 : decode b_JL_init 9 = .ok (.putfield 9, 3) := by decide +kernel
theorem d_JL_init_12 : decode b_JL_init 12 = .ok (.aload_n 0, 1) := by decide +kernel
theorem d_JL_init_13 : decode b_JL_init 13 = .ok (.bipush 40, 2) := by decide +kernel
theorem d_JL_init_15 : decode b_JL_init 15 = .ok (.newarray .int, 2) := by decide +kernel
theorem d_JL_init_17 : decode b_JL_init 17 = .ok (.putfield 15, 3) := by decide +kernel
theorem d_JL_init_20 : decode b_JL_init 20 = .ok (.aload_n 0, 1) := by decide +kernel
theorem d_JL_init_21 : decode b_JL_init 21 = .ok (.bipush 40, 2) := by decide +kernel
theorem d_JL_init_23 : decode b_JL_init 23 = .ok (.newarray .boolean, 2) := by decide +kernel
theorem d_JL_init_25 : decode b_JL_init 25 = .ok (.putfield 18, 3) := by decide +kernel
theorem d_JL_init_28 : decode b_JL_init 28 = .ok (.aload_n 0, 1) := by decide +kernel
theorem d_JL_init_29 : decode b_JL_init 29 = .ok (.iconst 0, 1) := by decide +kernel
theorem d_JL_init_30 : decode b_JL_init 30 = .ok (.putfield 22, 3) := by decide +kernel
theorem d_JL_init_33 : decode b_JL_init 33 = .ok (.return_, 1) := by decide +kernel
theorem d_JL_init : ∀ z ∈ q_JL_init, decode b_JL_init z.1 = .ok z.2 := List.forall_mem_cons.mpr ⟨d_JL_init_0, List.forall_mem_cons.mpr ⟨d_JL_init_1, List.forall_mem_cons.mpr ⟨d_JL_init_4, List.forall_mem_cons.mpr ⟨d_JL_init_5, List.forall_mem_cons.mpr ⟨d_JL_init_7, List.forall_mem_cons.mpr ⟨d_JL_init_9, List.forall_mem_cons.mpr ⟨d_JL_init_12, List.forall_mem_cons.mpr ⟨d_JL_init_13, List.forall_mem_cons.mpr ⟨d_JL_init_15, List.forall_mem_cons.mpr ⟨d_JL_init_17, List.forall_mem_cons.mpr ⟨d_JL_init_20, List.forall_mem_cons.mpr ⟨d_JL_init_21, List.forall_mem_cons.mpr ⟨d_JL_init_23, List.forall_mem_cons.mpr ⟨d_JL_init_25, List.forall_mem_cons.mpr ⟨d_JL_init_28, List.forall_mem_cons.mpr ⟨d_JL_init_29, List.forall_mem_cons.mpr ⟨d_JL_init_30, List.forall_mem_cons.mpr ⟨d_JL_init_33, fun _ h => absurd h List.not_mem_nil⟩⟩⟩⟩⟩⟩⟩⟩⟩⟩⟩⟩⟩⟩⟩⟩⟩⟩
theorem i_JL_init_ok : ∀ pc i n, i_JL_init pc = some (i, n) → decode b_JL_init pc = .ok (i, n) := fun pc i n h => d_JL_init (pc, i, n) (am_find_mem h)
theorem i_JL_init_0 : i_JL_init 0 = some (.aload_n 0, 1) := rfl
theorem i_JL_init_1 : i_JL_init 1 = some (.invokespecial 3, 3) := rfl
theorem i_JL_init_4 : i_JL_init 4 = some (.aload_n 0, 1) := rfl
theorem i_JL_init_5 : i_JL_init 5 = some (.bipush 40, 2) := rfl
theorem i_JL_init_7 : i_JL_init 7 = some (.newarray .int, 2) := rfl
theorem i_JL_init_9 : i_JL_init 9 = some (.putfield 9, 3) := rfl
theorem i_JL_init_12 : i_JL_init 12 = some (.aload_n 0, 1) := rfl
theorem i_JL_init_13 : i_JL_init 13 = some (.bipush 40, 2) := rfl
theorem i_JL_init_15 : i_JL_init 15 = some (.newarray .int, 2) := rfl
theorem i_JL_init_17 : i_JL_init 17 = some (.putfield 15, 3) := rfl
theorem i_JL_init_20 : i_JL_init 20 = some (.aload_n 0, 1) := rfl
theorem i_JL_init_21 : i_JL_init 21 = some (.bipush 40, 2) := rfl
theorem i_JL_init_23 : i_JL_init 23 = some (.newarray .boolean, 2) := rfl
theorem i_JL_init_25 : i_JL_init 25 = some (.putfield 18, 3) := rfl
theorem i_JL_init_28 : i_JL_init 28 = some (.aload_n 0, 1) := rfl
theorem i_JL_init_29 : i_JL_init 29 = some (.iconst 0, 1) := rfl
theorem i_JL_init_30 : i_JL_init 30 = some (.putfield 22, 3) := rfl
theorem i_JL_init_33 : i_JL_init 33 = some (.return_, 1) := rfl
abbrev w_JL_init : List Jvm.Cond := Jvm.Cond.code y_JL_init b_JL_init 1 none :: vw_W
theorem c_JL_init : Jvm.Cond.code y_JL_init b_JL_init 1 none ∈ vw_W := vw_t 104 (by decide +kernel) (by decide +kernel)
abbrev r_JL_init : Room := { frames := 0, cells := 0, slots := 0, locals := 0 }
abbrev b_EL_init : ByteArray := prog_4_method_1_code
abbrev y_EL_init : MethodName := ⟨"ServerDesk$EarlyLog", "<init>", "()V"⟩
def q_EL_init : List (Nat × Instr × Nat) := [(0, .aload_n 0, 1), (1, .invokespecial 3, 3), (4, .aload_n 0, 1), (5, .sipush 200, 3), (8, .newarray .int, 2), (10, .putfield 9, 3), (13, .aload_n 0, 1), (14, .sipush 200, 3), (17, .newarray .int, 2), (19, .putfield 15, 3), (22, .aload_n 0, 1), (23, .sipush 200, 3), (26, .newarray .int, 2), (28, .putfield 18, 3), (31, .aload_n 0, 1), (32, .iconst 0, 1), (33, .putfield 21, 3), (36, .return_, 1)]
def i_EL_init : Nat → Option (Instr × Nat) := am_find q_EL_init
theorem d_EL_init_0 : decode b_EL_init 0 = .ok (.aload_n 0, 1) := by decide +kernel
theorem d_EL_init_1 : decode b_EL_init 1 = .ok (.invokespecial 3, 3) := by decide +kernel
theorem d_EL_init_4 : decode b_EL_init 4 = .ok (.aload_n 0, 1) := by decide +kernel
theorem d_EL_init_5 : decode b_EL_init 5 = .ok (.sipush 200, 3) := by decide +kernel
theorem d_EL_init_8 : decode b_EL_init 8 = .ok (.newarray .int, 2) := by decide +kernel
theorem d_EL_init_10 : decode b_EL_init 10 = .ok (.putfield 9, 3) := by decide +kernel
theorem d_EL_init_13 : decode b_EL_init 13 = .ok (.aload_n 0, 1) := by decide +kernel
theorem d_EL_init_14 : decode b_EL_init 14 = .ok (.sipush 200, 3) := by decide +kernel
theorem d_EL_init_17 : decode b_EL_init 17 = .ok (.newarray .int, 2) := by decide +kernel
theorem d_EL_init_19 : decode b_EL_init 19 = .ok (.putfield 15, 3) := by decide +kernel
theorem d_EL_init_22 : decode b_EL_init 22 = .ok (.aload_n 0, 1) := by decide +kernel
theorem d_EL_init_23 : decode b_EL_init 23 = .ok (.sipush 200, 3) := by decide +kernel
theorem d_EL_init_26 : decode b_EL_init 26 = .ok (.newarray .int, 2) := by decide +kernel
theorem d_EL_init_28 : decode b_EL_init 28 = .ok (.putfield 18, 3) := by decide +kernel
theorem d_EL_init_31 : decode b_EL_init 31 = .ok (.aload_n 0, 1) := by decide +kernel
theorem d_EL_init_32 : decode b_EL_init 32 = .ok (.iconst 0, 1) := by decide +kernel
theorem d_EL_init_33 : decode b_EL_init 33 = .ok (.putfield 21, 3) := by decide +kernel
theorem d_EL_init_36 : decode b_EL_init 36 = .ok (.return_, 1) := by decide +kernel
theorem d_EL_init : ∀ z ∈ q_EL_init, decode b_EL_init z.1 = .ok z.2 := List.forall_mem_cons.mpr ⟨d_EL_init_0, List.forall_mem_cons.mpr ⟨d_EL_init_1, List.forall_mem_cons.mpr ⟨d_EL_init_4, List.forall_mem_cons.mpr ⟨d_EL_init_5, List.forall_mem_cons.mpr ⟨d_EL_init_8, List.forall_mem_cons.mpr ⟨d_EL_init_10, List.forall_mem_cons.mpr ⟨d_EL_init_13, List.forall_mem_cons.mpr ⟨d_EL_init_14, List.forall_mem_cons.mpr ⟨d_EL_init_17, List.forall_mem_cons.mpr ⟨d_EL_init_19, List.forall_mem_cons.mpr ⟨d_EL_init_22, List.forall_mem_cons.mpr ⟨d_EL_init_23, List.forall_mem_cons.mpr ⟨d_EL_init_26, List.forall_mem_cons.mpr ⟨d_EL_init_28, List.forall_mem_cons.mpr ⟨d_EL_init_31, List.forall_mem_cons.mpr ⟨d_EL_init_32, List.forall_mem_cons.mpr ⟨d_EL_init_33, List.forall_mem_cons.mpr ⟨d_EL_init_36, fun _ h => absurd h List.not_mem_nil⟩⟩⟩⟩⟩⟩⟩⟩⟩⟩⟩⟩⟩⟩⟩⟩⟩⟩
theorem i_EL_init_ok : ∀ pc i n, i_EL_init pc = some (i, n) → decode b_EL_init pc = .ok (i, n) := fun pc i n h => d_EL_init (pc, i, n) (am_find_mem h)
theorem i_EL_init_0 : i_EL_init 0 = some (.aload_n 0, 1) := rfl
theorem i_EL_init_1 : i_EL_init 1 = some (.invokespecial 3, 3) := rfl
theorem i_EL_init_4 : i_EL_init 4 = some (.aload_n 0, 1) := rfl
theorem i_EL_init_5 : i_EL_init 5 = some (.sipush 200, 3) := rfl
theorem i_EL_init_8 : i_EL_init 8 = some (.newarray .int, 2) := rfl
theorem i_EL_init_10 : i_EL_init 10 = some (.putfield 9, 3) := rfl
theorem i_EL_init_13 : i_EL_init 13 = some (.aload_n 0, 1) := rfl
theorem i_EL_init_14 : i_EL_init 14 = some (.sipush 200, 3) := rfl
theorem i_EL_init_17 : i_EL_init 17 = some (.newarray .int, 2) := rfl
theorem i_EL_init_19 : i_EL_init 19 = some (.putfield 15, 3) := rfl
theorem i_EL_init_22 : i_EL_init 22 = some (.aload_n 0, 1) := rfl
theorem i_EL_init_23 : i_EL_init 23 = some (.sipush 200, 3) := rfl
theorem i_EL_init_26 : i_EL_init 26 = some (.newarray .int, 2) := rfl
theorem i_EL_init_28 : i_EL_init 28 = some (.putfield 18, 3) := rfl
theorem i_EL_init_31 : i_EL_init 31 = some (.aload_n 0, 1) := rfl
theorem i_EL_init_32 : i_EL_init 32 = some (.iconst 0, 1) := rfl
theorem i_EL_init_33 : i_EL_init 33 = some (.putfield 21, 3) := rfl
theorem i_EL_init_36 : i_EL_init 36 = some (.return_, 1) := rfl
abbrev w_EL_init : List Jvm.Cond := Jvm.Cond.code y_EL_init b_EL_init 1 none :: vw_W
theorem c_EL_init : Jvm.Cond.code y_EL_init b_EL_init 1 none ∈ vw_W := vw_t 130 (by decide +kernel) (by decide +kernel)
abbrev r_EL_init : Room := { frames := 0, cells := 0, slots := 0, locals := 0 }
abbrev b_SM_init : ByteArray := prog_10_method_1_code
abbrev y_SM_init : MethodName := ⟨"ServerDesk$SlackMeter", "<init>", "(LServerDesk$TaskSet;)V"⟩
def q_SM_init : List (Nat × Instr × Nat) := [(0, .aload_n 0, 1), (1, .invokespecial 3, 3), (4, .aload_n 0, 1), (5, .iconst 5, 1), (6, .newarray .int, 2), (8, .putfield 9, 3), (11, .aload_n 0, 1), (12, .iconst 5, 1), (13, .newarray .int, 2), (15, .putfield 15, 3), (18, .aload_n 0, 1), (19, .aload_n 1, 1), (20, .putfield 18, 3), (23, .aload_n 0, 1), (24, .new 22, 3), (27, .dup, 1), (28, .aload_n 1, 1), (29, .invokespecial 24, 3), (32, .putfield 27, 3), (35, .return_, 1)]
def i_SM_init : Nat → Option (Instr × Nat) := am_find q_SM_init
theorem d_SM_init_0 : decode b_SM_init 0 = .ok (.aload_n 0, 1) := by decide +kernel
theorem d_SM_init_1 : decode b_SM_init 1 = .ok (.invokespecial 3, 3) := by decide +kernel
theorem d_SM_init_4 : decode b_SM_init 4 = .ok (.aload_n 0, 1) := by decide +kernel
theorem d_SM_init_5 : decode b_SM_init 5 = .ok (.iconst 5, 1) := by decide +kernel
theorem d_SM_init_6 : decode b_SM_init 6 = .ok (.newarray .int, 2) := by decide +kernel
theorem d_SM_init_8 : decode b_SM_init 8 = .ok (.putfield 9, 3) := by decide +kernel
theorem d_SM_init_11 : decode b_SM_init 11 = .ok (.aload_n 0, 1) := by decide +kernel
theorem d_SM_init_12 : decode b_SM_init 12 = .ok (.iconst 5, 1) := by decide +kernel
theorem d_SM_init_13 : decode b_SM_init 13 = .ok (.newarray .int, 2) := by decide +kernel
theorem d_SM_init_15 : decode b_SM_init 15 = .ok (.putfield 15, 3) := by decide +kernel
theorem d_SM_init_18 : decode b_SM_init 18 = .ok (.aload_n 0, 1) := by decide +kernel
theorem d_SM_init_19 : decode b_SM_init 19 = .ok (.aload_n 1, 1) := by decide +kernel
theorem d_SM_init_20 : decode b_SM_init 20 = .ok (.putfield 18, 3) := by decide +kernel
theorem d_SM_init_23 : decode b_SM_init 23 = .ok (.aload_n 0, 1) := by decide +kernel
theorem d_SM_init_24 : decode b_SM_init 24 = .ok (.new 22, 3) := by decide +kernel
theorem d_SM_init_27 : decode b_SM_init 27 = .ok (.dup, 1) := by decide +kernel
theorem d_SM_init_28 : decode b_SM_init 28 = .ok (.aload_n 1, 1) := by decide +kernel
theorem d_SM_init_29 : decode b_SM_init 29 = .ok (.invokespecial 24, 3) := by decide +kernel
theorem d_SM_init_32 : decode b_SM_init 32 = .ok (.putfield 27, 3) := by decide +kernel
theorem d_SM_init_35 : decode b_SM_init 35 = .ok (.return_, 1) := by decide +kernel
theorem d_SM_init : ∀ z ∈ q_SM_init, decode b_SM_init z.1 = .ok z.2 := List.forall_mem_cons.mpr ⟨d_SM_init_0, List.forall_mem_cons.mpr ⟨d_SM_init_1, List.forall_mem_cons.mpr ⟨d_SM_init_4, List.forall_mem_cons.mpr ⟨d_SM_init_5, List.forall_mem_cons.mpr ⟨d_SM_init_6, List.forall_mem_cons.mpr ⟨d_SM_init_8, List.forall_mem_cons.mpr ⟨d_SM_init_11, List.forall_mem_cons.mpr ⟨d_SM_init_12, List.forall_mem_cons.mpr ⟨d_SM_init_13, List.forall_mem_cons.mpr ⟨d_SM_init_15, List.forall_mem_cons.mpr ⟨d_SM_init_18, List.forall_mem_cons.mpr ⟨d_SM_init_19, List.forall_mem_cons.mpr ⟨d_SM_init_20, List.forall_mem_cons.mpr ⟨d_SM_init_23, List.forall_mem_cons.mpr ⟨d_SM_init_24, List.forall_mem_cons.mpr ⟨d_SM_init_27, List.forall_mem_cons.mpr ⟨d_SM_init_28, List.forall_mem_cons.mpr ⟨d_SM_init_29, List.forall_mem_cons.mpr ⟨d_SM_init_32, List.forall_mem_cons.mpr ⟨d_SM_init_35, fun _ h => absurd h List.not_mem_nil⟩⟩⟩⟩⟩⟩⟩⟩⟩⟩⟩⟩⟩⟩⟩⟩⟩⟩⟩⟩
theorem i_SM_init_ok : ∀ pc i n, i_SM_init pc = some (i, n) → decode b_SM_init pc = .ok (i, n) := fun pc i n h => d_SM_init (pc, i, n) (am_find_mem h)
theorem i_SM_init_0 : i_SM_init 0 = some (.aload_n 0, 1) := rfl
theorem i_SM_init_1 : i_SM_init 1 = some (.invokespecial 3, 3) := rfl
theorem i_SM_init_4 : i_SM_init 4 = some (.aload_n 0, 1) := rfl
theorem i_SM_init_5 : i_SM_init 5 = some (.iconst 5, 1) := rfl
theorem i_SM_init_6 : i_SM_init 6 = some (.newarray .int, 2) := rfl
theorem i_SM_init_8 : i_SM_init 8 = some (.putfield 9, 3) := rfl
theorem i_SM_init_11 : i_SM_init 11 = some (.aload_n 0, 1) := rfl
theorem i_SM_init_12 : i_SM_init 12 = some (.iconst 5, 1) := rfl
theorem i_SM_init_13 : i_SM_init 13 = some (.newarray .int, 2) := rfl
theorem i_SM_init_15 : i_SM_init 15 = some (.putfield 15, 3) := rfl
theorem i_SM_init_18 : i_SM_init 18 = some (.aload_n 0, 1) := rfl
theorem i_SM_init_19 : i_SM_init 19 = some (.aload_n 1, 1) := rfl
theorem i_SM_init_20 : i_SM_init 20 = some (.putfield 18, 3) := rfl
theorem i_SM_init_23 : i_SM_init 23 = some (.aload_n 0, 1) := rfl
theorem i_SM_init_24 : i_SM_init 24 = some (.new 22, 3) := rfl
theorem i_SM_init_27 : i_SM_init 27 = some (.dup, 1) := rfl
theorem i_SM_init_28 : i_SM_init 28 = some (.aload_n 1, 1) := rfl
theorem i_SM_init_29 : i_SM_init 29 = some (.invokespecial 24, 3) := rfl
theorem i_SM_init_32 : i_SM_init 32 = some (.putfield 27, 3) := rfl
theorem i_SM_init_35 : i_SM_init 35 = some (.return_, 1) := rfl
abbrev w_SM_init : List Jvm.Cond := Jvm.Cond.code y_SM_init b_SM_init 2 none :: vw_W
theorem c_SM_init : Jvm.Cond.code y_SM_init b_SM_init 2 none ∈ vw_W := vw_t 154 (by decide +kernel) (by decide +kernel)
abbrev r_SM_init : Room := { frames := 1, cells := 0, slots := 0, locals := 21 }
abbrev b_LO_init : ByteArray := prog_6_method_1_code
abbrev y_LO_init : MethodName := ⟨"ServerDesk$Load", "<init>", "(LServerDesk$TaskSet;)V"⟩
def q_LO_init : List (Nat × Instr × Nat) := [(0, .aload_n 0, 1), (1, .invokespecial 3, 3), (4, .aload_n 0, 1), (5, .iconst 5, 1), (6, .newarray .int, 2), (8, .putfield 9, 3), (11, .aload_n 0, 1), (12, .iconst 5, 1), (13, .newarray .int, 2), (15, .putfield 15, 3), (18, .aload_n 0, 1), (19, .iconst 5, 1), (20, .newarray .int, 2), (22, .putfield 18, 3), (25, .aload_n 0, 1), (26, .iconst 5, 1), (27, .newarray .int, 2), (29, .putfield 21, 3), (32, .aload_n 0, 1), (33, .aload_n 1, 1), (34, .putfield 24, 3), (37, .return_, 1)]
def i_LO_init : Nat → Option (Instr × Nat) := am_find q_LO_init
theorem d_LO_init_0 : decode b_LO_init 0 = .ok (.aload_n 0, 1) := by decide +kernel
theorem d_LO_init_1 : decode b_LO_init 1 = .ok (.invokespecial 3, 3) := by decide +kernel
theorem d_LO_init_4 : decode b_LO_init 4 = .ok (.aload_n 0, 1) := by decide +kernel
theorem d_LO_init_5 : decode b_LO_init 5 = .ok (.iconst 5, 1) := by decide +kernel
theorem d_LO_init_6 : decode b_LO_init 6 = .ok (.newarray .int, 2) := by decide +kernel
theorem d_LO_init_8 : decode b_LO_init 8 = .ok (.putfield 9, 3) := by decide +kernel
theorem d_LO_init_11 : decode b_LO_init 11 = .ok (.aload_n 0, 1) := by decide +kernel
theorem d_LO_init_12 : decode b_LO_init 12 = .ok (.iconst 5, 1) := by decide +kernel
theorem d_LO_init_13 : decode b_LO_init 13 = .ok (.newarray .int, 2) := by decide +kernel
theorem d_LO_init_15 : decode b_LO_init 15 = .ok (.putfield 15, 3) := by decide +kernel
theorem d_LO_init_18 : decode b_LO_init 18 = .ok (.aload_n 0, 1) := by decide +kernel
theorem d_LO_init_19 : decode b_LO_init 19 = .ok (.iconst 5, 1) := by decide +kernel
theorem d_LO_init_20 : decode b_LO_init 20 = .ok (.newarray .int, 2) := by decide +kernel
theorem d_LO_init_22 : decode b_LO_init 22 = .ok (.putfield 18, 3) := by decide +kernel
theorem d_LO_init_25 : decode b_LO_init 25 = .ok (.aload_n 0, 1) := by decide +kernel
theorem d_LO_init_26 : decode b_LO_init 26 = .ok (.iconst 5, 1) := by decide +kernel
theorem d_LO_init_27 : decode b_LO_init 27 = .ok (.newarray .int, 2) := by decide +kernel
theorem d_LO_init_29 : decode b_LO_init 29 = .ok (.putfield 21, 3) := by decide +kernel
theorem d_LO_init_32 : decode b_LO_init 32 = .ok (.aload_n 0, 1) := by decide +kernel
theorem d_LO_init_33 : decode b_LO_init 33 = .ok (.aload_n 1, 1) := by decide +kernel
theorem d_LO_init_34 : decode b_LO_init 34 = .ok (.putfield 24, 3) := by decide +kernel
theorem d_LO_init_37 : decode b_LO_init 37 = .ok (.return_, 1) := by decide +kernel
theorem d_LO_init : ∀ z ∈ q_LO_init, decode b_LO_init z.1 = .ok z.2 := List.forall_mem_cons.mpr ⟨d_LO_init_0, List.forall_mem_cons.mpr ⟨d_LO_init_1, List.forall_mem_cons.mpr ⟨d_LO_init_4, List.forall_mem_cons.mpr ⟨d_LO_init_5, List.forall_mem_cons.mpr ⟨d_LO_init_6, List.forall_mem_cons.mpr ⟨d_LO_init_8, List.forall_mem_cons.mpr ⟨d_LO_init_11, List.forall_mem_cons.mpr ⟨d_LO_init_12, List.forall_mem_cons.mpr ⟨d_LO_init_13, List.forall_mem_cons.mpr ⟨d_LO_init_15, List.forall_mem_cons.mpr ⟨d_LO_init_18, List.forall_mem_cons.mpr ⟨d_LO_init_19, List.forall_mem_cons.mpr ⟨d_LO_init_20, List.forall_mem_cons.mpr ⟨d_LO_init_22, List.forall_mem_cons.mpr ⟨d_LO_init_25, List.forall_mem_cons.mpr ⟨d_LO_init_26, List.forall_mem_cons.mpr ⟨d_LO_init_27, List.forall_mem_cons.mpr ⟨d_LO_init_29, List.forall_mem_cons.mpr ⟨d_LO_init_32, List.forall_mem_cons.mpr ⟨d_LO_init_33, List.forall_mem_cons.mpr ⟨d_LO_init_34, List.forall_mem_cons.mpr ⟨d_LO_init_37, fun _ h => absurd h List.not_mem_nil⟩⟩⟩⟩⟩⟩⟩⟩⟩⟩⟩⟩⟩⟩⟩⟩⟩⟩⟩⟩⟩⟩
theorem i_LO_init_ok : ∀ pc i n, i_LO_init pc = some (i, n) → decode b_LO_init pc = .ok (i, n) := fun pc i n h => d_LO_init (pc, i, n) (am_find_mem h)
theorem i_LO_init_0 : i_LO_init 0 = some (.aload_n 0, 1) := rfl
theorem i_LO_init_1 : i_LO_init 1 = some (.invokespecial 3, 3) := rfl
theorem i_LO_init_4 : i_LO_init 4 = some (.aload_n 0, 1) := rfl
theorem i_LO_init_5 : i_LO_init 5 = some (.iconst 5, 1) := rfl
theorem i_LO_init_6 : i_LO_init 6 = some (.newarray .int, 2) := rfl
theorem i_LO_init_8 : i_LO_init 8 = some (.putfield 9, 3) := rfl
theorem i_LO_init_11 : i_LO_init 11 = some (.aload_n 0, 1) := rfl
theorem i_LO_init_12 : i_LO_init 12 = some (.iconst 5, 1) := rfl
theorem i_LO_init_13 : i_LO_init 13 = some (.newarray .int, 2) := rfl
theorem i_LO_init_15 : i_LO_init 15 = some (.putfield 15, 3) := rfl
theorem i_LO_init_18 : i_LO_init 18 = some (.aload_n 0, 1) := rfl
theorem i_LO_init_19 : i_LO_init 19 = some (.iconst 5, 1) := rfl
theorem i_LO_init_20 : i_LO_init 20 = some (.newarray .int, 2) := rfl
theorem i_LO_init_22 : i_LO_init 22 = some (.putfield 18, 3) := rfl
theorem i_LO_init_25 : i_LO_init 25 = some (.aload_n 0, 1) := rfl
theorem i_LO_init_26 : i_LO_init 26 = some (.iconst 5, 1) := rfl
theorem i_LO_init_27 : i_LO_init 27 = some (.newarray .int, 2) := rfl
theorem i_LO_init_29 : i_LO_init 29 = some (.putfield 21, 3) := rfl
theorem i_LO_init_32 : i_LO_init 32 = some (.aload_n 0, 1) := rfl
theorem i_LO_init_33 : i_LO_init 33 = some (.aload_n 1, 1) := rfl
theorem i_LO_init_34 : i_LO_init 34 = some (.putfield 24, 3) := rfl
theorem i_LO_init_37 : i_LO_init 37 = some (.return_, 1) := rfl
abbrev w_LO_init : List Jvm.Cond := Jvm.Cond.code y_LO_init b_LO_init 2 none :: vw_W
theorem c_LO_init : Jvm.Cond.code y_LO_init b_LO_init 2 none ∈ vw_W := vw_t 160 (by decide +kernel) (by decide +kernel)
abbrev r_LO_init : Room := { frames := 0, cells := 0, slots := 0, locals := 0 }
abbrev b_CO_init : ByteArray := prog_3_method_1_code
abbrev y_CO_init : MethodName := ⟨"ServerDesk$Course", "<init>", "(LServerDesk$TaskSet;LServerDesk$JobLog;LServerDesk$SlackMeter;)V"⟩
def q_CO_init : List (Nat × Instr × Nat) := [(0, .aload_n 0, 1), (1, .invokespecial 3, 3), (4, .aload_n 0, 1), (5, .iconst 0, 1), (6, .putfield 9, 3), (9, .aload_n 0, 1), (10, .iconst 0, 1), (11, .putfield 15, 3), (14, .aload_n 0, 1), (15, .aload_n 1, 1), (16, .putfield 18, 3), (19, .aload_n 0, 1), (20, .aload_n 3, 1), (21, .putfield 22, 3), (24, .aload_n 0, 1), (25, .new 26, 3), (28, .dup, 1), (29, .aload_n 1, 1), (30, .invokespecial 28, 3), (33, .putfield 31, 3), (36, .aload_n 0, 1), (37, .new 35, 3), (40, .dup, 1), (41, .aload_n 2, 1), (42, .invokespecial 37, 3), (45, .putfield 40, 3), (48, .aload_n 0, 1), (49, .new 44, 3), (52, .dup, 1), (53, .invokespecial 46, 3), (56, .putfield 47, 3), (59, .return_, 1)]
def i_CO_init : Nat → Option (Instr × Nat) := am_find q_CO_init
theorem d_CO_init_0 : decode b_CO_init 0 = .ok (.aload_n 0, 1) := by decide +kernel
theorem d_CO_init_1 : decode b_CO_init 1 = .ok (.invokespecial 3, 3) := by decide +kernel
theorem d_CO_init_4 : decode b_CO_init 4 = .ok (.aload_n 0, 1) := by decide +kernel
theorem d_CO_init_5 : decode b_CO_init 5 = .ok (.iconst 0, 1) := by decide +kernel
theorem d_CO_init_6 : decode b_CO_init 6 = .ok (.putfield 9, 3) := by decide +kernel
theorem d_CO_init_9 : decode b_CO_init 9 = .ok (.aload_n 0, 1) := by decide +kernel
theorem d_CO_init_10 : decode b_CO_init 10 = .ok (.iconst 0, 1) := by decide +kernel
theorem d_CO_init_11 : decode b_CO_init 11 = .ok (.putfield 15, 3) := by decide +kernel
theorem d_CO_init_14 : decode b_CO_init 14 = .ok (.aload_n 0, 1) := by decide +kernel
theorem d_CO_init_15 : decode b_CO_init 15 = .ok (.aload_n 1, 1) := by decide +kernel
theorem d_CO_init_16 : decode b_CO_init 16 = .ok (.putfield 18, 3) := by decide +kernel
theorem d_CO_init_19 : decode b_CO_init 19 = .ok (.aload_n 0, 1) := by decide +kernel
theorem d_CO_init_20 : decode b_CO_init 20 = .ok (.aload_n 3, 1) := by decide +kernel
theorem d_CO_init_21 : decode b_CO_init 21 = .ok (.putfield 22, 3) := by decide +kernel
theorem d_CO_init_24 : decode b_CO_init 24 = .ok (.aload_n 0, 1) := by decide +kernel
theorem d_CO_init_25 : decode b_CO_init 25 = .ok (.new 26, 3) := by decide +kernel
theorem d_CO_init_28 : decode b_CO_init 28 = .ok (.dup, 1) := by decide +kernel
theorem d_CO_init_29 : decode b_CO_init 29 = .ok (.aload_n 1, 1) := by decide +kernel
theorem d_CO_init_30 : decode b_CO_init 30 = .ok (.invokespecial 28, 3) := by decide +kernel
theorem d_CO_init_33 : decode b_CO_init 33 = .ok (.putfield 31, 3) := by decide +kernel
theorem d_CO_init_36 : decode b_CO_init 36 = .ok (.aload_n 0, 1) := by decide +kernel
theorem d_CO_init_37 : decode b_CO_init 37 = .ok (.new 35, 3) := by decide +kernel
theorem d_CO_init_40 : decode b_CO_init 40 = .ok (.dup, 1) := by decide +kernel
theorem d_CO_init_41 : decode b_CO_init 41 = .ok (.aload_n 2, 1) := by decide +kernel
theorem d_CO_init_42 : decode b_CO_init 42 = .ok (.invokespecial 37, 3) := by decide +kernel
theorem d_CO_init_45 : decode b_CO_init 45 = .ok (.putfield 40, 3) := by decide +kernel
theorem d_CO_init_48 : decode b_CO_init 48 = .ok (.aload_n 0, 1) := by decide +kernel
theorem d_CO_init_49 : decode b_CO_init 49 = .ok (.new 44, 3) := by decide +kernel
theorem d_CO_init_52 : decode b_CO_init 52 = .ok (.dup, 1) := by decide +kernel
theorem d_CO_init_53 : decode b_CO_init 53 = .ok (.invokespecial 46, 3) := by decide +kernel
theorem d_CO_init_56 : decode b_CO_init 56 = .ok (.putfield 47, 3) := by decide +kernel
theorem d_CO_init_59 : decode b_CO_init 59 = .ok (.return_, 1) := by decide +kernel
theorem d_CO_init : ∀ z ∈ q_CO_init, decode b_CO_init z.1 = .ok z.2 := List.forall_mem_cons.mpr ⟨d_CO_init_0, List.forall_mem_cons.mpr ⟨d_CO_init_1, List.forall_mem_cons.mpr ⟨d_CO_init_4, List.forall_mem_cons.mpr ⟨d_CO_init_5, List.forall_mem_cons.mpr ⟨d_CO_init_6, List.forall_mem_cons.mpr ⟨d_CO_init_9, List.forall_mem_cons.mpr ⟨d_CO_init_10, List.forall_mem_cons.mpr ⟨d_CO_init_11, List.forall_mem_cons.mpr ⟨d_CO_init_14, List.forall_mem_cons.mpr ⟨d_CO_init_15, List.forall_mem_cons.mpr ⟨d_CO_init_16, List.forall_mem_cons.mpr ⟨d_CO_init_19, List.forall_mem_cons.mpr ⟨d_CO_init_20, List.forall_mem_cons.mpr ⟨d_CO_init_21, List.forall_mem_cons.mpr ⟨d_CO_init_24, List.forall_mem_cons.mpr ⟨d_CO_init_25, List.forall_mem_cons.mpr ⟨d_CO_init_28, List.forall_mem_cons.mpr ⟨d_CO_init_29, List.forall_mem_cons.mpr ⟨d_CO_init_30, List.forall_mem_cons.mpr ⟨d_CO_init_33, List.forall_mem_cons.mpr ⟨d_CO_init_36, List.forall_mem_cons.mpr ⟨d_CO_init_37, List.forall_mem_cons.mpr ⟨d_CO_init_40, List.forall_mem_cons.mpr ⟨d_CO_init_41, List.forall_mem_cons.mpr ⟨d_CO_init_42, List.forall_mem_cons.mpr ⟨d_CO_init_45, List.forall_mem_cons.mpr ⟨d_CO_init_48, List.forall_mem_cons.mpr ⟨d_CO_init_49, List.forall_mem_cons.mpr ⟨d_CO_init_52, List.forall_mem_cons.mpr ⟨d_CO_init_53, List.forall_mem_cons.mpr ⟨d_CO_init_56, List.forall_mem_cons.mpr ⟨d_CO_init_59, fun _ h => absurd h List.not_mem_nil⟩⟩⟩⟩⟩⟩⟩⟩⟩⟩⟩⟩⟩⟩⟩⟩⟩⟩⟩⟩⟩⟩⟩⟩⟩⟩⟩⟩⟩⟩⟩⟩
theorem i_CO_init_ok : ∀ pc i n, i_CO_init pc = some (i, n) → decode b_CO_init pc = .ok (i, n) := fun pc i n h => d_CO_init (pc, i, n) (am_find_mem h)
theorem i_CO_init_0 : i_CO_init 0 = some (.aload_n 0, 1) := rfl
theorem i_CO_init_1 : i_CO_init 1 = some (.invokespecial 3, 3) := rfl
theorem i_CO_init_4 : i_CO_init 4 = some (.aload_n 0, 1) := rfl
theorem i_CO_init_5 : i_CO_init 5 = some (.iconst 0, 1) := rfl
theorem i_CO_init_6 : i_CO_init 6 = some (.putfield 9, 3) := rfl
theorem i_CO_init_9 : i_CO_init 9 = some (.aload_n 0, 1) := rfl
theorem i_CO_init_10 : i_CO_init 10 = some (.iconst 0, 1) := rfl
theorem i_CO_init_11 : i_CO_init 11 = some (.putfield 15, 3) := rfl
theorem i_CO_init_14 : i_CO_init 14 = some (.aload_n 0, 1) := rfl
theorem i_CO_init_15 : i_CO_init 15 = some (.aload_n 1, 1) := rfl
theorem i_CO_init_16 : i_CO_init 16 = some (.putfield 18, 3) := rfl
theorem i_CO_init_19 : i_CO_init 19 = some (.aload_n 0, 1) := rfl
theorem i_CO_init_20 : i_CO_init 20 = some (.aload_n 3, 1) := rfl
theorem i_CO_init_21 : i_CO_init 21 = some (.putfield 22, 3) := rfl
theorem i_CO_init_24 : i_CO_init 24 = some (.aload_n 0, 1) := rfl
theorem i_CO_init_25 : i_CO_init 25 = some (.new 26, 3) := rfl
theorem i_CO_init_28 : i_CO_init 28 = some (.dup, 1) := rfl
theorem i_CO_init_29 : i_CO_init 29 = some (.aload_n 1, 1) := rfl
theorem i_CO_init_30 : i_CO_init 30 = some (.invokespecial 28, 3) := rfl
theorem i_CO_init_33 : i_CO_init 33 = some (.putfield 31, 3) := rfl
theorem i_CO_init_36 : i_CO_init 36 = some (.aload_n 0, 1) := rfl
theorem i_CO_init_37 : i_CO_init 37 = some (.new 35, 3) := rfl
theorem i_CO_init_40 : i_CO_init 40 = some (.dup, 1) := rfl
theorem i_CO_init_41 : i_CO_init 41 = some (.aload_n 2, 1) := rfl
theorem i_CO_init_42 : i_CO_init 42 = some (.invokespecial 37, 3) := rfl
theorem i_CO_init_45 : i_CO_init 45 = some (.putfield 40, 3) := rfl
theorem i_CO_init_48 : i_CO_init 48 = some (.aload_n 0, 1) := rfl
theorem i_CO_init_49 : i_CO_init 49 = some (.new 44, 3) := rfl
theorem i_CO_init_52 : i_CO_init 52 = some (.dup, 1) := rfl
theorem i_CO_init_53 : i_CO_init 53 = some (.invokespecial 46, 3) := rfl
theorem i_CO_init_56 : i_CO_init 56 = some (.putfield 47, 3) := rfl
theorem i_CO_init_59 : i_CO_init 59 = some (.return_, 1) := rfl
abbrev w_CO_init : List Jvm.Cond := Jvm.Cond.code y_CO_init b_CO_init 4 none :: vw_W
theorem c_CO_init : Jvm.Cond.code y_CO_init b_CO_init 4 none ∈ vw_W := vw_t 195 (by decide +kernel) (by decide +kernel)
abbrev r_CO_init : Room := { frames := 1, cells := 0, slots := 0, locals := 21 }
abbrev b_QU_init : ByteArray := prog_7_method_1_code
abbrev y_QU_init : MethodName := ⟨"ServerDesk$Queue", "<init>", "(LServerDesk$JobLog;)V"⟩
def q_QU_init : List (Nat × Instr × Nat) := [(0, .aload_n 0, 1), (1, .invokespecial 3, 3), (4, .aload_n 0, 1), (5, .bipush 40, 2), (7, .newarray .int, 2), (9, .putfield 9, 3), (12, .aload_n 0, 1), (13, .bipush 40, 2), (15, .newarray .int, 2), (17, .putfield 15, 3), (20, .aload_n 0, 1), (21, .iconst 0, 1), (22, .putfield 18, 3), (25, .aload_n 0, 1), (26, .iconst 0, 1), (27, .putfield 22, 3), (30, .aload_n 0, 1), (31, .aload_n 1, 1), (32, .putfield 25, 3), (35, .return_, 1)]
def i_QU_init : Nat → Option (Instr × Nat) := am_find q_QU_init
theorem d_QU_init_0 : decode b_QU_init 0 = .ok (.aload_n 0, 1) := by decide +kernel
theorem d_QU_init_1 : decode b_QU_init 1 = .ok (.invokespecial 3, 3) := by decide +kernel
theorem d_QU_init_4 : decode b_QU_init 4 = .ok (.aload_n 0, 1) := by decide +kernel
theorem d_QU_init_5 : decode b_QU_init 5 = .ok (.bipush 40, 2) := by decide +kernel
theorem d_QU_init_7 : decode b_QU_init 7 = .ok (.newarray .int, 2) := by decide +kernel
theorem d_QU_init_9 : decode b_QU_init 9 = .ok (.putfield 9, 3) := by decide +kernel
theorem d_QU_init_12 : decode b_QU_init 12 = .ok (.aload_n 0, 1) := by decide +kernel
theorem d_QU_init_13 : decode b_QU_init 13 = .ok (.bipush 40, 2) := by decide +kernel
theorem d_QU_init_15 : decode b_QU_init 15 = .ok (.newarray .int, 2) := by decide +kernel
theorem d_QU_init_17 : decode b_QU_init 17 = .ok (.putfield 15, 3) := by decide +kernel
theorem d_QU_init_20 : decode b_QU_init 20 = .ok (.aload_n 0, 1) := by decide +kernel
theorem d_QU_init_21 : decode b_QU_init 21 = .ok (.iconst 0, 1) := by decide +kernel
theorem d_QU_init_22 : decode b_QU_init 22 = .ok (.putfield 18, 3) := by decide +kernel
theorem d_QU_init_25 : decode b_QU_init 25 = .ok (.aload_n 0, 1) := by decide +kernel
theorem d_QU_init_26 : decode b_QU_init 26 = .ok (.iconst 0, 1) := by decide +kernel
theorem d_QU_init_27 : decode b_QU_init 27 = .ok (.putfield 22, 3) := by decide +kernel
theorem d_QU_init_30 : decode b_QU_init 30 = .ok (.aload_n 0, 1) := by decide +kernel
theorem d_QU_init_31 : decode b_QU_init 31 = .ok (.aload_n 1, 1) := by decide +kernel
theorem d_QU_init_32 : decode b_QU_init 32 = .ok (.putfield 25, 3) := by decide +kernel
theorem d_QU_init_35 : decode b_QU_init 35 = .ok (.return_, 1) := by decide +kernel
theorem d_QU_init : ∀ z ∈ q_QU_init, decode b_QU_init z.1 = .ok z.2 := List.forall_mem_cons.mpr ⟨d_QU_init_0, List.forall_mem_cons.mpr ⟨d_QU_init_1, List.forall_mem_cons.mpr ⟨d_QU_init_4, List.forall_mem_cons.mpr ⟨d_QU_init_5, List.forall_mem_cons.mpr ⟨d_QU_init_7, List.forall_mem_cons.mpr ⟨d_QU_init_9, List.forall_mem_cons.mpr ⟨d_QU_init_12, List.forall_mem_cons.mpr ⟨d_QU_init_13, List.forall_mem_cons.mpr ⟨d_QU_init_15, List.forall_mem_cons.mpr ⟨d_QU_init_17, List.forall_mem_cons.mpr ⟨d_QU_init_20, List.forall_mem_cons.mpr ⟨d_QU_init_21, List.forall_mem_cons.mpr ⟨d_QU_init_22, List.forall_mem_cons.mpr ⟨d_QU_init_25, List.forall_mem_cons.mpr ⟨d_QU_init_26, List.forall_mem_cons.mpr ⟨d_QU_init_27, List.forall_mem_cons.mpr ⟨d_QU_init_30, List.forall_mem_cons.mpr ⟨d_QU_init_31, List.forall_mem_cons.mpr ⟨d_QU_init_32, List.forall_mem_cons.mpr ⟨d_QU_init_35, fun _ h => absurd h List.not_mem_nil⟩⟩⟩⟩⟩⟩⟩⟩⟩⟩⟩⟩⟩⟩⟩⟩⟩⟩⟩⟩
theorem i_QU_init_ok : ∀ pc i n, i_QU_init pc = some (i, n) → decode b_QU_init pc = .ok (i, n) := fun pc i n h => d_QU_init (pc, i, n) (am_find_mem h)
theorem i_QU_init_0 : i_QU_init 0 = some (.aload_n 0, 1) := rfl
theorem i_QU_init_1 : i_QU_init 1 = some (.invokespecial 3, 3) := rfl
theorem i_QU_init_4 : i_QU_init 4 = some (.aload_n 0, 1) := rfl
theorem i_QU_init_5 : i_QU_init 5 = some (.bipush 40, 2) := rfl
theorem i_QU_init_7 : i_QU_init 7 = some (.newarray .int, 2) := rfl
theorem i_QU_init_9 : i_QU_init 9 = some (.putfield 9, 3) := rfl
theorem i_QU_init_12 : i_QU_init 12 = some (.aload_n 0, 1) := rfl
theorem i_QU_init_13 : i_QU_init 13 = some (.bipush 40, 2) := rfl
theorem i_QU_init_15 : i_QU_init 15 = some (.newarray .int, 2) := rfl
theorem i_QU_init_17 : i_QU_init 17 = some (.putfield 15, 3) := rfl
theorem i_QU_init_20 : i_QU_init 20 = some (.aload_n 0, 1) := rfl
theorem i_QU_init_21 : i_QU_init 21 = some (.iconst 0, 1) := rfl
theorem i_QU_init_22 : i_QU_init 22 = some (.putfield 18, 3) := rfl
theorem i_QU_init_25 : i_QU_init 25 = some (.aload_n 0, 1) := rfl
theorem i_QU_init_26 : i_QU_init 26 = some (.iconst 0, 1) := rfl
theorem i_QU_init_27 : i_QU_init 27 = some (.putfield 22, 3) := rfl
theorem i_QU_init_30 : i_QU_init 30 = some (.aload_n 0, 1) := rfl
theorem i_QU_init_31 : i_QU_init 31 = some (.aload_n 1, 1) := rfl
theorem i_QU_init_32 : i_QU_init 32 = some (.putfield 25, 3) := rfl
theorem i_QU_init_35 : i_QU_init 35 = some (.return_, 1) := rfl
abbrev w_QU_init : List Jvm.Cond := Jvm.Cond.code y_QU_init b_QU_init 2 none :: vw_W
theorem c_QU_init : Jvm.Cond.code y_QU_init b_QU_init 2 none ∈ vw_W := vw_t 203 (by decide +kernel) (by decide +kernel)
abbrev r_QU_init : Room := { frames := 0, cells := 0, slots := 0, locals := 0 }
abbrev b_BU_init : ByteArray := prog_2_method_1_code
abbrev y_BU_init : MethodName := ⟨"ServerDesk$Budget", "<init>", "()V"⟩
def q_BU_init : List (Nat × Instr × Nat) := [(0, .aload_n 0, 1), (1, .invokespecial 3, 3), (4, .aload_n 0, 1), (5, .bipush 60, 2), (7, .newarray .int, 2), (9, .putfield 9, 3), (12, .aload_n 0, 1), (13, .iconst 0, 1), (14, .putfield 15, 3), (17, .aload_n 0, 1), (18, .iconst 0, 1), (19, .putfield 19, 3), (22, .aload_n 0, 1), (23, .bipush 60, 2), (25, .putfield 22, 3), (28, .aload_n 0, 1), (29, .iconst 0, 1), (30, .putfield 25, 3), (33, .return_, 1)]
def i_BU_init : Nat → Option (Instr × Nat) := am_find q_BU_init
theorem d_BU_init_0 : decode b_BU_init 0 = .ok (.aload_n 0, 1) := by decide +kernel
theorem d_BU_init_1 : decode b_BU_init 1 = .ok (.invokespecial 3, 3) := by decide +kernel
theorem d_BU_init_4 : decode b_BU_init 4 = .ok (.aload_n 0, 1) := by decide +kernel
theorem d_BU_init_5 : decode b_BU_init 5 = .ok (.bipush 60, 2) := by decide +kernel
theorem d_BU_init_7 : decode b_BU_init 7 = .ok (.newarray .int, 2) := by decide +kernel
theorem d_BU_init_9 : decode b_BU_init 9 = .ok (.putfield 9, 3) := by decide +kernel
theorem d_BU_init_12 : decode b_BU_init 12 = .ok (.aload_n 0, 1) := by decide +kernel
theorem d_BU_init_13 : decode b_BU_init 13 = .ok (.iconst 0, 1) := by decide +kernel
theorem d_BU_init_14 : decode b_BU_init 14 = .ok (.putfield 15, 3) := by decide +kernel
theorem d_BU_init_17 : decode b_BU_init 17 = .ok (.aload_n 0, 1) := by decide +kernel
theorem d_BU_init_18 : decode b_BU_init 18 = .ok (.iconst 0, 1) := by decide +kernel
theorem d_BU_init_19 : decode b_BU_init 19 = .ok (.putfield 19, 3) := by decide +kernel
theorem d_BU_init_22 : decode b_BU_init 22 = .ok (.aload_n 0, 1) := by decide +kernel
theorem d_BU_init_23 : decode b_BU_init 23 = .ok (.bipush 60, 2) := by decide +kernel
theorem d_BU_init_25 : decode b_BU_init 25 = .ok (.putfield 22, 3) := by decide +kernel
theorem d_BU_init_28 : decode b_BU_init 28 = .ok (.aload_n 0, 1) := by decide +kernel
theorem d_BU_init_29 : decode b_BU_init 29 = .ok (.iconst 0, 1) := by decide +kernel
theorem d_BU_init_30 : decode b_BU_init 30 = .ok (.putfield 25, 3) := by decide +kernel
theorem d_BU_init_33 : decode b_BU_init 33 = .ok (.return_, 1) := by decide +kernel
theorem d_BU_init : ∀ z ∈ q_BU_init, decode b_BU_init z.1 = .ok z.2 := List.forall_mem_cons.mpr ⟨d_BU_init_0, List.forall_mem_cons.mpr ⟨d_BU_init_1, List.forall_mem_cons.mpr ⟨d_BU_init_4, List.forall_mem_cons.mpr ⟨d_BU_init_5, List.forall_mem_cons.mpr ⟨d_BU_init_7, List.forall_mem_cons.mpr ⟨d_BU_init_9, List.forall_mem_cons.mpr ⟨d_BU_init_12, List.forall_mem_cons.mpr ⟨d_BU_init_13, List.forall_mem_cons.mpr ⟨d_BU_init_14, List.forall_mem_cons.mpr ⟨d_BU_init_17, List.forall_mem_cons.mpr ⟨d_BU_init_18, List.forall_mem_cons.mpr ⟨d_BU_init_19, List.forall_mem_cons.mpr ⟨d_BU_init_22, List.forall_mem_cons.mpr ⟨d_BU_init_23, List.forall_mem_cons.mpr ⟨d_BU_init_25, List.forall_mem_cons.mpr ⟨d_BU_init_28, List.forall_mem_cons.mpr ⟨d_BU_init_29, List.forall_mem_cons.mpr ⟨d_BU_init_30, List.forall_mem_cons.mpr ⟨d_BU_init_33, fun _ h => absurd h List.not_mem_nil⟩⟩⟩⟩⟩⟩⟩⟩⟩⟩⟩⟩⟩⟩⟩⟩⟩⟩⟩
theorem i_BU_init_ok : ∀ pc i n, i_BU_init pc = some (i, n) → decode b_BU_init pc = .ok (i, n) := fun pc i n h => d_BU_init (pc, i, n) (am_find_mem h)
theorem i_BU_init_0 : i_BU_init 0 = some (.aload_n 0, 1) := rfl
theorem i_BU_init_1 : i_BU_init 1 = some (.invokespecial 3, 3) := rfl
theorem i_BU_init_4 : i_BU_init 4 = some (.aload_n 0, 1) := rfl
theorem i_BU_init_5 : i_BU_init 5 = some (.bipush 60, 2) := rfl
theorem i_BU_init_7 : i_BU_init 7 = some (.newarray .int, 2) := rfl
theorem i_BU_init_9 : i_BU_init 9 = some (.putfield 9, 3) := rfl
theorem i_BU_init_12 : i_BU_init 12 = some (.aload_n 0, 1) := rfl
theorem i_BU_init_13 : i_BU_init 13 = some (.iconst 0, 1) := rfl
theorem i_BU_init_14 : i_BU_init 14 = some (.putfield 15, 3) := rfl
theorem i_BU_init_17 : i_BU_init 17 = some (.aload_n 0, 1) := rfl
theorem i_BU_init_18 : i_BU_init 18 = some (.iconst 0, 1) := rfl
theorem i_BU_init_19 : i_BU_init 19 = some (.putfield 19, 3) := rfl
theorem i_BU_init_22 : i_BU_init 22 = some (.aload_n 0, 1) := rfl
theorem i_BU_init_23 : i_BU_init 23 = some (.bipush 60, 2) := rfl
theorem i_BU_init_25 : i_BU_init 25 = some (.putfield 22, 3) := rfl
theorem i_BU_init_28 : i_BU_init 28 = some (.aload_n 0, 1) := rfl
theorem i_BU_init_29 : i_BU_init 29 = some (.iconst 0, 1) := rfl
theorem i_BU_init_30 : i_BU_init 30 = some (.putfield 25, 3) := rfl
theorem i_BU_init_33 : i_BU_init 33 = some (.return_, 1) := rfl
abbrev w_BU_init : List Jvm.Cond := Jvm.Cond.code y_BU_init b_BU_init 1 none :: vw_W
theorem c_BU_init : Jvm.Cond.code y_BU_init b_BU_init 1 none ∈ vw_W := vw_t 229 (by decide +kernel) (by decide +kernel)
abbrev r_BU_init : Room := { frames := 0, cells := 0, slots := 0, locals := 0 }
abbrev b_RF_init : ByteArray := prog_8_method_1_code
abbrev y_RF_init : MethodName := ⟨"ServerDesk$Referee", "<init>", "(LServerDesk$Course;LServerDesk$JobLog;LServerDesk$EarlyLog;)V"⟩
def q_RF_init : List (Nat × Instr × Nat) := [(0, .aload_n 0, 1), (1, .invokespecial 3, 3), (4, .aload_n 0, 1), (5, .iconst 0, 1), (6, .putfield 9, 3), (9, .aload_n 0, 1), (10, .iconst 0, 1), (11, .putfield 15, 3), (14, .aload_n 0, 1), (15, .iconst 0, 1), (16, .putfield 18, 3), (19, .aload_n 0, 1), (20, .aload_n 1, 1), (21, .putfield 21, 3), (24, .aload_n 0, 1), (25, .aload_n 2, 1), (26, .putfield 25, 3), (29, .aload_n 0, 1), (30, .aload_n 3, 1), (31, .putfield 29, 3), (34, .return_, 1)]
def i_RF_init : Nat → Option (Instr × Nat) := am_find q_RF_init
theorem d_RF_init_0 : decode b_RF_init 0 = .ok (.aload_n 0, 1) := by decide +kernel
theorem d_RF_init_1 : decode b_RF_init 1 = .ok (.invokespecial 3, 3) := by decide +kernel
theorem d_RF_init_4 : decode b_RF_init 4 = .ok (.aload_n 0, 1) := by decide +kernel
theorem d_RF_init_5 : decode b_RF_init 5 = .ok (.iconst 0, 1) := by decide +kernel
theorem d_RF_init_6 : decode b_RF_init 6 = .ok (.putfield 9, 3) := by decide +kernel
theorem d_RF_init_9 : decode b_RF_init 9 = .ok (.aload_n 0, 1) := by decide +kernel
theorem d_RF_init_10 : decode b_RF_init 10 = .ok (.iconst 0, 1) := by decide +kernel
theorem d_RF_init_11 : decode b_RF_init 11 = .ok (.putfield 15, 3) := by decide +kernel
theorem d_RF_init_14 : decode b_RF_init 14 = .ok (.aload_n 0, 1) := by decide +kernel
theorem d_RF_init_15 : decode b_RF_init 15 = .ok (.iconst 0, 1) := by decide +kernel
theorem d_RF_init_16 : decode b_RF_init 16 = .ok (.putfield 18, 3) := by decide +kernel
theorem d_RF_init_19 : decode b_RF_init 19 = .ok (.aload_n 0, 1) := by decide +kernel
theorem d_RF_init_20 : decode b_RF_init 20 = .ok (.aload_n 1, 1) := by decide +kernel
theorem d_RF_init_21 : decode b_RF_init 21 = .ok (.putfield 21, 3) := by decide +kernel
theorem d_RF_init_24 : decode b_RF_init 24 = .ok (.aload_n 0, 1) := by decide +kernel
theorem d_RF_init_25 : decode b_RF_init 25 = .ok (.aload_n 2, 1) := by decide +kernel
theorem d_RF_init_26 : decode b_RF_init 26 = .ok (.putfield 25, 3) := by decide +kernel
theorem d_RF_init_29 : decode b_RF_init 29 = .ok (.aload_n 0, 1) := by decide +kernel
theorem d_RF_init_30 : decode b_RF_init 30 = .ok (.aload_n 3, 1) := by decide +kernel
theorem d_RF_init_31 : decode b_RF_init 31 = .ok (.putfield 29, 3) := by decide +kernel
theorem d_RF_init_34 : decode b_RF_init 34 = .ok (.return_, 1) := by decide +kernel
theorem d_RF_init : ∀ z ∈ q_RF_init, decode b_RF_init z.1 = .ok z.2 := List.forall_mem_cons.mpr ⟨d_RF_init_0, List.forall_mem_cons.mpr ⟨d_RF_init_1, List.forall_mem_cons.mpr ⟨d_RF_init_4, List.forall_mem_cons.mpr ⟨d_RF_init_5, List.forall_mem_cons.mpr ⟨d_RF_init_6, List.forall_mem_cons.mpr ⟨d_RF_init_9, List.forall_mem_cons.mpr ⟨d_RF_init_10, List.forall_mem_cons.mpr ⟨d_RF_init_11, List.forall_mem_cons.mpr ⟨d_RF_init_14, List.forall_mem_cons.mpr ⟨d_RF_init_15, List.forall_mem_cons.mpr ⟨d_RF_init_16, List.forall_mem_cons.mpr ⟨d_RF_init_19, List.forall_mem_cons.mpr ⟨d_RF_init_20, List.forall_mem_cons.mpr ⟨d_RF_init_21, List.forall_mem_cons.mpr ⟨d_RF_init_24, List.forall_mem_cons.mpr ⟨d_RF_init_25, List.forall_mem_cons.mpr ⟨d_RF_init_26, List.forall_mem_cons.mpr ⟨d_RF_init_29, List.forall_mem_cons.mpr ⟨d_RF_init_30, List.forall_mem_cons.mpr ⟨d_RF_init_31, List.forall_mem_cons.mpr ⟨d_RF_init_34, fun _ h => absurd h List.not_mem_nil⟩⟩⟩⟩⟩⟩⟩⟩⟩⟩⟩⟩⟩⟩⟩⟩⟩⟩⟩⟩⟩
theorem i_RF_init_ok : ∀ pc i n, i_RF_init pc = some (i, n) → decode b_RF_init pc = .ok (i, n) := fun pc i n h => d_RF_init (pc, i, n) (am_find_mem h)
theorem i_RF_init_0 : i_RF_init 0 = some (.aload_n 0, 1) := rfl
theorem i_RF_init_1 : i_RF_init 1 = some (.invokespecial 3, 3) := rfl
theorem i_RF_init_4 : i_RF_init 4 = some (.aload_n 0, 1) := rfl
theorem i_RF_init_5 : i_RF_init 5 = some (.iconst 0, 1) := rfl
theorem i_RF_init_6 : i_RF_init 6 = some (.putfield 9, 3) := rfl
theorem i_RF_init_9 : i_RF_init 9 = some (.aload_n 0, 1) := rfl
theorem i_RF_init_10 : i_RF_init 10 = some (.iconst 0, 1) := rfl
theorem i_RF_init_11 : i_RF_init 11 = some (.putfield 15, 3) := rfl
theorem i_RF_init_14 : i_RF_init 14 = some (.aload_n 0, 1) := rfl
theorem i_RF_init_15 : i_RF_init 15 = some (.iconst 0, 1) := rfl
theorem i_RF_init_16 : i_RF_init 16 = some (.putfield 18, 3) := rfl
theorem i_RF_init_19 : i_RF_init 19 = some (.aload_n 0, 1) := rfl
theorem i_RF_init_20 : i_RF_init 20 = some (.aload_n 1, 1) := rfl
theorem i_RF_init_21 : i_RF_init 21 = some (.putfield 21, 3) := rfl
theorem i_RF_init_24 : i_RF_init 24 = some (.aload_n 0, 1) := rfl
theorem i_RF_init_25 : i_RF_init 25 = some (.aload_n 2, 1) := rfl
theorem i_RF_init_26 : i_RF_init 26 = some (.putfield 25, 3) := rfl
theorem i_RF_init_29 : i_RF_init 29 = some (.aload_n 0, 1) := rfl
theorem i_RF_init_30 : i_RF_init 30 = some (.aload_n 3, 1) := rfl
theorem i_RF_init_31 : i_RF_init 31 = some (.putfield 29, 3) := rfl
theorem i_RF_init_34 : i_RF_init 34 = some (.return_, 1) := rfl
abbrev w_RF_init : List Jvm.Cond := Jvm.Cond.code y_RF_init b_RF_init 4 none :: vw_W
theorem c_RF_init : Jvm.Cond.code y_RF_init b_RF_init 4 none ∈ vw_W := vw_t 284 (by decide +kernel) (by decide +kernel)
abbrev r_RF_init : Room := { frames := 0, cells := 0, slots := 0, locals := 0 }
abbrev b_SD_reset : ByteArray := prog_1_method_15_code
abbrev y_SD_reset : MethodName := ⟨"ServerDesk", "reset", "()V"⟩
def q_SD_reset : List (Nat × Instr × Nat) := [(0, .aload_n 0, 1), (1, .getfield 10, 3), (4, .invokevirtual 245, 3), (7, .aload_n 0, 1), (8, .getfield 19, 3), (11, .invokevirtual 248, 3), (14, .aload_n 0, 1), (15, .getfield 26, 3), (18, .iconst 0, 1), (19, .putfield 145, 3), (22, .aload_n 0, 1), (23, .getfield 33, 3), (26, .iconst 0, 1), (27, .putfield 179, 3), (30, .aload_n 0, 1), (31, .getfield 51, 3), (34, .aload_n 0, 1), (35, .getfield 19, 3), (38, .aload_n 0, 1), (39, .getfield 19, 3), (42, .getfield 127, 3), (45, .invokevirtual 132, 3), (48, .aload_n 0, 1), (49, .getfield 60, 3), (52, .invokevirtual 249, 3), (55, .aload_n 0, 1), (56, .iconst 0, 1), (57, .putfield 68, 3), (60, .aload_n 0, 1), (61, .iconst 0, 1), (62, .putfield 72, 3), (65, .return_, 1)]
def i_SD_reset : Nat → Option (Instr × Nat) := am_find q_SD_reset
theorem d_SD_reset_0 : decode b_SD_reset 0 = .ok (.aload_n 0, 1) := by decide +kernel
theorem d_SD_reset_1 : decode b_SD_reset 1 = .ok (.getfield 10, 3) := by decide +kernel
theorem d_SD_reset_4 : decode b_SD_reset 4 = .ok (.invokevirtual 245, 3) := by decide +kernel
theorem d_SD_reset_7 : decode b_SD_reset 7 = .ok (.aload_n 0, 1) := by decide +kernel
theorem d_SD_reset_8 : decode b_SD_reset 8 = .ok (.getfield 19, 3) := by decide +kernel
theorem d_SD_reset_11 : decode b_SD_reset 11 = .ok (.invokevirtual 248, 3) := by decide +kernel
theorem d_SD_reset_14 : decode b_SD_reset 14 = .ok (.aload_n 0, 1) := by decide +kernel
theorem d_SD_reset_15 : decode b_SD_reset 15 = .ok (.getfield 26, 3) := by decide +kernel
theorem d_SD_reset_18 : decode b_SD_reset 18 = .ok (.iconst 0, 1) := by decide +kernel
theorem d_SD_reset_19 : decode b_SD_reset 19 = .ok (.putfield 145, 3) := by decide +kernel
theorem d_SD_reset_22 : decode b_SD_reset 22 = .ok (.aload_n 0, 1) := by decide +kernel
theorem d_SD_reset_23 : decode b_SD_reset 23 = .ok (.getfield 33, 3) := by decide +kernel
theorem d_SD_reset_26 : decode b_SD_reset 26 = .ok (.iconst 0, 1) := by decide +kernel
theorem d_SD_reset_27 : decode b_SD_reset 27 = .ok (.putfield 179, 3) := by decide +kernel
theorem d_SD_reset_30 : decode b_SD_reset 30 = .ok (.aload_n 0, 1) := by decide +kernel
theorem d_SD_reset_31 : decode b_SD_reset 31 = .ok (.getfield 51, 3) := by decide +kernel
theorem d_SD_reset_34 : decode b_SD_reset 34 = .ok (.aload_n 0, 1) := by decide +kernel
theorem d_SD_reset_35 : decode b_SD_reset 35 = .ok (.getfield 19, 3) := by decide +kernel
theorem d_SD_reset_38 : decode b_SD_reset 38 = .ok (.aload_n 0, 1) := by decide +kernel
theorem d_SD_reset_39 : decode b_SD_reset 39 = .ok (.getfield 19, 3) := by decide +kernel
theorem d_SD_reset_42 : decode b_SD_reset 42 = .ok (.getfield 127, 3) := by decide +kernel
theorem d_SD_reset_45 : decode b_SD_reset 45 = .ok (.invokevirtual 132, 3) := by decide +kernel
theorem d_SD_reset_48 : decode b_SD_reset 48 = .ok (.aload_n 0, 1) := by decide +kernel
theorem d_SD_reset_49 : decode b_SD_reset 49 = .ok (.getfield 60, 3) := by decide +kernel
theorem d_SD_reset_52 : decode b_SD_reset 52 = .ok (.invokevirtual 249, 3) := by decide +kernel
theorem d_SD_reset_55 : decode b_SD_reset 55 = .ok (.aload_n 0, 1) := by decide +kernel
theorem d_SD_reset_56 : decode b_SD_reset 56 = .ok (.iconst 0, 1) := by decide +kernel
theorem d_SD_reset_57 : decode b_SD_reset 57 = .ok (.putfield 68, 3) := by decide +kernel
theorem d_SD_reset_60 : decode b_SD_reset 60 = .ok (.aload_n 0, 1) := by decide +kernel
theorem d_SD_reset_61 : decode b_SD_reset 61 = .ok (.iconst 0, 1) := by decide +kernel
theorem d_SD_reset_62 : decode b_SD_reset 62 = .ok (.putfield 72, 3) := by decide +kernel
theorem d_SD_reset_65 : decode b_SD_reset 65 = .ok (.return_, 1) := by decide +kernel
theorem d_SD_reset : ∀ z ∈ q_SD_reset, decode b_SD_reset z.1 = .ok z.2 := List.forall_mem_cons.mpr ⟨d_SD_reset_0, List.forall_mem_cons.mpr ⟨d_SD_reset_1, List.forall_mem_cons.mpr ⟨d_SD_reset_4, List.forall_mem_cons.mpr ⟨d_SD_reset_7, List.forall_mem_cons.mpr ⟨d_SD_reset_8, List.forall_mem_cons.mpr ⟨d_SD_reset_11, List.forall_mem_cons.mpr ⟨d_SD_reset_14, List.forall_mem_cons.mpr ⟨d_SD_reset_15, List.forall_mem_cons.mpr ⟨d_SD_reset_18, List.forall_mem_cons.mpr ⟨d_SD_reset_19, List.forall_mem_cons.mpr ⟨d_SD_reset_22, List.forall_mem_cons.mpr ⟨d_SD_reset_23, List.forall_mem_cons.mpr ⟨d_SD_reset_26, List.forall_mem_cons.mpr ⟨d_SD_reset_27, List.forall_mem_cons.mpr ⟨d_SD_reset_30, List.forall_mem_cons.mpr ⟨d_SD_reset_31, List.forall_mem_cons.mpr ⟨d_SD_reset_34, List.forall_mem_cons.mpr ⟨d_SD_reset_35, List.forall_mem_cons.mpr ⟨d_SD_reset_38, List.forall_mem_cons.mpr ⟨d_SD_reset_39, List.forall_mem_cons.mpr ⟨d_SD_reset_42, List.forall_mem_cons.mpr ⟨d_SD_reset_45, List.forall_mem_cons.mpr ⟨d_SD_reset_48, List.forall_mem_cons.mpr ⟨d_SD_reset_49, List.forall_mem_cons.mpr ⟨d_SD_reset_52, List.forall_mem_cons.mpr ⟨d_SD_reset_55, List.forall_mem_cons.mpr ⟨d_SD_reset_56, List.forall_mem_cons.mpr ⟨d_SD_reset_57, List.forall_mem_cons.mpr ⟨d_SD_reset_60, List.forall_mem_cons.mpr ⟨d_SD_reset_61, List.forall_mem_cons.mpr ⟨d_SD_reset_62, List.forall_mem_cons.mpr ⟨d_SD_reset_65, fun _ h => absurd h List.not_mem_nil⟩⟩⟩⟩⟩⟩⟩⟩⟩⟩⟩⟩⟩⟩⟩⟩⟩⟩⟩⟩⟩⟩⟩⟩⟩⟩⟩⟩⟩⟩⟩⟩
theorem i_SD_reset_ok : ∀ pc i n, i_SD_reset pc = some (i, n) → decode b_SD_reset pc = .ok (i, n) := fun pc i n h => d_SD_reset (pc, i, n) (am_find_mem h)
theorem i_SD_reset_0 : i_SD_reset 0 = some (.aload_n 0, 1) := rfl
theorem i_SD_reset_1 : i_SD_reset 1 = some (.getfield 10, 3) := rfl
theorem i_SD_reset_4 : i_SD_reset 4 = some (.invokevirtual 245, 3) := rfl
theorem i_SD_reset_7 : i_SD_reset 7 = some (.aload_n 0, 1) := rfl
theorem i_SD_reset_8 : i_SD_reset 8 = some (.getfield 19, 3) := rfl
theorem i_SD_reset_11 : i_SD_reset 11 = some (.invokevirtual 248, 3) := rfl
theorem i_SD_reset_14 : i_SD_reset 14 = some (.aload_n 0, 1) := rfl
theorem i_SD_reset_15 : i_SD_reset 15 = some (.getfield 26, 3) := rfl
theorem i_SD_reset_18 : i_SD_reset 18 = some (.iconst 0, 1) := rfl
theorem i_SD_reset_19 : i_SD_reset 19 = some (.putfield 145, 3) := rfl
theorem i_SD_reset_22 : i_SD_reset 22 = some (.aload_n 0, 1) := rfl
theorem i_SD_reset_23 : i_SD_reset 23 = some (.getfield 33, 3) := rfl
theorem i_SD_reset_26 : i_SD_reset 26 = some (.iconst 0, 1) := rfl
theorem i_SD_reset_27 : i_SD_reset 27 = some (.putfield 179, 3) := rfl
theorem i_SD_reset_30 : i_SD_reset 30 = some (.aload_n 0, 1) := rfl
theorem i_SD_reset_31 : i_SD_reset 31 = some (.getfield 51, 3) := rfl
theorem i_SD_reset_34 : i_SD_reset 34 = some (.aload_n 0, 1) := rfl
theorem i_SD_reset_35 : i_SD_reset 35 = some (.getfield 19, 3) := rfl
theorem i_SD_reset_38 : i_SD_reset 38 = some (.aload_n 0, 1) := rfl
theorem i_SD_reset_39 : i_SD_reset 39 = some (.getfield 19, 3) := rfl
theorem i_SD_reset_42 : i_SD_reset 42 = some (.getfield 127, 3) := rfl
theorem i_SD_reset_45 : i_SD_reset 45 = some (.invokevirtual 132, 3) := rfl
theorem i_SD_reset_48 : i_SD_reset 48 = some (.aload_n 0, 1) := rfl
theorem i_SD_reset_49 : i_SD_reset 49 = some (.getfield 60, 3) := rfl
theorem i_SD_reset_52 : i_SD_reset 52 = some (.invokevirtual 249, 3) := rfl
theorem i_SD_reset_55 : i_SD_reset 55 = some (.aload_n 0, 1) := rfl
theorem i_SD_reset_56 : i_SD_reset 56 = some (.iconst 0, 1) := rfl
theorem i_SD_reset_57 : i_SD_reset 57 = some (.putfield 68, 3) := rfl
theorem i_SD_reset_60 : i_SD_reset 60 = some (.aload_n 0, 1) := rfl
theorem i_SD_reset_61 : i_SD_reset 61 = some (.iconst 0, 1) := rfl
theorem i_SD_reset_62 : i_SD_reset 62 = some (.putfield 72, 3) := rfl
theorem i_SD_reset_65 : i_SD_reset 65 = some (.return_, 1) := rfl
abbrev w_SD_reset : List Jvm.Cond := Jvm.Cond.code y_SD_reset b_SD_reset 1 none :: vw_W
theorem c_SD_reset : Jvm.Cond.code y_SD_reset b_SD_reset 1 none ∈ vw_W := vw_t 342 (by decide +kernel) (by decide +kernel)
abbrev r_SD_reset : Room := { frames := 3, cells := 0, slots := 0, locals := 67 }
abbrev b_TS_clear : ByteArray := prog_11_method_2_code
abbrev y_TS_clear : MethodName := ⟨"ServerDesk$TaskSet", "clear", "()V"⟩
def q_TS_clear : List (Nat × Instr × Nat) := [(0, .aload_n 0, 1), (1, .iconst 0, 1), (2, .putfield 27, 3), (5, .aload_n 0, 1), (6, .iconst 1, 1), (7, .putfield 31, 3), (10, .return_, 1)]
def i_TS_clear : Nat → Option (Instr × Nat) := am_find q_TS_clear
theorem d_TS_clear_0 : decode b_TS_clear 0 = .ok (.aload_n 0, 1) := by decide +kernel
theorem d_TS_clear_1 : decode b_TS_clear 1 = .ok (.iconst 0, 1) := by decide +kernel
theorem d_TS_clear_2 : decode b_TS_clear 2 = .ok (.putfield 27, 3) := by decide +kernel
theorem d_TS_clear_5 : decode b_TS_clear 5 = .ok (.aload_n 0, 1) := by decide +kernel
theorem d_TS_clear_6 : decode b_TS_clear 6 = .ok (.iconst 1, 1) := by decide +kernel
theorem d_TS_clear_7 : decode b_TS_clear 7 = .ok (.putfield 31, 3) := by decide +kernel
theorem d_TS_clear_10 : decode b_TS_clear 10 = .ok (.return_, 1) := by decide +kernel
theorem d_TS_clear : ∀ z ∈ q_TS_clear, decode b_TS_clear z.1 = .ok z.2 := List.forall_mem_cons.mpr ⟨d_TS_clear_0, List.forall_mem_cons.mpr ⟨d_TS_clear_1, List.forall_mem_cons.mpr ⟨d_TS_clear_2, List.forall_mem_cons.mpr ⟨d_TS_clear_5, List.forall_mem_cons.mpr ⟨d_TS_clear_6, List.forall_mem_cons.mpr ⟨d_TS_clear_7, List.forall_mem_cons.mpr ⟨d_TS_clear_10, fun _ h => absurd h List.not_mem_nil⟩⟩⟩⟩⟩⟩⟩
theorem i_TS_clear_ok : ∀ pc i n, i_TS_clear pc = some (i, n) → decode b_TS_clear pc = .ok (i, n) := fun pc i n h => d_TS_clear (pc, i, n) (am_find_mem h)
theorem i_TS_clear_0 : i_TS_clear 0 = some (.aload_n 0, 1) := rfl
theorem i_TS_clear_1 : i_TS_clear 1 = some (.iconst 0, 1) := rfl
theorem i_TS_clear_2 : i_TS_clear 2 = some (.putfield 27, 3) := rfl
theorem i_TS_clear_5 : i_TS_clear 5 = some (.aload_n 0, 1) := rfl
theorem i_TS_clear_6 : i_TS_clear 6 = some (.iconst 1, 1) := rfl
theorem i_TS_clear_7 : i_TS_clear 7 = some (.putfield 31, 3) := rfl
theorem i_TS_clear_10 : i_TS_clear 10 = some (.return_, 1) := rfl
abbrev w_TS_clear : List Jvm.Cond := Jvm.Cond.code y_TS_clear b_TS_clear 1 none :: vw_W
theorem c_TS_clear : Jvm.Cond.code y_TS_clear b_TS_clear 1 none ∈ vw_W := vw_t 346 (by decide +kernel) (by decide +kernel)
abbrev r_TS_clear : Room := { frames := 0, cells := 0, slots := 0, locals := 0 }
abbrev b_CO_begin : ByteArray := prog_3_method_2_code
abbrev y_CO_begin : MethodName := ⟨"ServerDesk$Course", "begin", "(LServerDesk$RuleBook;I)V"⟩
def q_CO_begin : List (Nat × Instr × Nat) := [(0, .aload_n 0, 1), (1, .getfield 31, 3), (4, .invokevirtual 51, 3), (7, .aload_n 0, 1), (8, .getfield 40, 3), (11, .invokevirtual 54, 3), (14, .aload_n 0, 1), (15, .getfield 47, 3), (18, .aload_n 1, 1), (19, .iload_n 2, 1), (20, .invokevirtual 55, 3), (23, .aload_n 0, 1), (24, .iload_n 2, 1), (25, .putfield 9, 3), (28, .aload_n 0, 1), (29, .iconst 0, 1), (30, .putfield 15, 3), (33, .return_, 1)]
def i_CO_begin : Nat → Option (Instr × Nat) := am_find q_CO_begin
theorem d_CO_begin_0 : decode b_CO_begin 0 = .ok (.aload_n 0, 1) := by decide +kernel
theorem d_CO_begin_1 : decode b_CO_begin 1 = .ok (.getfield 31, 3) := by decide +kernel
theorem d_CO_begin_4 : decode b_CO_begin 4 = .ok (.invokevirtual 51, 3) := by decide +kernel
theorem d_CO_begin_7 : decode b_CO_begin 7 = .ok (.aload_n 0, 1) := by decide +kernel
theorem d_CO_begin_8 : decode b_CO_begin 8 = .ok (.getfield 40, 3) := by decide +kernel
theorem d_CO_begin_11 : decode b_CO_begin 11 = .ok (.invokevirtual 54, 3) := by decide +kernel
theorem d_CO_begin_14 : decode b_CO_begin 14 = .ok (.aload_n 0, 1) := by decide +kernel
theorem d_CO_begin_15 : decode b_CO_begin 15 = .ok (.getfield 47, 3) := by decide +kernel
theorem d_CO_begin_18 : decode b_CO_begin 18 = .ok (.aload_n 1, 1) := by decide +kernel
theorem d_CO_begin_19 : decode b_CO_begin 19 = .ok (.iload_n 2, 1) := by decide +kernel
theorem d_CO_begin_20 : decode b_CO_begin 20 = .ok (.invokevirtual 55, 3) := by decide +kernel
theorem d_CO_begin_23 : decode b_CO_begin 23 = .ok (.aload_n 0, 1) := by decide +kernel
theorem d_CO_begin_24 : decode b_CO_begin 24 = .ok (.iload_n 2, 1) := by decide +kernel
theorem d_CO_begin_25 : decode b_CO_begin 25 = .ok (.putfield 9, 3) := by decide +kernel
theorem d_CO_begin_28 : decode b_CO_begin 28 = .ok (.aload_n 0, 1) := by decide +kernel
theorem d_CO_begin_29 : decode b_CO_begin 29 = .ok (.iconst 0, 1) := by decide +kernel
theorem d_CO_begin_30 : decode b_CO_begin 30 = .ok (.putfield 15, 3) := by decide +kernel
theorem d_CO_begin_33 : decode b_CO_begin 33 = .ok (.return_, 1) := by decide +kernel
theorem d_CO_begin : ∀ z ∈ q_CO_begin, decode b_CO_begin z.1 = .ok z.2 := List.forall_mem_cons.mpr ⟨d_CO_begin_0, List.forall_mem_cons.mpr ⟨d_CO_begin_1, List.forall_mem_cons.mpr ⟨d_CO_begin_4, List.forall_mem_cons.mpr ⟨d_CO_begin_7, List.forall_mem_cons.mpr ⟨d_CO_begin_8, List.forall_mem_cons.mpr ⟨d_CO_begin_11, List.forall_mem_cons.mpr ⟨d_CO_begin_14, List.forall_mem_cons.mpr ⟨d_CO_begin_15, List.forall_mem_cons.mpr ⟨d_CO_begin_18, List.forall_mem_cons.mpr ⟨d_CO_begin_19, List.forall_mem_cons.mpr ⟨d_CO_begin_20, List.forall_mem_cons.mpr ⟨d_CO_begin_23, List.forall_mem_cons.mpr ⟨d_CO_begin_24, List.forall_mem_cons.mpr ⟨d_CO_begin_25, List.forall_mem_cons.mpr ⟨d_CO_begin_28, List.forall_mem_cons.mpr ⟨d_CO_begin_29, List.forall_mem_cons.mpr ⟨d_CO_begin_30, List.forall_mem_cons.mpr ⟨d_CO_begin_33, fun _ h => absurd h List.not_mem_nil⟩⟩⟩⟩⟩⟩⟩⟩⟩⟩⟩⟩⟩⟩⟩⟩⟩⟩
theorem i_CO_begin_ok : ∀ pc i n, i_CO_begin pc = some (i, n) → decode b_CO_begin pc = .ok (i, n) := fun pc i n h => d_CO_begin (pc, i, n) (am_find_mem h)
theorem i_CO_begin_0 : i_CO_begin 0 = some (.aload_n 0, 1) := rfl
theorem i_CO_begin_1 : i_CO_begin 1 = some (.getfield 31, 3) := rfl
theorem i_CO_begin_4 : i_CO_begin 4 = some (.invokevirtual 51, 3) := rfl
theorem i_CO_begin_7 : i_CO_begin 7 = some (.aload_n 0, 1) := rfl
theorem i_CO_begin_8 : i_CO_begin 8 = some (.getfield 40, 3) := rfl
theorem i_CO_begin_11 : i_CO_begin 11 = some (.invokevirtual 54, 3) := rfl
theorem i_CO_begin_14 : i_CO_begin 14 = some (.aload_n 0, 1) := rfl
theorem i_CO_begin_15 : i_CO_begin 15 = some (.getfield 47, 3) := rfl
theorem i_CO_begin_18 : i_CO_begin 18 = some (.aload_n 1, 1) := rfl
theorem i_CO_begin_19 : i_CO_begin 19 = some (.iload_n 2, 1) := rfl
theorem i_CO_begin_20 : i_CO_begin 20 = some (.invokevirtual 55, 3) := rfl
theorem i_CO_begin_23 : i_CO_begin 23 = some (.aload_n 0, 1) := rfl
theorem i_CO_begin_24 : i_CO_begin 24 = some (.iload_n 2, 1) := rfl
theorem i_CO_begin_25 : i_CO_begin 25 = some (.putfield 9, 3) := rfl
theorem i_CO_begin_28 : i_CO_begin 28 = some (.aload_n 0, 1) := rfl
theorem i_CO_begin_29 : i_CO_begin 29 = some (.iconst 0, 1) := rfl
theorem i_CO_begin_30 : i_CO_begin 30 = some (.putfield 15, 3) := rfl
theorem i_CO_begin_33 : i_CO_begin 33 = some (.return_, 1) := rfl
abbrev w_CO_begin : List Jvm.Cond := Jvm.Cond.code y_CO_begin b_CO_begin 3 none :: vw_W
theorem c_CO_begin : Jvm.Cond.code y_CO_begin b_CO_begin 3 none ∈ vw_W := vw_t 351 (by decide +kernel) (by decide +kernel)
abbrev r_CO_begin : Room := { frames := 2, cells := 0, slots := 0, locals := 45 }
abbrev b_LO_begin : ByteArray := prog_6_method_2_code
abbrev y_LO_begin : MethodName := ⟨"ServerDesk$Load", "begin", "()V"⟩
def q_LO_begin : List (Nat × Instr × Nat) := [(0, .iconst 0, 1), (1, .istore_n 1, 1), (2, .iload_n 1, 1), (3, .aload_n 0, 1), (4, .getfield 24, 3), (7, .getfield 28, 3), (10, .if_icmp .ge 53, 3), (13, .aload_n 0, 1), (14, .getfield 9, 3), (17, .iload_n 1, 1), (18, .aload_n 0, 1), (19, .getfield 24, 3), (22, .getfield 34, 3), (25, .iload_n 1, 1), (26, .iaload, 1), (27, .iastore, 1), (28, .aload_n 0, 1), (29, .getfield 15, 3), (32, .iload_n 1, 1), (33, .aload_n 0, 1), (34, .getfield 24, 3), (37, .getfield 37, 3), (40, .iload_n 1, 1), (41, .iaload, 1), (42, .iastore, 1), (43, .aload_n 0, 1), (44, .getfield 18, 3), (47, .iload_n 1, 1), (48, .iconst 0, 1), (49, .iastore, 1), (50, .aload_n 0, 1), (51, .getfield 21, 3), (54, .iload_n 1, 1), (55, .iconst 0, 1), (56, .iastore, 1), (57, .iinc 1 1, 3), (60, .goto (-58), 3), (63, .return_, 1)]
def i_LO_begin : Nat → Option (Instr × Nat) := am_find q_LO_begin
theorem d_LO_begin_0 : decode b_LO_begin 0 = .ok (.iconst 0, 1) := by decide +kernel
theorem d_LO_begin_1 : decode b_LO_begin 1 = .ok (.istore_n 1, 1) := by decide +kernel
theorem d_LO_begin_2 : decode b_LO_begin 2 = .ok (.iload_n 1, 1) := by decide +kernel
theorem d_LO_begin_3 : decode b_LO_begin 3 = .ok (.aload_n 0, 1) := by decide +kernel
theorem d_LO_begin_4 : decode b_LO_begin 4 = .ok (.getfield 24, 3) := by decide +kernel
theorem d_LO_begin_7 : decode b_LO_begin 7 = .ok (.getfield 28, 3) := by decide +kernel
theorem d_LO_begin_10 : decode b_LO_begin 10 = .ok (.if_icmp .ge 53, 3) := by decide +kernel
theorem d_LO_begin_13 : decode b_LO_begin 13 = .ok (.aload_n 0, 1) := by decide +kernel
theorem d_LO_begin_14 : decode b_LO_begin 14 = .ok (.getfield 9, 3) := by decide +kernel
theorem d_LO_begin_17 : decode b_LO_begin 17 = .ok (.iload_n 1, 1) := by decide +kernel
theorem d_LO_begin_18 : decode b_LO_begin 18 = .ok (.aload_n 0, 1) := by decide +kernel
theorem d_LO_begin_19 : decode b_LO_begin 19 = .ok (.getfield 24, 3) := by decide +kernel
theorem d_LO_begin_22 : decode b_LO_begin 22 = .ok (.getfield 34, 3) := by decide +kernel
theorem d_LO_begin_25 : decode b_LO_begin 25 = .ok (.iload_n 1, 1) := by decide +kernel
theorem d_LO_begin_26 : decode b_LO_begin 26 = .ok (.iaload, 1) := by decide +kernel
theorem d_LO_begin_27 : decode b_LO_begin 27 = .ok (.iastore, 1) := by decide +kernel
theorem d_LO_begin_28 : decode b_LO_begin 28 = .ok (.aload_n 0, 1) := by decide +kernel
theorem d_LO_begin_29 : decode b_LO_begin 29 = .ok (.getfield 15, 3) := by decide +kernel
theorem d_LO_begin_32 : decode b_LO_begin 32 = .ok (.iload_n 1, 1) := by decide +kernel
theorem d_LO_begin_33 : decode b_LO_begin 33 = .ok (.aload_n 0, 1) := by decide +kernel
theorem d_LO_begin_34 : decode b_LO_begin 34 = .ok (.getfield 24, 3) := by decide +kernel
theorem d_LO_begin_37 : decode b_LO_begin 37 = .ok (.getfield 37, 3) := by decide +kernel
theorem d_LO_begin_40 : decode b_LO_begin 40 = .ok (.iload_n 1, 1) := by decide +kernel
theorem d_LO_begin_41 : decode b_LO_begin 41 = .ok (.iaload, 1) := by decide +kernel
theorem d_LO_begin_42 : decode b_LO_begin 42 = .ok (.iastore, 1) := by decide +kernel
theorem d_LO_begin_43 : decode b_LO_begin 43 = .ok (.aload_n 0, 1) := by decide +kernel
theorem d_LO_begin_44 : decode b_LO_begin 44 = .ok (.getfield 18, 3) := by decide +kernel
theorem d_LO_begin_47 : decode b_LO_begin 47 = .ok (.iload_n 1, 1) := by decide +kernel
theorem d_LO_begin_48 : decode b_LO_begin 48 = .ok (.iconst 0, 1) := by decide +kernel
theorem d_LO_begin_49 : decode b_LO_begin 49 = .ok (.iastore, 1) := by decide +kernel
theorem d_LO_begin_50 : decode b_LO_begin 50 = .ok (.aload_n 0, 1) := by decide +kernel
theorem d_LO_begin_51 : decode b_LO_begin 51 = .ok (.getfield 21, 3) := by decide +kernel
theorem d_LO_begin_54 : decode b_LO_begin 54 = .ok (.iload_n 1, 1) := by decide +kernel
theorem d_LO_begin_55 : decode b_LO_begin 55 = .ok (.iconst 0, 1) := by decide +kernel
theorem d_LO_begin_56 : decode b_LO_begin 56 = .ok (.iastore, 1) := by decide +kernel
theorem d_LO_begin_57 : decode b_LO_begin 57 = .ok (.iinc 1 1, 3) := by decide +kernel
theorem d_LO_begin_60 : decode b_LO_begin 60 = .ok (.goto (-58), 3) := by decide +kernel
theorem d_LO_begin_63 : decode b_LO_begin 63 = .ok (.return_, 1) := by decide +kernel
theorem d_LO_begin : ∀ z ∈ q_LO_begin, decode b_LO_begin z.1 = .ok z.2 := List.forall_mem_cons.mpr ⟨d_LO_begin_0, List.forall_mem_cons.mpr ⟨d_LO_begin_1, List.forall_mem_cons.mpr ⟨d_LO_begin_2, List.forall_mem_cons.mpr ⟨d_LO_begin_3, List.forall_mem_cons.mpr ⟨d_LO_begin_4, List.forall_mem_cons.mpr ⟨d_LO_begin_7, List.forall_mem_cons.mpr ⟨d_LO_begin_10, List.forall_mem_cons.mpr ⟨d_LO_begin_13, List.forall_mem_cons.mpr ⟨d_LO_begin_14, List.forall_mem_cons.mpr ⟨d_LO_begin_17, List.forall_mem_cons.mpr ⟨d_LO_begin_18, List.forall_mem_cons.mpr ⟨d_LO_begin_19, List.forall_mem_cons.mpr ⟨d_LO_begin_22, List.forall_mem_cons.mpr ⟨d_LO_begin_25, List.forall_mem_cons.mpr ⟨d_LO_begin_26, List.forall_mem_cons.mpr ⟨d_LO_begin_27, List.forall_mem_cons.mpr ⟨d_LO_begin_28, List.forall_mem_cons.mpr ⟨d_LO_begin_29, List.forall_mem_cons.mpr ⟨d_LO_begin_32, List.forall_mem_cons.mpr ⟨d_LO_begin_33, List.forall_mem_cons.mpr ⟨d_LO_begin_34, List.forall_mem_cons.mpr ⟨d_LO_begin_37, List.forall_mem_cons.mpr ⟨d_LO_begin_40, List.forall_mem_cons.mpr ⟨d_LO_begin_41, List.forall_mem_cons.mpr ⟨d_LO_begin_42, List.forall_mem_cons.mpr ⟨d_LO_begin_43, List.forall_mem_cons.mpr ⟨d_LO_begin_44, List.forall_mem_cons.mpr ⟨d_LO_begin_47, List.forall_mem_cons.mpr ⟨d_LO_begin_48, List.forall_mem_cons.mpr ⟨d_LO_begin_49, List.forall_mem_cons.mpr ⟨d_LO_begin_50, List.forall_mem_cons.mpr ⟨d_LO_begin_51, List.forall_mem_cons.mpr ⟨d_LO_begin_54, List.forall_mem_cons.mpr ⟨d_LO_begin_55, List.forall_mem_cons.mpr ⟨d_LO_begin_56, List.forall_mem_cons.mpr ⟨d_LO_begin_57, List.forall_mem_cons.mpr ⟨d_LO_begin_60, List.forall_mem_cons.mpr ⟨d_LO_begin_63, fun _ h => absurd h List.not_mem_nil⟩⟩⟩⟩⟩⟩⟩⟩⟩⟩⟩⟩⟩⟩⟩⟩⟩⟩⟩⟩⟩⟩⟩⟩⟩⟩⟩⟩⟩⟩⟩⟩⟩⟩⟩⟩⟩⟩
theorem i_LO_begin_ok : ∀ pc i n, i_LO_begin pc = some (i, n) → decode b_LO_begin pc = .ok (i, n) := fun pc i n h => d_LO_begin (pc, i, n) (am_find_mem h)
theorem i_LO_begin_0 : i_LO_begin 0 = some (.iconst 0, 1) := rfl
theorem i_LO_begin_1 : i_LO_begin 1 = some (.istore_n 1, 1) := rfl
theorem i_LO_begin_2 : i_LO_begin 2 = some (.iload_n 1, 1) := rfl
theorem i_LO_begin_3 : i_LO_begin 3 = some (.aload_n 0, 1) := rfl
theorem i_LO_begin_4 : i_LO_begin 4 = some (.getfield 24, 3) := rfl
theorem i_LO_begin_7 : i_LO_begin 7 = some (.getfield 28, 3) := rfl
theorem i_LO_begin_10 : i_LO_begin 10 = some (.if_icmp .ge 53, 3) := rfl
theorem i_LO_begin_13 : i_LO_begin 13 = some (.aload_n 0, 1) := rfl
theorem i_LO_begin_14 : i_LO_begin 14 = some (.getfield 9, 3) := rfl
theorem i_LO_begin_17 : i_LO_begin 17 = some (.iload_n 1, 1) := rfl
theorem i_LO_begin_18 : i_LO_begin 18 = some (.aload_n 0, 1) := rfl
theorem i_LO_begin_19 : i_LO_begin 19 = some (.getfield 24, 3) := rfl
theorem i_LO_begin_22 : i_LO_begin 22 = some (.getfield 34, 3) := rfl
theorem i_LO_begin_25 : i_LO_begin 25 = some (.iload_n 1, 1) := rfl
theorem i_LO_begin_26 : i_LO_begin 26 = some (.iaload, 1) := rfl
theorem i_LO_begin_27 : i_LO_begin 27 = some (.iastore, 1) := rfl
theorem i_LO_begin_28 : i_LO_begin 28 = some (.aload_n 0, 1) := rfl
theorem i_LO_begin_29 : i_LO_begin 29 = some (.getfield 15, 3) := rfl
theorem i_LO_begin_32 : i_LO_begin 32 = some (.iload_n 1, 1) := rfl
theorem i_LO_begin_33 : i_LO_begin 33 = some (.aload_n 0, 1) := rfl
theorem i_LO_begin_34 : i_LO_begin 34 = some (.getfield 24, 3) := rfl
theorem i_LO_begin_37 : i_LO_begin 37 = some (.getfield 37, 3) := rfl
theorem i_LO_begin_40 : i_LO_begin 40 = some (.iload_n 1, 1) := rfl
theorem i_LO_begin_41 : i_LO_begin 41 = some (.iaload, 1) := rfl
theorem i_LO_begin_42 : i_LO_begin 42 = some (.iastore, 1) := rfl
theorem i_LO_begin_43 : i_LO_begin 43 = some (.aload_n 0, 1) := rfl
theorem i_LO_begin_44 : i_LO_begin 44 = some (.getfield 18, 3) := rfl
theorem i_LO_begin_47 : i_LO_begin 47 = some (.iload_n 1, 1) := rfl
theorem i_LO_begin_48 : i_LO_begin 48 = some (.iconst 0, 1) := rfl
theorem i_LO_begin_49 : i_LO_begin 49 = some (.iastore, 1) := rfl
theorem i_LO_begin_50 : i_LO_begin 50 = some (.aload_n 0, 1) := rfl
theorem i_LO_begin_51 : i_LO_begin 51 = some (.getfield 21, 3) := rfl
theorem i_LO_begin_54 : i_LO_begin 54 = some (.iload_n 1, 1) := rfl
theorem i_LO_begin_55 : i_LO_begin 55 = some (.iconst 0, 1) := rfl
theorem i_LO_begin_56 : i_LO_begin 56 = some (.iastore, 1) := rfl
theorem i_LO_begin_57 : i_LO_begin 57 = some (.iinc 1 1, 3) := rfl
theorem i_LO_begin_60 : i_LO_begin 60 = some (.goto (-58), 3) := rfl
theorem i_LO_begin_63 : i_LO_begin 63 = some (.return_, 1) := rfl
abbrev w_LO_begin : List Jvm.Cond := Jvm.Cond.code y_LO_begin b_LO_begin 2 none :: vw_W
theorem c_LO_begin : Jvm.Cond.code y_LO_begin b_LO_begin 2 none ∈ vw_W := vw_t 355 (by decide +kernel) (by decide +kernel)
abbrev r_LO_begin : Room := { frames := 0, cells := 0, slots := 0, locals := 0 }
abbrev b_QU_begin : ByteArray := prog_7_method_2_code
abbrev y_QU_begin : MethodName := ⟨"ServerDesk$Queue", "begin", "()V"⟩
def q_QU_begin : List (Nat × Instr × Nat) := [(0, .aload_n 0, 1), (1, .iconst 0, 1), (2, .putfield 18, 3), (5, .aload_n 0, 1), (6, .iconst 0, 1), (7, .putfield 22, 3), (10, .return_, 1)]
def i_QU_begin : Nat → Option (Instr × Nat) := am_find q_QU_begin
theorem d_QU_begin_0 : decode b_QU_begin 0 = .ok (.aload_n 0, 1) := by decide +kernel
theorem d_QU_begin_1 : decode b_QU_begin 1 = .ok (.iconst 0, 1) := by decide +kernel
theorem d_QU_begin_2 : decode b_QU_begin 2 = .ok (.putfield 18, 3) := by decide +kernel
theorem d_QU_begin_5 : decode b_QU_begin 5 = .ok (.aload_n 0, 1) := by decide +kernel
theorem d_QU_begin_6 : decode b_QU_begin 6 = .ok (.iconst 0, 1) := by decide +kernel
theorem d_QU_begin_7 : decode b_QU_begin 7 = .ok (.putfield 22, 3) := by decide +kernel
theorem d_QU_begin_10 : decode b_QU_begin 10 = .ok (.return_, 1) := by decide +kernel
theorem d_QU_begin : ∀ z ∈ q_QU_begin, decode b_QU_begin z.1 = .ok z.2 := List.forall_mem_cons.mpr ⟨d_QU_begin_0, List.forall_mem_cons.mpr ⟨d_QU_begin_1, List.forall_mem_cons.mpr ⟨d_QU_begin_2, List.forall_mem_cons.mpr ⟨d_QU_begin_5, List.forall_mem_cons.mpr ⟨d_QU_begin_6, List.forall_mem_cons.mpr ⟨d_QU_begin_7, List.forall_mem_cons.mpr ⟨d_QU_begin_10, fun _ h => absurd h List.not_mem_nil⟩⟩⟩⟩⟩⟩⟩
theorem i_QU_begin_ok : ∀ pc i n, i_QU_begin pc = some (i, n) → decode b_QU_begin pc = .ok (i, n) := fun pc i n h => d_QU_begin (pc, i, n) (am_find_mem h)
theorem i_QU_begin_0 : i_QU_begin 0 = some (.aload_n 0, 1) := rfl
theorem i_QU_begin_1 : i_QU_begin 1 = some (.iconst 0, 1) := rfl
theorem i_QU_begin_2 : i_QU_begin 2 = some (.putfield 18, 3) := rfl
theorem i_QU_begin_5 : i_QU_begin 5 = some (.aload_n 0, 1) := rfl
theorem i_QU_begin_6 : i_QU_begin 6 = some (.iconst 0, 1) := rfl
theorem i_QU_begin_7 : i_QU_begin 7 = some (.putfield 22, 3) := rfl
theorem i_QU_begin_10 : i_QU_begin 10 = some (.return_, 1) := rfl
abbrev w_QU_begin : List Jvm.Cond := Jvm.Cond.code y_QU_begin b_QU_begin 1 none :: vw_W
theorem c_QU_begin : Jvm.Cond.code y_QU_begin b_QU_begin 1 none ∈ vw_W := vw_t 359 (by decide +kernel) (by decide +kernel)
abbrev r_QU_begin : Room := { frames := 0, cells := 0, slots := 0, locals := 0 }
abbrev b_BU_begin : ByteArray := prog_2_method_2_code
abbrev y_BU_begin : MethodName := ⟨"ServerDesk$Budget", "begin", "(LServerDesk$RuleBook;I)V"⟩
def q_BU_begin : List (Nat × Instr × Nat) := [(0, .aload_n 0, 1), (1, .getfield 9, 3), (4, .iconst 0, 1), (5, .invokestatic 28, 3), (8, .aload_n 0, 1), (9, .iload_n 2, 1), (10, .putfield 15, 3), (13, .aload_n 0, 1), (14, .iload_n 2, 1), (15, .invokestatic 34, 3), (18, .ifCond .eq 12, 3), (21, .aload_n 1, 1), (22, .getfield 40, 3), (25, .iload_n 2, 1), (26, .iaload, 1), (27, .goto 4, 3), (30, .iconst 0, 1), (31, .putfield 19, 3), (34, .aload_n 0, 1), (35, .aload_n 1, 1), (36, .getfield 43, 3), (39, .iload_n 2, 1), (40, .iaload, 1), (41, .putfield 22, 3), (44, .aload_n 0, 1), (45, .aload_n 0, 1), (46, .getfield 19, 3), (49, .putfield 25, 3), (52, .return_, 1)]
def i_BU_begin : Nat → Option (Instr × Nat) := am_find q_BU_begin
theorem d_BU_begin_0 : decode b_BU_begin 0 = .ok (.aload_n 0, 1) := by decide +kernel
theorem d_BU_begin_1 : decode b_BU_begin 1 = .ok (.getfield 9, 3) := by decide +kernel
theorem d_BU_begin_4 : decode b_BU_begin 4 = .ok (.iconst 0, 1) := by decide +kernel
theorem d_BU_begin_5 : decode b_BU_begin 5 = .ok (.invokestatic 28, 3) := by decide +kernel
theorem d_BU_begin_8 : decode b_BU_begin 8 = .ok (.aload_n 0, 1) := by decide +kernel
theorem d_BU_begin_9 : decode b_BU_begin 9 = .ok (.iload_n 2, 1) := by decide +kernel
theorem d_BU_begin_10 : decode b_BU_begin 10 = .ok (.putfield 15, 3) := by decide +kernel
theorem d_BU_begin_13 : decode b_BU_begin 13 = .ok (.aload_n 0, 1) := by decide +kernel
theorem d_BU_begin_14 : decode b_BU_begin 14 = .ok (.iload_n 2, 1) := by decide +kernel
theorem d_BU_begin_15 : decode b_BU_begin 15 = .ok (.invokestatic 34, 3) := by decide +kernel
theorem d_BU_begin_18 : decode b_BU_begin 18 = .ok (.ifCond .eq 12, 3) := by decide +kernel
theorem d_BU_begin_21 : decode b_BU_begin 21 = .ok (.aload_n 1, 1) := by decide +kernel
theorem d_BU_begin_22 : decode b_BU_begin 22 = .ok (.getfield 40, 3) := by decide +kernel
theorem d_BU_begin_25 : decode b_BU_begin 25 = .ok (.iload_n 2, 1) := by decide +kernel
theorem d_BU_begin_26 : decode b_BU_begin 26 = .ok (.iaload, 1) := by decide +kernel
theorem d_BU_begin_27 : decode b_BU_begin 27 = .ok (.goto 4, 3) := by decide +kernel
theorem d_BU_begin_30 : decode b_BU_begin 30 = .ok (.iconst 0, 1) := by decide +kernel
theorem d_BU_begin_31 : decode b_BU_begin 31 = .ok (.putfield 19, 3) := by decide +kernel
theorem d_BU_begin_34 : decode b_BU_begin 34 = .ok (.aload_n 0, 1) := by decide +kernel
theorem d_BU_begin_35 : decode b_BU_begin 35 = .ok (.aload_n 1, 1) := by decide +kernel
theorem d_BU_begin_36 : decode b_BU_begin 36 = .ok (.getfield 43, 3) := by decide +kernel
theorem d_BU_begin_39 : decode b_BU_begin 39 = .ok (.iload_n 2, 1) := by decide +kernel
theorem d_BU_begin_40 : decode b_BU_begin 40 = .ok (.iaload, 1) := by decide +kernel
theorem d_BU_begin_41 : decode b_BU_begin 41 = .ok (.putfield 22, 3) := by decide +kernel
theorem d_BU_begin_44 : decode b_BU_begin 44 = .ok (.aload_n 0, 1) := by decide +kernel
theorem d_BU_begin_45 : decode b_BU_begin 45 = .ok (.aload_n 0, 1) := by decide +kernel
theorem d_BU_begin_46 : decode b_BU_begin 46 = .ok (.getfield 19, 3) := by decide +kernel
theorem d_BU_begin_49 : decode b_BU_begin 49 = .ok (.putfield 25, 3) := by decide +kernel
theorem d_BU_begin_52 : decode b_BU_begin 52 = .ok (.return_, 1) := by decide +kernel
theorem d_BU_begin : ∀ z ∈ q_BU_begin, decode b_BU_begin z.1 = .ok z.2 := List.forall_mem_cons.mpr ⟨d_BU_begin_0, List.forall_mem_cons.mpr ⟨d_BU_begin_1, List.forall_mem_cons.mpr ⟨d_BU_begin_4, List.forall_mem_cons.mpr ⟨d_BU_begin_5, List.forall_mem_cons.mpr ⟨d_BU_begin_8, List.forall_mem_cons.mpr ⟨d_BU_begin_9, List.forall_mem_cons.mpr ⟨d_BU_begin_10, List.forall_mem_cons.mpr ⟨d_BU_begin_13, List.forall_mem_cons.mpr ⟨d_BU_begin_14, List.forall_mem_cons.mpr ⟨d_BU_begin_15, List.forall_mem_cons.mpr ⟨d_BU_begin_18, List.forall_mem_cons.mpr ⟨d_BU_begin_21, List.forall_mem_cons.mpr ⟨d_BU_begin_22, List.forall_mem_cons.mpr ⟨d_BU_begin_25, List.forall_mem_cons.mpr ⟨d_BU_begin_26, List.forall_mem_cons.mpr ⟨d_BU_begin_27, List.forall_mem_cons.mpr ⟨d_BU_begin_30, List.forall_mem_cons.mpr ⟨d_BU_begin_31, List.forall_mem_cons.mpr ⟨d_BU_begin_34, List.forall_mem_cons.mpr ⟨d_BU_begin_35, List.forall_mem_cons.mpr ⟨d_BU_begin_36, List.forall_mem_cons.mpr ⟨d_BU_begin_39, List.forall_mem_cons.mpr ⟨d_BU_begin_40, List.forall_mem_cons.mpr ⟨d_BU_begin_41, List.forall_mem_cons.mpr ⟨d_BU_begin_44, List.forall_mem_cons.mpr ⟨d_BU_begin_45, List.forall_mem_cons.mpr ⟨d_BU_begin_46, List.forall_mem_cons.mpr ⟨d_BU_begin_49, List.forall_mem_cons.mpr ⟨d_BU_begin_52, fun _ h => absurd h List.not_mem_nil⟩⟩⟩⟩⟩⟩⟩⟩⟩⟩⟩⟩⟩⟩⟩⟩⟩⟩⟩⟩⟩⟩⟩⟩⟩⟩⟩⟩⟩
theorem i_BU_begin_ok : ∀ pc i n, i_BU_begin pc = some (i, n) → decode b_BU_begin pc = .ok (i, n) := fun pc i n h => d_BU_begin (pc, i, n) (am_find_mem h)
theorem i_BU_begin_0 : i_BU_begin 0 = some (.aload_n 0, 1) := rfl
theorem i_BU_begin_1 : i_BU_begin 1 = some (.getfield 9, 3) := rfl
theorem i_BU_begin_4 : i_BU_begin 4 = some (.iconst 0, 1) := rfl
theorem i_BU_begin_5 : i_BU_begin 5 = some (.invokestatic 28, 3) := rfl
theorem i_BU_begin_8 : i_BU_begin 8 = some (.aload_n 0, 1) := rfl
theorem i_BU_begin_9 : i_BU_begin 9 = some (.iload_n 2, 1) := rfl
theorem i_BU_begin_10 : i_BU_begin 10 = some (.putfield 15, 3) := rfl
theorem i_BU_begin_13 : i_BU_begin 13 = some (.aload_n 0, 1) := rfl
theorem i_BU_begin_14 : i_BU_begin 14 = some (.iload_n 2, 1) := rfl
theorem i_BU_begin_15 : i_BU_begin 15 = some (.invokestatic 34, 3) := rfl
theorem i_BU_begin_18 : i_BU_begin 18 = some (.ifCond .eq 12, 3) := rfl
theorem i_BU_begin_21 : i_BU_begin 21 = some (.aload_n 1, 1) := rfl
theorem i_BU_begin_22 : i_BU_begin 22 = some (.getfield 40, 3) := rfl
theorem i_BU_begin_25 : i_BU_begin 25 = some (.iload_n 2, 1) := rfl
theorem i_BU_begin_26 : i_BU_begin 26 = some (.iaload, 1) := rfl
theorem i_BU_begin_27 : i_BU_begin 27 = some (.goto 4, 3) := rfl
theorem i_BU_begin_30 : i_BU_begin 30 = some (.iconst 0, 1) := rfl
theorem i_BU_begin_31 : i_BU_begin 31 = some (.putfield 19, 3) := rfl
theorem i_BU_begin_34 : i_BU_begin 34 = some (.aload_n 0, 1) := rfl
theorem i_BU_begin_35 : i_BU_begin 35 = some (.aload_n 1, 1) := rfl
theorem i_BU_begin_36 : i_BU_begin 36 = some (.getfield 43, 3) := rfl
theorem i_BU_begin_39 : i_BU_begin 39 = some (.iload_n 2, 1) := rfl
theorem i_BU_begin_40 : i_BU_begin 40 = some (.iaload, 1) := rfl
theorem i_BU_begin_41 : i_BU_begin 41 = some (.putfield 22, 3) := rfl
theorem i_BU_begin_44 : i_BU_begin 44 = some (.aload_n 0, 1) := rfl
theorem i_BU_begin_45 : i_BU_begin 45 = some (.aload_n 0, 1) := rfl
theorem i_BU_begin_46 : i_BU_begin 46 = some (.getfield 19, 3) := rfl
theorem i_BU_begin_49 : i_BU_begin 49 = some (.putfield 25, 3) := rfl
theorem i_BU_begin_52 : i_BU_begin 52 = some (.return_, 1) := rfl
abbrev w_BU_begin : List Jvm.Cond := Jvm.Cond.code y_BU_begin b_BU_begin 3 none :: vw_W
theorem c_BU_begin : Jvm.Cond.code y_BU_begin b_BU_begin 3 none ∈ vw_W := vw_t 363 (by decide +kernel) (by decide +kernel)
abbrev r_BU_begin : Room := { frames := 1, cells := 0, slots := 0, locals := 23 }
abbrev b_RB_hasBudget : ByteArray := prog_9_method_3_code
abbrev y_RB_hasBudget : MethodName := ⟨"ServerDesk$RuleBook", "hasBudget", "(I)Z"⟩
def q_RB_hasBudget : List (Nat × Instr × Nat) := [(0, .iload_n 0, 1), (1, .iconst 1, 1), (2, .if_icmp .eq 8, 3), (5, .iload_n 0, 1), (6, .iconst 2, 1), (7, .if_icmp .ne 7, 3), (10, .iconst 1, 1), (11, .goto 4, 3), (14, .iconst 0, 1), (15, .ireturn, 1)]
def i_RB_hasBudget : Nat → Option (Instr × Nat) := am_find q_RB_hasBudget
theorem d_RB_hasBudget_0 : decode b_RB_hasBudget 0 = .ok (.iload_n 0, 1) := by decide +kernel
theorem d_RB_hasBudget_1 : decode b_RB_hasBudget 1 = .ok (.iconst 1, 1) := by decide +kernel
theorem d_RB_hasBudget_2 : decode b_RB_hasBudget 2 = .ok (.if_icmp .eq 8, 3) := by decide +kernel
theorem d_RB_hasBudget_5 : decode b_RB_hasBudget 5 = .ok (.iload_n 0, 1) := by decide +kernel
theorem d_RB_hasBudget_6 : decode b_RB_hasBudget 6 = .ok (.iconst 2, 1) := by decide +kernel
theorem d_RB_hasBudget_7 : decode b_RB_hasBudget 7 = .ok (.if_icmp .ne 7, 3) := by decide +kernel
theorem d_RB_hasBudget_10 : decode b_RB_hasBudget 10 = .ok (.iconst 1, 1) := by decide +kernel
theorem d_RB_hasBudget_11 : decode b_RB_hasBudget 11 = .ok (.goto 4, 3) := by decide +kernel
theorem d_RB_hasBudget_14 : decode b_RB_hasBudget 14 = .ok (.iconst 0, 1) := by decide +kernel
theorem d_RB_hasBudget_15 : decode b_RB_hasBudget 15 = .ok (.ireturn, 1) := by decide +kernel
theorem d_RB_hasBudget : ∀ z ∈ q_RB_hasBudget, decode b_RB_hasBudget z.1 = .ok z.2 := List.forall_mem_cons.mpr ⟨d_RB_hasBudget_0, List.forall_mem_cons.mpr ⟨d_RB_hasBudget_1, List.forall_mem_cons.mpr ⟨d_RB_hasBudget_2, List.forall_mem_cons.mpr ⟨d_RB_hasBudget_5, List.forall_mem_cons.mpr ⟨d_RB_hasBudget_6, List.forall_mem_cons.mpr ⟨d_RB_hasBudget_7, List.forall_mem_cons.mpr ⟨d_RB_hasBudget_10, List.forall_mem_cons.mpr ⟨d_RB_hasBudget_11, List.forall_mem_cons.mpr ⟨d_RB_hasBudget_14, List.forall_mem_cons.mpr ⟨d_RB_hasBudget_15, fun _ h => absurd h List.not_mem_nil⟩⟩⟩⟩⟩⟩⟩⟩⟩⟩
theorem i_RB_hasBudget_ok : ∀ pc i n, i_RB_hasBudget pc = some (i, n) → decode b_RB_hasBudget pc = .ok (i, n) := fun pc i n h => d_RB_hasBudget (pc, i, n) (am_find_mem h)
theorem i_RB_hasBudget_0 : i_RB_hasBudget 0 = some (.iload_n 0, 1) := rfl
theorem i_RB_hasBudget_1 : i_RB_hasBudget 1 = some (.iconst 1, 1) := rfl
theorem i_RB_hasBudget_2 : i_RB_hasBudget 2 = some (.if_icmp .eq 8, 3) := rfl
theorem i_RB_hasBudget_5 : i_RB_hasBudget 5 = some (.iload_n 0, 1) := rfl
theorem i_RB_hasBudget_6 : i_RB_hasBudget 6 = some (.iconst 2, 1) := rfl
theorem i_RB_hasBudget_7 : i_RB_hasBudget 7 = some (.if_icmp .ne 7, 3) := rfl
theorem i_RB_hasBudget_10 : i_RB_hasBudget 10 = some (.iconst 1, 1) := rfl
theorem i_RB_hasBudget_11 : i_RB_hasBudget 11 = some (.goto 4, 3) := rfl
theorem i_RB_hasBudget_14 : i_RB_hasBudget 14 = some (.iconst 0, 1) := rfl
theorem i_RB_hasBudget_15 : i_RB_hasBudget 15 = some (.ireturn, 1) := rfl
abbrev w_RB_hasBudget : List Jvm.Cond := Jvm.Cond.code y_RB_hasBudget b_RB_hasBudget 1 (some .boolean) :: vw_W
theorem c_RB_hasBudget : Jvm.Cond.code y_RB_hasBudget b_RB_hasBudget 1 (some .boolean) ∈ vw_W := vw_t 367 (by decide +kernel) (by decide +kernel)
abbrev r_RB_hasBudget : Room := { frames := 0, cells := 0, slots := 0, locals := 0 }
abbrev b_RF_clear : ByteArray := prog_8_method_2_code
abbrev y_RF_clear : MethodName := ⟨"ServerDesk$Referee", "clear", "()V"⟩
def q_RF_clear : List (Nat × Instr × Nat) := [(0, .aload_n 0, 1), (1, .iconst 0, 1), (2, .putfield 9, 3), (5, .aload_n 0, 1), (6, .iconst 0, 1), (7, .putfield 15, 3), (10, .aload_n 0, 1), (11, .iconst 0, 1), (12, .putfield 18, 3), (15, .return_, 1)]
def i_RF_clear : Nat → Option (Instr × Nat) := am_find q_RF_clear
theorem d_RF_clear_0 : decode b_RF_clear 0 = .ok (.aload_n 0, 1) := by decide +kernel
theorem d_RF_clear_1 : decode b_RF_clear 1 = .ok (.iconst 0, 1) := by decide +kernel
theorem d_RF_clear_2 : decode b_RF_clear 2 = .ok (.putfield 9, 3) := by decide +kernel
theorem d_RF_clear_5 : decode b_RF_clear 5 = .ok (.aload_n 0, 1) := by decide +kernel
theorem d_RF_clear_6 : decode b_RF_clear 6 = .ok (.iconst 0, 1) := by decide +kernel
theorem d_RF_clear_7 : decode b_RF_clear 7 = .ok (.putfield 15, 3) := by decide +kernel
theorem d_RF_clear_10 : decode b_RF_clear 10 = .ok (.aload_n 0, 1) := by decide +kernel
theorem d_RF_clear_11 : decode b_RF_clear 11 = .ok (.iconst 0, 1) := by decide +kernel
theorem d_RF_clear_12 : decode b_RF_clear 12 = .ok (.putfield 18, 3) := by decide +kernel
theorem d_RF_clear_15 : decode b_RF_clear 15 = .ok (.return_, 1) := by decide +kernel
theorem d_RF_clear : ∀ z ∈ q_RF_clear, decode b_RF_clear z.1 = .ok z.2 := List.forall_mem_cons.mpr ⟨d_RF_clear_0, List.forall_mem_cons.mpr ⟨d_RF_clear_1, List.forall_mem_cons.mpr ⟨d_RF_clear_2, List.forall_mem_cons.mpr ⟨d_RF_clear_5, List.forall_mem_cons.mpr ⟨d_RF_clear_6, List.forall_mem_cons.mpr ⟨d_RF_clear_7, List.forall_mem_cons.mpr ⟨d_RF_clear_10, List.forall_mem_cons.mpr ⟨d_RF_clear_11, List.forall_mem_cons.mpr ⟨d_RF_clear_12, List.forall_mem_cons.mpr ⟨d_RF_clear_15, fun _ h => absurd h List.not_mem_nil⟩⟩⟩⟩⟩⟩⟩⟩⟩⟩
theorem i_RF_clear_ok : ∀ pc i n, i_RF_clear pc = some (i, n) → decode b_RF_clear pc = .ok (i, n) := fun pc i n h => d_RF_clear (pc, i, n) (am_find_mem h)
theorem i_RF_clear_0 : i_RF_clear 0 = some (.aload_n 0, 1) := rfl
theorem i_RF_clear_1 : i_RF_clear 1 = some (.iconst 0, 1) := rfl
theorem i_RF_clear_2 : i_RF_clear 2 = some (.putfield 9, 3) := rfl
theorem i_RF_clear_5 : i_RF_clear 5 = some (.aload_n 0, 1) := rfl
theorem i_RF_clear_6 : i_RF_clear 6 = some (.iconst 0, 1) := rfl
theorem i_RF_clear_7 : i_RF_clear 7 = some (.putfield 15, 3) := rfl
theorem i_RF_clear_10 : i_RF_clear 10 = some (.aload_n 0, 1) := rfl
theorem i_RF_clear_11 : i_RF_clear 11 = some (.iconst 0, 1) := rfl
theorem i_RF_clear_12 : i_RF_clear 12 = some (.putfield 18, 3) := rfl
theorem i_RF_clear_15 : i_RF_clear 15 = some (.return_, 1) := rfl
abbrev w_RF_clear : List Jvm.Cond := Jvm.Cond.code y_RF_clear b_RF_clear 1 none :: vw_W
theorem c_RF_clear : Jvm.Cond.code y_RF_clear b_RF_clear 1 none ∈ vw_W := vw_t 371 (by decide +kernel) (by decide +kernel)
abbrev r_RF_clear : Room := { frames := 0, cells := 0, slots := 0, locals := 0 }
abbrev b_LW_task : ByteArray := method_3_code
abbrev y_LW_task : MethodName := ⟨"ServerDeskLaw", "task", "(LServerDesk;IIII[J)I"⟩
def q_LW_task : List (Nat × Instr × Nat) := [(0, .aload 5, 2), (2, .iconst 0, 1), (3, .aload_n 0, 1), (4, .iload_n 1, 1), (5, .iload_n 2, 1), (6, .iload_n 3, 1), (7, .iload 4, 2), (9, .invokevirtual 7, 3), (12, .i2l, 1), (13, .lastore, 1), (14, .goto 15, 3), (17, .astore 6, 2), (19, .iconst 1, 1), (20, .ireturn, 1), (21, .astore 6, 2), (23, .iconst 2, 1), (24, .ireturn, 1), (25, .astore 6, 2), (27, .iconst 3, 1), (28, .ireturn, 1), (29, .iconst 0, 1), (30, .ireturn, 1)]
def i_LW_task : Nat → Option (Instr × Nat) := am_find q_LW_task
theorem d_LW_task_0 : decode b_LW_task 0 = .ok (.aload 5, 2) := by decide +kernel
theorem d_LW_task_2 : decode b_LW_task 2 = .ok (.iconst 0, 1) := by decide +kernel
theorem d_LW_task_3 : decode b_LW_task 3 = .ok (.aload_n 0, 1) := by decide +kernel
theorem d_LW_task_4 : decode b_LW_task 4 = .ok (.iload_n 1, 1) := by decide +kernel
theorem d_LW_task_5 : decode b_LW_task 5 = .ok (.iload_n 2, 1) := by decide +kernel
theorem d_LW_task_6 : decode b_LW_task 6 = .ok (.iload_n 3, 1) := by decide +kernel
theorem d_LW_task_7 : decode b_LW_task 7 = .ok (.iload 4, 2) := by decide +kernel
theorem d_LW_task_9 : decode b_LW_task 9 = .ok (.invokevirtual 7, 3) := by decide +kernel
theorem d_LW_task_12 : decode b_LW_task 12 = .ok (.i2l, 1) := by decide +kernel
theorem d_LW_task_13 : decode b_LW_task 13 = .ok (.lastore, 1) := by decide +kernel
theorem d_LW_task_14 : decode b_LW_task 14 = .ok (.goto 15, 3) := by decide +kernel
theorem d_LW_task_17 : decode b_LW_task 17 = .ok (.astore 6, 2) := by decide +kernel
theorem d_LW_task_19 : decode b_LW_task 19 = .ok (.iconst 1, 1) := by decide +kernel
theorem d_LW_task_20 : decode b_LW_task 20 = .ok (.ireturn, 1) := by decide +kernel
theorem d_LW_task_21 : decode b_LW_task 21 = .ok (.astore 6, 2) := by decide +kernel
theorem d_LW_task_23 : decode b_LW_task 23 = .ok (.iconst 2, 1) := by decide +kernel
theorem d_LW_task_24 : decode b_LW_task 24 = .ok (.ireturn, 1) := by decide +kernel
theorem d_LW_task_25 : decode b_LW_task 25 = .ok (.astore 6, 2) := by decide +kernel
theorem d_LW_task_27 : decode b_LW_task 27 = .ok (.iconst 3, 1) := by decide +kernel
theorem d_LW_task_28 : decode b_LW_task 28 = .ok (.ireturn, 1) := by decide +kernel
theorem d_LW_task_29 : decode b_LW_task 29 = .ok (.iconst 0, 1) := by decide +kernel
theorem d_LW_task_30 : decode b_LW_task 30 = .ok (.ireturn, 1) := by decide +kernel
theorem d_LW_task : ∀ z ∈ q_LW_task, decode b_LW_task z.1 = .ok z.2 := List.forall_mem_cons.mpr ⟨d_LW_task_0, List.forall_mem_cons.mpr ⟨d_LW_task_2, List.forall_mem_cons.mpr ⟨d_LW_task_3, List.forall_mem_cons.mpr ⟨d_LW_task_4, List.forall_mem_cons.mpr ⟨d_LW_task_5, List.forall_mem_cons.mpr ⟨d_LW_task_6, List.forall_mem_cons.mpr ⟨d_LW_task_7, List.forall_mem_cons.mpr ⟨d_LW_task_9, List.forall_mem_cons.mpr ⟨d_LW_task_12, List.forall_mem_cons.mpr ⟨d_LW_task_13, List.forall_mem_cons.mpr ⟨d_LW_task_14, List.forall_mem_cons.mpr ⟨d_LW_task_17, List.forall_mem_cons.mpr ⟨d_LW_task_19, List.forall_mem_cons.mpr ⟨d_LW_task_20, List.forall_mem_cons.mpr ⟨d_LW_task_21, List.forall_mem_cons.mpr ⟨d_LW_task_23, List.forall_mem_cons.mpr ⟨d_LW_task_24, List.forall_mem_cons.mpr ⟨d_LW_task_25, List.forall_mem_cons.mpr ⟨d_LW_task_27, List.forall_mem_cons.mpr ⟨d_LW_task_28, List.forall_mem_cons.mpr ⟨d_LW_task_29, List.forall_mem_cons.mpr ⟨d_LW_task_30, fun _ h => absurd h List.not_mem_nil⟩⟩⟩⟩⟩⟩⟩⟩⟩⟩⟩⟩⟩⟩⟩⟩⟩⟩⟩⟩⟩⟩
theorem i_LW_task_ok : ∀ pc i n, i_LW_task pc = some (i, n) → decode b_LW_task pc = .ok (i, n) := fun pc i n h => d_LW_task (pc, i, n) (am_find_mem h)
theorem i_LW_task_0 : i_LW_task 0 = some (.aload 5, 2) := rfl
theorem i_LW_task_2 : i_LW_task 2 = some (.iconst 0, 1) := rfl
theorem i_LW_task_3 : i_LW_task 3 = some (.aload_n 0, 1) := rfl
theorem i_LW_task_4 : i_LW_task 4 = some (.iload_n 1, 1) := rfl
theorem i_LW_task_5 : i_LW_task 5 = some (.iload_n 2, 1) := rfl
theorem i_LW_task_6 : i_LW_task 6 = some (.iload_n 3, 1) := rfl
theorem i_LW_task_7 : i_LW_task 7 = some (.iload 4, 2) := rfl
theorem i_LW_task_9 : i_LW_task 9 = some (.invokevirtual 7, 3) := rfl
theorem i_LW_task_12 : i_LW_task 12 = some (.i2l, 1) := rfl
theorem i_LW_task_13 : i_LW_task 13 = some (.lastore, 1) := rfl
theorem i_LW_task_14 : i_LW_task 14 = some (.goto 15, 3) := rfl
theorem i_LW_task_17 : i_LW_task 17 = some (.astore 6, 2) := rfl
theorem i_LW_task_19 : i_LW_task 19 = some (.iconst 1, 1) := rfl
theorem i_LW_task_20 : i_LW_task 20 = some (.ireturn, 1) := rfl
theorem i_LW_task_21 : i_LW_task 21 = some (.astore 6, 2) := rfl
theorem i_LW_task_23 : i_LW_task 23 = some (.iconst 2, 1) := rfl
theorem i_LW_task_24 : i_LW_task 24 = some (.ireturn, 1) := rfl
theorem i_LW_task_25 : i_LW_task 25 = some (.astore 6, 2) := rfl
theorem i_LW_task_27 : i_LW_task 27 = some (.iconst 3, 1) := rfl
theorem i_LW_task_28 : i_LW_task 28 = some (.ireturn, 1) := rfl
theorem i_LW_task_29 : i_LW_task 29 = some (.iconst 0, 1) := rfl
theorem i_LW_task_30 : i_LW_task 30 = some (.ireturn, 1) := rfl
abbrev b_SD_task : ByteArray := prog_1_method_2_code
abbrev y_SD_task : MethodName := ⟨"ServerDesk", "task", "(IIII)I"⟩
def q_SD_task : List (Nat × Instr × Nat) := [(0, .iload_n 1, 1), (1, .iconst 1, 1), (2, .bipush 60, 2), (4, .invokestatic 76, 3), (7, .ifCond .eq 34, 3), (10, .iload_n 2, 1), (11, .iconst 0, 1), (12, .iload_n 1, 1), (13, .iconst 1, 1), (14, .isub, 1), (15, .invokestatic 76, 3), (18, .ifCond .eq 23, 3), (21, .iload_n 3, 1), (22, .iconst 1, 1), (23, .bipush 60, 2), (25, .invokestatic 76, 3), (28, .ifCond .eq 13, 3), (31, .iload 4, 2), (33, .iload_n 3, 1), (34, .iload_n 1, 1), (35, .invokestatic 76, 3), (38, .ifCond .ne 13, 3), (41, .new 80, 3), (44, .dup, 1), (45, .ldc 82, 2), (47, .invokespecial 84, 3), (50, .athrow, 1), (51, .aload_n 0, 1), (52, .getfield 68, 3), (55, .ifCond .ne 14, 3), (58, .aload_n 0, 1), (59, .getfield 10, 3), (62, .getfield 87, 3), (65, .iconst 5, 1), (66, .if_icmp .lt 13, 3), (69, .new 90, 3), (72, .dup, 1), (73, .ldc 92, 2), (75, .invokespecial 94, 3), (78, .athrow, 1), (79, .aload_n 0, 1), (80, .getfield 10, 3), (83, .iload_n 1, 1), (84, .invokevirtual 95, 3), (87, .sipush 2000, 3), (90, .if_icmp .le 13, 3), (93, .new 99, 3), (96, .dup, 1), (97, .ldc 101, 2), (99, .invokespecial 103, 3), (102, .athrow, 1), (103, .aload_n 0, 1), (104, .getfield 10, 3), (107, .iload_n 1, 1), (108, .iload_n 2, 1), (109, .iload_n 3, 1), (110, .iload 4, 2), (112, .invokevirtual 104, 3), (115, .ireturn, 1)]
def i_SD_task : Nat → Option (Instr × Nat) := am_find q_SD_task
theorem d_SD_task_0 : decode b_SD_task 0 = .ok (.iload_n 1, 1) := by decide +kernel
theorem d_SD_task_1 : decode b_SD_task 1 = .ok (.iconst 1, 1) := by decide +kernel
theorem d_SD_task_2 : decode b_SD_task 2 = .ok (.bipush 60, 2) := by decide +kernel
theorem d_SD_task_4 : decode b_SD_task 4 = .ok (.invokestatic 76, 3) := by decide +kernel
theorem d_SD_task_7 : decode b_SD_task 7 = .ok (.ifCond .eq 34, 3) := by decide +kernel
theorem d_SD_task_10 : decode b_SD_task 10 = .ok (.iload_n 2, 1) := by decide +kernel
theorem d_SD_task_11 : decode b_SD_task 11 = .ok (.iconst 0, 1) := by decide +kernel
theorem d_SD_task_12 : decode b_SD_task 12 = .ok (.iload_n 1, 1) := by decide +kernel
theorem d_SD_task_13 : decode b_SD_task 13 = .ok (.iconst 1, 1) := by decide +kernel
theorem d_SD_task_14 : decode b_SD_task 14 = .ok (.isub, 1) := by decide +kernel
theorem d_SD_task_15 : decode b_SD_task 15 = .ok (.invokestatic 76, 3) := by decide +kernel
theorem d_SD_task_18 : decode b_SD_task 18 = .ok (.ifCond .eq 23, 3) := by decide +kernel
theorem d_SD_task_21 : decode b_SD_task 21 = .ok (.iload_n 3, 1) := by decide +kernel
theorem d_SD_task_22 : decode b_SD_task 22 = .ok (.iconst 1, 1) := by decide +kernel
theorem d_SD_task_23 : decode b_SD_task 23 = .ok (.bipush 60, 2) := by decide +kernel
theorem d_SD_task_25 : decode b_SD_task 25 = .ok (.invokestatic 76, 3) := by decide +kernel
theorem d_SD_task_28 : decode b_SD_task 28 = .ok (.ifCond .eq 13, 3) := by decide +kernel
theorem d_SD_task_31 : decode b_SD_task 31 = .ok (.iload 4, 2) := by decide +kernel
theorem d_SD_task_33 : decode b_SD_task 33 = .ok (.iload_n 3, 1) := by decide +kernel
theorem d_SD_task_34 : decode b_SD_task 34 = .ok (.iload_n 1, 1) := by decide +kernel
theorem d_SD_task_35 : decode b_SD_task 35 = .ok (.invokestatic 76, 3) := by decide +kernel
theorem d_SD_task_38 : decode b_SD_task 38 = .ok (.ifCond .ne 13, 3) := by decide +kernel
theorem d_SD_task_41 : decode b_SD_task 41 = .ok (.new 80, 3) := by decide +kernel
theorem d_SD_task_44 : decode b_SD_task 44 = .ok (.dup, 1) := by decide +kernel
theorem d_SD_task_45 : decode b_SD_task 45 = .ok (.ldc 82, 2) := by decide +kernel
theorem d_SD_task_47 : decode b_SD_task 47 = .ok (.invokespecial 84, 3) := by decide +kernel
theorem d_SD_task_50 : decode b_SD_task 50 = .ok (.athrow, 1) := by decide +kernel
theorem d_SD_task_51 : decode b_SD_task 51 = .ok (.aload_n 0, 1) := by decide +kernel
theorem d_SD_task_52 : decode b_SD_task 52 = .ok (.getfield 68, 3) := by decide +kernel
theorem d_SD_task_55 : decode b_SD_task 55 = .ok (.ifCond .ne 14, 3) := by decide +kernel
theorem d_SD_task_58 : decode b_SD_task 58 = .ok (.aload_n 0, 1) := by decide +kernel
theorem d_SD_task_59 : decode b_SD_task 59 = .ok (.getfield 10, 3) := by decide +kernel
theorem d_SD_task_62 : decode b_SD_task 62 = .ok (.getfield 87, 3) := by decide +kernel
theorem d_SD_task_65 : decode b_SD_task 65 = .ok (.iconst 5, 1) := by decide +kernel
theorem d_SD_task_66 : decode b_SD_task 66 = .ok (.if_icmp .lt 13, 3) := by decide +kernel
theorem d_SD_task_69 : decode b_SD_task 69 = .ok (.new 90, 3) := by decide +kernel
theorem d_SD_task_72 : decode b_SD_task 72 = .ok (.dup, 1) := by decide +kernel
theorem d_SD_task_73 : decode b_SD_task 73 = .ok (.ldc 92, 2) := by decide +kernel
theorem d_SD_task_75 : decode b_SD_task 75 = .ok (.invokespecial 94, 3) := by decide +kernel
theorem d_SD_task_78 : decode b_SD_task 78 = .ok (.athrow, 1) := by decide +kernel
theorem d_SD_task_79 : decode b_SD_task 79 = .ok (.aload_n 0, 1) := by decide +kernel
theorem d_SD_task_80 : decode b_SD_task 80 = .ok (.getfield 10, 3) := by decide +kernel
theorem d_SD_task_83 : decode b_SD_task 83 = .ok (.iload_n 1, 1) := by decide +kernel
theorem d_SD_task_84 : decode b_SD_task 84 = .ok (.invokevirtual 95, 3) := by decide +kernel
theorem d_SD_task_87 : decode b_SD_task 87 = .ok (.sipush 2000, 3) := by decide +kernel
theorem d_SD_task_90 : decode b_SD_task 90 = .ok (.if_icmp .le 13, 3) := by decide +kernel
theorem d_SD_task_93 : decode b_SD_task 93 = .ok (.new 99, 3) := by decide +kernel
theorem d_SD_task_96 : decode b_SD_task 96 = .ok (.dup, 1) := by decide +kernel
theorem d_SD_task_97 : decode b_SD_task 97 = .ok (.ldc 101, 2) := by decide +kernel
theorem d_SD_task_99 : decode b_SD_task 99 = .ok (.invokespecial 103, 3) := by decide +kernel
theorem d_SD_task_102 : decode b_SD_task 102 = .ok (.athrow, 1) := by decide +kernel
theorem d_SD_task_103 : decode b_SD_task 103 = .ok (.aload_n 0, 1) := by decide +kernel
theorem d_SD_task_104 : decode b_SD_task 104 = .ok (.getfield 10, 3) := by decide +kernel
theorem d_SD_task_107 : decode b_SD_task 107 = .ok (.iload_n 1, 1) := by decide +kernel
theorem d_SD_task_108 : decode b_SD_task 108 = .ok (.iload_n 2, 1) := by decide +kernel
theorem d_SD_task_109 : decode b_SD_task 109 = .ok (.iload_n 3, 1) := by decide +kernel
theorem d_SD_task_110 : decode b_SD_task 110 = .ok (.iload 4, 2) := by decide +kernel
theorem d_SD_task_112 : decode b_SD_task 112 = .ok (.invokevirtual 104, 3) := by decide +kernel
theorem d_SD_task_115 : decode b_SD_task 115 = .ok (.ireturn, 1) := by decide +kernel
theorem d_SD_task : ∀ z ∈ q_SD_task, decode b_SD_task z.1 = .ok z.2 := List.forall_mem_cons.mpr ⟨d_SD_task_0, List.forall_mem_cons.mpr ⟨d_SD_task_1, List.forall_mem_cons.mpr ⟨d_SD_task_2, List.forall_mem_cons.mpr ⟨d_SD_task_4, List.forall_mem_cons.mpr ⟨d_SD_task_7, List.forall_mem_cons.mpr ⟨d_SD_task_10, List.forall_mem_cons.mpr ⟨d_SD_task_11, List.forall_mem_cons.mpr ⟨d_SD_task_12, List.forall_mem_cons.mpr ⟨d_SD_task_13, List.forall_mem_cons.mpr ⟨d_SD_task_14, List.forall_mem_cons.mpr ⟨d_SD_task_15, List.forall_mem_cons.mpr ⟨d_SD_task_18, List.forall_mem_cons.mpr ⟨d_SD_task_21, List.forall_mem_cons.mpr ⟨d_SD_task_22, List.forall_mem_cons.mpr ⟨d_SD_task_23, List.forall_mem_cons.mpr ⟨d_SD_task_25, List.forall_mem_cons.mpr ⟨d_SD_task_28, List.forall_mem_cons.mpr ⟨d_SD_task_31, List.forall_mem_cons.mpr ⟨d_SD_task_33, List.forall_mem_cons.mpr ⟨d_SD_task_34, List.forall_mem_cons.mpr ⟨d_SD_task_35, List.forall_mem_cons.mpr ⟨d_SD_task_38, List.forall_mem_cons.mpr ⟨d_SD_task_41, List.forall_mem_cons.mpr ⟨d_SD_task_44, List.forall_mem_cons.mpr ⟨d_SD_task_45, List.forall_mem_cons.mpr ⟨d_SD_task_47, List.forall_mem_cons.mpr ⟨d_SD_task_50, List.forall_mem_cons.mpr ⟨d_SD_task_51, List.forall_mem_cons.mpr ⟨d_SD_task_52, List.forall_mem_cons.mpr ⟨d_SD_task_55, List.forall_mem_cons.mpr ⟨d_SD_task_58, List.forall_mem_cons.mpr ⟨d_SD_task_59, List.forall_mem_cons.mpr ⟨d_SD_task_62, List.forall_mem_cons.mpr ⟨d_SD_task_65, List.forall_mem_cons.mpr ⟨d_SD_task_66, List.forall_mem_cons.mpr ⟨d_SD_task_69, List.forall_mem_cons.mpr ⟨d_SD_task_72, List.forall_mem_cons.mpr ⟨d_SD_task_73, List.forall_mem_cons.mpr ⟨d_SD_task_75, List.forall_mem_cons.mpr ⟨d_SD_task_78, List.forall_mem_cons.mpr ⟨d_SD_task_79, List.forall_mem_cons.mpr ⟨d_SD_task_80, List.forall_mem_cons.mpr ⟨d_SD_task_83, List.forall_mem_cons.mpr ⟨d_SD_task_84, List.forall_mem_cons.mpr ⟨d_SD_task_87, List.forall_mem_cons.mpr ⟨d_SD_task_90, List.forall_mem_cons.mpr ⟨d_SD_task_93, List.forall_mem_cons.mpr ⟨d_SD_task_96, List.forall_mem_cons.mpr ⟨d_SD_task_97, List.forall_mem_cons.mpr ⟨d_SD_task_99, List.forall_mem_cons.mpr ⟨d_SD_task_102, List.forall_mem_cons.mpr ⟨d_SD_task_103, List.forall_mem_cons.mpr ⟨d_SD_task_104, List.forall_mem_cons.mpr ⟨d_SD_task_107, List.forall_mem_cons.mpr ⟨d_SD_task_108, List.forall_mem_cons.mpr ⟨d_SD_task_109, List.forall_mem_cons.mpr ⟨d_SD_task_110, List.forall_mem_cons.mpr ⟨d_SD_task_112, List.forall_mem_cons.mpr ⟨d_SD_task_115, fun _ h => absurd h List.not_mem_nil⟩⟩⟩⟩⟩⟩⟩⟩⟩⟩⟩⟩⟩⟩⟩⟩⟩⟩⟩⟩⟩⟩⟩⟩⟩⟩⟩⟩⟩⟩⟩⟩⟩⟩⟩⟩⟩⟩⟩⟩⟩⟩⟩⟩⟩⟩⟩⟩⟩⟩⟩⟩⟩⟩⟩⟩⟩⟩⟩
theorem i_SD_task_ok : ∀ pc i n, i_SD_task pc = some (i, n) → decode b_SD_task pc = .ok (i, n) := fun pc i n h => d_SD_task (pc, i, n) (am_find_mem h)
theorem i_SD_task_0 : i_SD_task 0 = some (.iload_n 1, 1) := rfl
theorem i_SD_task_1 : i_SD_task 1 = some (.iconst 1, 1) := rfl
theorem i_SD_task_2 : i_SD_task 2 = some (.bipush 60, 2) := rfl
theorem i_SD_task_4 : i_SD_task 4 = some (.invokestatic 76, 3) := rfl
theorem i_SD_task_7 : i_SD_task 7 = some (.ifCond .eq 34, 3) := rfl
theorem i_SD_task_10 : i_SD_task 10 = some (.iload_n 2, 1) := rfl
theorem i_SD_task_11 : i_SD_task 11 = some (.iconst 0, 1) := rfl
theorem i_SD_task_12 : i_SD_task 12 = some (.iload_n 1, 1) := rfl
theorem i_SD_task_13 : i_SD_task 13 = some (.iconst 1, 1) := rfl
theorem i_SD_task_14 : i_SD_task 14 = some (.isub, 1) := rfl
theorem i_SD_task_15 : i_SD_task 15 = some (.invokestatic 76, 3) := rfl
theorem i_SD_task_18 : i_SD_task 18 = some (.ifCond .eq 23, 3) := rfl
theorem i_SD_task_21 : i_SD_task 21 = some (.iload_n 3, 1) := rfl
theorem i_SD_task_22 : i_SD_task 22 = some (.iconst 1, 1) := rfl
theorem i_SD_task_23 : i_SD_task 23 = some (.bipush 60, 2) := rfl
theorem i_SD_task_25 : i_SD_task 25 = some (.invokestatic 76, 3) := rfl
theorem i_SD_task_28 : i_SD_task 28 = some (.ifCond .eq 13, 3) := rfl
theorem i_SD_task_31 : i_SD_task 31 = some (.iload 4, 2) := rfl
theorem i_SD_task_33 : i_SD_task 33 = some (.iload_n 3, 1) := rfl
theorem i_SD_task_34 : i_SD_task 34 = some (.iload_n 1, 1) := rfl
theorem i_SD_task_35 : i_SD_task 35 = some (.invokestatic 76, 3) := rfl
theorem i_SD_task_38 : i_SD_task 38 = some (.ifCond .ne 13, 3) := rfl
theorem i_SD_task_41 : i_SD_task 41 = some (.new 80, 3) := rfl
theorem i_SD_task_44 : i_SD_task 44 = some (.dup, 1) := rfl
theorem i_SD_task_45 : i_SD_task 45 = some (.ldc 82, 2) := rfl
theorem i_SD_task_47 : i_SD_task 47 = some (.invokespecial 84, 3) := rfl
theorem i_SD_task_50 : i_SD_task 50 = some (.athrow, 1) := rfl
theorem i_SD_task_51 : i_SD_task 51 = some (.aload_n 0, 1) := rfl
theorem i_SD_task_52 : i_SD_task 52 = some (.getfield 68, 3) := rfl
theorem i_SD_task_55 : i_SD_task 55 = some (.ifCond .ne 14, 3) := rfl
theorem i_SD_task_58 : i_SD_task 58 = some (.aload_n 0, 1) := rfl
theorem i_SD_task_59 : i_SD_task 59 = some (.getfield 10, 3) := rfl
theorem i_SD_task_62 : i_SD_task 62 = some (.getfield 87, 3) := rfl
theorem i_SD_task_65 : i_SD_task 65 = some (.iconst 5, 1) := rfl
theorem i_SD_task_66 : i_SD_task 66 = some (.if_icmp .lt 13, 3) := rfl
theorem i_SD_task_69 : i_SD_task 69 = some (.new 90, 3) := rfl
theorem i_SD_task_72 : i_SD_task 72 = some (.dup, 1) := rfl
theorem i_SD_task_73 : i_SD_task 73 = some (.ldc 92, 2) := rfl
theorem i_SD_task_75 : i_SD_task 75 = some (.invokespecial 94, 3) := rfl
theorem i_SD_task_78 : i_SD_task 78 = some (.athrow, 1) := rfl
theorem i_SD_task_79 : i_SD_task 79 = some (.aload_n 0, 1) := rfl
theorem i_SD_task_80 : i_SD_task 80 = some (.getfield 10, 3) := rfl
theorem i_SD_task_83 : i_SD_task 83 = some (.iload_n 1, 1) := rfl
theorem i_SD_task_84 : i_SD_task 84 = some (.invokevirtual 95, 3) := rfl
theorem i_SD_task_87 : i_SD_task 87 = some (.sipush 2000, 3) := rfl
theorem i_SD_task_90 : i_SD_task 90 = some (.if_icmp .le 13, 3) := rfl
theorem i_SD_task_93 : i_SD_task 93 = some (.new 99, 3) := rfl
theorem i_SD_task_96 : i_SD_task 96 = some (.dup, 1) := rfl
theorem i_SD_task_97 : i_SD_task 97 = some (.ldc 101, 2) := rfl
theorem i_SD_task_99 : i_SD_task 99 = some (.invokespecial 103, 3) := rfl
theorem i_SD_task_102 : i_SD_task 102 = some (.athrow, 1) := rfl
theorem i_SD_task_103 : i_SD_task 103 = some (.aload_n 0, 1) := rfl
theorem i_SD_task_104 : i_SD_task 104 = some (.getfield 10, 3) := rfl
theorem i_SD_task_107 : i_SD_task 107 = some (.iload_n 1, 1) := rfl
theorem i_SD_task_108 : i_SD_task 108 = some (.iload_n 2, 1) := rfl
theorem i_SD_task_109 : i_SD_task 109 = some (.iload_n 3, 1) := rfl
theorem i_SD_task_110 : i_SD_task 110 = some (.iload 4, 2) := rfl
theorem i_SD_task_112 : i_SD_task 112 = some (.invokevirtual 104, 3) := rfl
theorem i_SD_task_115 : i_SD_task 115 = some (.ireturn, 1) := rfl
abbrev w_SD_task : List Jvm.Cond := Jvm.Cond.code y_SD_task b_SD_task 5 (some .int) :: vw_W
theorem c_SD_task : Jvm.Cond.code y_SD_task b_SD_task 5 (some .int) ∈ vw_W := vw_t 381 (by decide +kernel) (by decide +kernel)
abbrev r_SD_task : Room := { frames := 6, cells := 0, slots := 0, locals := 100 }
abbrev b_SD_isWithin : ByteArray := prog_1_method_18_code
abbrev y_SD_isWithin : MethodName := ⟨"ServerDesk", "isWithin", "(III)Z"⟩
def q_SD_isWithin : List (Nat × Instr × Nat) := [(0, .iload_n 0, 1), (1, .iload_n 1, 1), (2, .if_icmp .lt 12, 3), (5, .iload_n 0, 1), (6, .iload_n 2, 1), (7, .if_icmp .gt 7, 3), (10, .iconst 1, 1), (11, .goto 4, 3), (14, .iconst 0, 1), (15, .ireturn, 1)]
def i_SD_isWithin : Nat → Option (Instr × Nat) := am_find q_SD_isWithin
theorem d_SD_isWithin_0 : decode b_SD_isWithin 0 = .ok (.iload_n 0, 1) := by decide +kernel
theorem d_SD_isWithin_1 : decode b_SD_isWithin 1 = .ok (.iload_n 1, 1) := by decide +kernel
theorem d_SD_isWithin_2 : decode b_SD_isWithin 2 = .ok (.if_icmp .lt 12, 3) := by decide +kernel
theorem d_SD_isWithin_5 : decode b_SD_isWithin 5 = .ok (.iload_n 0, 1) := by decide +kernel
theorem d_SD_isWithin_6 : decode b_SD_isWithin 6 = .ok (.iload_n 2, 1) := by decide +kernel
theorem d_SD_isWithin_7 : decode b_SD_isWithin 7 = .ok (.if_icmp .gt 7, 3) := by decide +kernel
theorem d_SD_isWithin_10 : decode b_SD_isWithin 10 = .ok (.iconst 1, 1) := by decide +kernel
theorem d_SD_isWithin_11 : decode b_SD_isWithin 11 = .ok (.goto 4, 3) := by decide +kernel
theorem d_SD_isWithin_14 : decode b_SD_isWithin 14 = .ok (.iconst 0, 1) := by decide +kernel
theorem d_SD_isWithin_15 : decode b_SD_isWithin 15 = .ok (.ireturn, 1) := by decide +kernel
theorem d_SD_isWithin : ∀ z ∈ q_SD_isWithin, decode b_SD_isWithin z.1 = .ok z.2 := List.forall_mem_cons.mpr ⟨d_SD_isWithin_0, List.forall_mem_cons.mpr ⟨d_SD_isWithin_1, List.forall_mem_cons.mpr ⟨d_SD_isWithin_2, List.forall_mem_cons.mpr ⟨d_SD_isWithin_5, List.forall_mem_cons.mpr ⟨d_SD_isWithin_6, List.forall_mem_cons.mpr ⟨d_SD_isWithin_7, List.forall_mem_cons.mpr ⟨d_SD_isWithin_10, List.forall_mem_cons.mpr ⟨d_SD_isWithin_11, List.forall_mem_cons.mpr ⟨d_SD_isWithin_14, List.forall_mem_cons.mpr ⟨d_SD_isWithin_15, fun _ h => absurd h List.not_mem_nil⟩⟩⟩⟩⟩⟩⟩⟩⟩⟩
theorem i_SD_isWithin_ok : ∀ pc i n, i_SD_isWithin pc = some (i, n) → decode b_SD_isWithin pc = .ok (i, n) := fun pc i n h => d_SD_isWithin (pc, i, n) (am_find_mem h)
theorem i_SD_isWithin_0 : i_SD_isWithin 0 = some (.iload_n 0, 1) := rfl
theorem i_SD_isWithin_1 : i_SD_isWithin 1 = some (.iload_n 1, 1) := rfl
theorem i_SD_isWithin_2 : i_SD_isWithin 2 = some (.if_icmp .lt 12, 3) := rfl
theorem i_SD_isWithin_5 : i_SD_isWithin 5 = some (.iload_n 0, 1) := rfl
theorem i_SD_isWithin_6 : i_SD_isWithin 6 = some (.iload_n 2, 1) := rfl
theorem i_SD_isWithin_7 : i_SD_isWithin 7 = some (.if_icmp .gt 7, 3) := rfl
theorem i_SD_isWithin_10 : i_SD_isWithin 10 = some (.iconst 1, 1) := rfl
theorem i_SD_isWithin_11 : i_SD_isWithin 11 = some (.goto 4, 3) := rfl
theorem i_SD_isWithin_14 : i_SD_isWithin 14 = some (.iconst 0, 1) := rfl
theorem i_SD_isWithin_15 : i_SD_isWithin 15 = some (.ireturn, 1) := rfl
abbrev w_SD_isWithin : List Jvm.Cond := Jvm.Cond.code y_SD_isWithin b_SD_isWithin 3 (some .boolean) :: vw_W
theorem c_SD_isWithin : Jvm.Cond.code y_SD_isWithin b_SD_isWithin 3 (some .boolean) ∈ vw_W := vw_t 384 (by decide +kernel) (by decide +kernel)
abbrev r_SD_isWithin : Room := { frames := 0, cells := 0, slots := 0, locals := 0 }
abbrev b_TS_hyperperiodWith : ByteArray := prog_11_method_3_code
abbrev y_TS_hyperperiodWith : MethodName := ⟨"ServerDesk$TaskSet", "hyperperiodWith", "(I)I"⟩
def q_TS_hyperperiodWith : List (Nat × Instr × Nat) := [(0, .aload_n 0, 1), (1, .getfield 31, 3), (4, .aload_n 0, 1), (5, .getfield 31, 3), (8, .iload_n 1, 1), (9, .invokestatic 34, 3), (12, .idiv, 1), (13, .iload_n 1, 1), (14, .imul, 1), (15, .ireturn, 1)]
def i_TS_hyperperiodWith : Nat → Option (Instr × Nat) := am_find q_TS_hyperperiodWith
theorem d_TS_hyperperiodWith_0 : decode b_TS_hyperperiodWith 0 = .ok (.aload_n 0, 1) := by decide +kernel
theorem d_TS_hyperperiodWith_1 : decode b_TS_hyperperiodWith 1 = .ok (.getfield 31, 3) := by decide +kernel
theorem d_TS_hyperperiodWith_4 : decode b_TS_hyperperiodWith 4 = .ok (.aload_n 0, 1) := by decide +kernel
theorem d_TS_hyperperiodWith_5 : decode b_TS_hyperperiodWith 5 = .ok (.getfield 31, 3) := by decide +kernel
theorem d_TS_hyperperiodWith_8 : decode b_TS_hyperperiodWith 8 = .ok (.iload_n 1, 1) := by decide +kernel
theorem d_TS_hyperperiodWith_9 : decode b_TS_hyperperiodWith 9 = .ok (.invokestatic 34, 3) := by decide +kernel
theorem d_TS_hyperperiodWith_12 : decode b_TS_hyperperiodWith 12 = .ok (.idiv, 1) := by decide +kernel
theorem d_TS_hyperperiodWith_13 : decode b_TS_hyperperiodWith 13 = .ok (.iload_n 1, 1) := by decide +kernel
theorem d_TS_hyperperiodWith_14 : decode b_TS_hyperperiodWith 14 = .ok (.imul, 1) := by decide +kernel
theorem d_TS_hyperperiodWith_15 : decode b_TS_hyperperiodWith 15 = .ok (.ireturn, 1) := by decide +kernel
theorem d_TS_hyperperiodWith : ∀ z ∈ q_TS_hyperperiodWith, decode b_TS_hyperperiodWith z.1 = .ok z.2 := List.forall_mem_cons.mpr ⟨d_TS_hyperperiodWith_0, List.forall_mem_cons.mpr ⟨d_TS_hyperperiodWith_1, List.forall_mem_cons.mpr ⟨d_TS_hyperperiodWith_4, List.forall_mem_cons.mpr ⟨d_TS_hyperperiodWith_5, List.forall_mem_cons.mpr ⟨d_TS_hyperperiodWith_8, List.forall_mem_cons.mpr ⟨d_TS_hyperperiodWith_9, List.forall_mem_cons.mpr ⟨d_TS_hyperperiodWith_12, List.forall_mem_cons.mpr ⟨d_TS_hyperperiodWith_13, List.forall_mem_cons.mpr ⟨d_TS_hyperperiodWith_14, List.forall_mem_cons.mpr ⟨d_TS_hyperperiodWith_15, fun _ h => absurd h List.not_mem_nil⟩⟩⟩⟩⟩⟩⟩⟩⟩⟩
theorem i_TS_hyperperiodWith_ok : ∀ pc i n, i_TS_hyperperiodWith pc = some (i, n) → decode b_TS_hyperperiodWith pc = .ok (i, n) := fun pc i n h => d_TS_hyperperiodWith (pc, i, n) (am_find_mem h)
theorem i_TS_hyperperiodWith_0 : i_TS_hyperperiodWith 0 = some (.aload_n 0, 1) := rfl
theorem i_TS_hyperperiodWith_1 : i_TS_hyperperiodWith 1 = some (.getfield 31, 3) := rfl
theorem i_TS_hyperperiodWith_4 : i_TS_hyperperiodWith 4 = some (.aload_n 0, 1) := rfl
theorem i_TS_hyperperiodWith_5 : i_TS_hyperperiodWith 5 = some (.getfield 31, 3) := rfl
theorem i_TS_hyperperiodWith_8 : i_TS_hyperperiodWith 8 = some (.iload_n 1, 1) := rfl
theorem i_TS_hyperperiodWith_9 : i_TS_hyperperiodWith 9 = some (.invokestatic 34, 3) := rfl
theorem i_TS_hyperperiodWith_12 : i_TS_hyperperiodWith 12 = some (.idiv, 1) := rfl
theorem i_TS_hyperperiodWith_13 : i_TS_hyperperiodWith 13 = some (.iload_n 1, 1) := rfl
theorem i_TS_hyperperiodWith_14 : i_TS_hyperperiodWith 14 = some (.imul, 1) := rfl
theorem i_TS_hyperperiodWith_15 : i_TS_hyperperiodWith 15 = some (.ireturn, 1) := rfl
abbrev w_TS_hyperperiodWith : List Jvm.Cond := Jvm.Cond.code y_TS_hyperperiodWith b_TS_hyperperiodWith 2 (some .int) :: vw_W
theorem c_TS_hyperperiodWith : Jvm.Cond.code y_TS_hyperperiodWith b_TS_hyperperiodWith 2 (some .int) ∈ vw_W := vw_t 474 (by decide +kernel) (by decide +kernel)
abbrev r_TS_hyperperiodWith : Room := { frames := 1, cells := 0, slots := 0, locals := 25 }
abbrev b_TS_commonDivisor : ByteArray := prog_11_method_8_code
abbrev y_TS_commonDivisor : MethodName := ⟨"ServerDesk$TaskSet", "commonDivisor", "(II)I"⟩
def q_TS_commonDivisor : List (Nat × Instr × Nat) := [(0, .iload_n 0, 1), (1, .istore_n 2, 1), (2, .iload_n 1, 1), (3, .istore_n 3, 1), (4, .iconst 0, 1), (5, .istore 4, 2), (7, .iload 4, 2), (9, .bipush 64, 2), (11, .if_icmp .ge 23, 3), (14, .iload_n 3, 1), (15, .ifCond .le 19, 3), (18, .iload_n 2, 1), (19, .iload_n 3, 1), (20, .irem, 1), (21, .istore 5, 2), (23, .iload_n 3, 1), (24, .istore_n 2, 1), (25, .iload 5, 2), (27, .istore_n 3, 1), (28, .iinc 4 1, 3), (31, .goto (-24), 3), (34, .iload_n 2, 1), (35, .ifCond .le 7, 3), (38, .iload_n 2, 1), (39, .goto 4, 3), (42, .iconst 1, 1), (43, .ireturn, 1)]
def i_TS_commonDivisor : Nat → Option (Instr × Nat) := am_find q_TS_commonDivisor
theorem d_TS_commonDivisor_0 : decode b_TS_commonDivisor 0 = .ok (.iload_n 0, 1) := by decide +kernel
theorem d_TS_commonDivisor_1 : decode b_TS_commonDivisor 1 = .ok (.istore_n 2, 1) := by decide +kernel
theorem d_TS_commonDivisor_2 : decode b_TS_commonDivisor 2 = .ok (.iload_n 1, 1) := by decide +kernel
theorem d_TS_commonDivisor_3 : decode b_TS_commonDivisor 3 = .ok (.istore_n 3, 1) := by decide +kernel
theorem d_TS_commonDivisor_4 : decode b_TS_commonDivisor 4 = .ok (.iconst 0, 1) := by decide +kernel
theorem d_TS_commonDivisor_5 : decode b_TS_commonDivisor 5 = .ok (.istore 4, 2) := by decide +kernel
theorem d_TS_commonDivisor_7 : decode b_TS_commonDivisor 7 = .ok (.iload 4, 2) := by decide +kernel
theorem d_TS_commonDivisor_9 : decode b_TS_commonDivisor 9 = .ok (.bipush 64, 2) := by decide +kernel
theorem d_TS_commonDivisor_11 : decode b_TS_commonDivisor 11 = .ok (.if_icmp .ge 23, 3) := by decide +kernel
theorem d_TS_commonDivisor_14 : decode b_TS_commonDivisor 14 = .ok (.iload_n 3, 1) := by decide +kernel
theorem d_TS_commonDivisor_15 : decode b_TS_commonDivisor 15 = .ok (.ifCond .le 19, 3) := by decide +kernel
theorem d_TS_commonDivisor_18 : decode b_TS_commonDivisor 18 = .ok (.iload_n 2, 1) := by decide +kernel
theorem d_TS_commonDivisor_19 : decode b_TS_commonDivisor 19 = .ok (.iload_n 3, 1) := by decide +kernel
theorem d_TS_commonDivisor_20 : decode b_TS_commonDivisor 20 = .ok (.irem, 1) := by decide +kernel
theorem d_TS_commonDivisor_21 : decode b_TS_commonDivisor 21 = .ok (.istore 5, 2) := by decide +kernel
theorem d_TS_commonDivisor_23 : decode b_TS_commonDivisor 23 = .ok (.iload_n 3, 1) := by decide +kernel
theorem d_TS_commonDivisor_24 : decode b_TS_commonDivisor 24 = .ok (.istore_n 2, 1) := by decide +kernel
theorem d_TS_commonDivisor_25 : decode b_TS_commonDivisor 25 = .ok (.iload 5, 2) := by decide +kernel
theorem d_TS_commonDivisor_27 : decode b_TS_commonDivisor 27 = .ok (.istore_n 3, 1) := by decide +kernel
theorem d_TS_commonDivisor_28 : decode b_TS_commonDivisor 28 = .ok (.iinc 4 1, 3) := by decide +kernel
theorem d_TS_commonDivisor_31 : decode b_TS_commonDivisor 31 = .ok (.goto (-24), 3) := by decide +kernel
theorem d_TS_commonDivisor_34 : decode b_TS_commonDivisor 34 = .ok (.iload_n 2, 1) := by decide +kernel
theorem d_TS_commonDivisor_35 : decode b_TS_commonDivisor 35 = .ok (.ifCond .le 7, 3) := by decide +kernel
theorem d_TS_commonDivisor_38 : decode b_TS_commonDivisor 38 = .ok (.iload_n 2, 1) := by decide +kernel
theorem d_TS_commonDivisor_39 : decode b_TS_commonDivisor 39 = .ok (.goto 4, 3) := by decide +kernel
theorem d_TS_commonDivisor_42 : decode b_TS_commonDivisor 42 = .ok (.iconst 1, 1) := by decide +kernel
theorem d_TS_commonDivisor_43 : decode b_TS_commonDivisor 43 = .ok (.ireturn, 1) := by decide +kernel
theorem d_TS_commonDivisor : ∀ z ∈ q_TS_commonDivisor, decode b_TS_commonDivisor z.1 = .ok z.2 := List.forall_mem_cons.mpr ⟨d_TS_commonDivisor_0, List.forall_mem_cons.mpr ⟨d_TS_commonDivisor_1, List.forall_mem_cons.mpr ⟨d_TS_commonDivisor_2, List.forall_mem_cons.mpr ⟨d_TS_commonDivisor_3, List.forall_mem_cons.mpr ⟨d_TS_commonDivisor_4, List.forall_mem_cons.mpr ⟨d_TS_commonDivisor_5, List.forall_mem_cons.mpr ⟨d_TS_commonDivisor_7, List.forall_mem_cons.mpr ⟨d_TS_commonDivisor_9, List.forall_mem_cons.mpr ⟨d_TS_commonDivisor_11, List.forall_mem_cons.mpr ⟨d_TS_commonDivisor_14, List.forall_mem_cons.mpr ⟨d_TS_commonDivisor_15, List.forall_mem_cons.mpr ⟨d_TS_commonDivisor_18, List.forall_mem_cons.mpr ⟨d_TS_commonDivisor_19, List.forall_mem_cons.mpr ⟨d_TS_commonDivisor_20, List.forall_mem_cons.mpr ⟨d_TS_commonDivisor_21, List.forall_mem_cons.mpr ⟨d_TS_commonDivisor_23, List.forall_mem_cons.mpr ⟨d_TS_commonDivisor_24, List.forall_mem_cons.mpr ⟨d_TS_commonDivisor_25, List.forall_mem_cons.mpr ⟨d_TS_commonDivisor_27, List.forall_mem_cons.mpr ⟨d_TS_commonDivisor_28, List.forall_mem_cons.mpr ⟨d_TS_commonDivisor_31, List.forall_mem_cons.mpr ⟨d_TS_commonDivisor_34, List.forall_mem_cons.mpr ⟨d_TS_commonDivisor_35, List.forall_mem_cons.mpr ⟨d_TS_commonDivisor_38, List.forall_mem_cons.mpr ⟨d_TS_commonDivisor_39, List.forall_mem_cons.mpr ⟨d_TS_commonDivisor_42, List.forall_mem_cons.mpr ⟨d_TS_commonDivisor_43, fun _ h => absurd h List.not_mem_nil⟩⟩⟩⟩⟩⟩⟩⟩⟩⟩⟩⟩⟩⟩⟩⟩⟩⟩⟩⟩⟩⟩⟩⟩⟩⟩⟩
theorem i_TS_commonDivisor_ok : ∀ pc i n, i_TS_commonDivisor pc = some (i, n) → decode b_TS_commonDivisor pc = .ok (i, n) := fun pc i n h => d_TS_commonDivisor (pc, i, n) (am_find_mem h)
theorem i_TS_commonDivisor_0 : i_TS_commonDivisor 0 = some (.iload_n 0, 1) := rfl
theorem i_TS_commonDivisor_1 : i_TS_commonDivisor 1 = some (.istore_n 2, 1) := rfl
theorem i_TS_commonDivisor_2 : i_TS_commonDivisor 2 = some (.iload_n 1, 1) := rfl
theorem i_TS_commonDivisor_3 : i_TS_commonDivisor 3 = some (.istore_n 3, 1) := rfl
theorem i_TS_commonDivisor_4 : i_TS_commonDivisor 4 = some (.iconst 0, 1) := rfl
theorem i_TS_commonDivisor_5 : i_TS_commonDivisor 5 = some (.istore 4, 2) := rfl
theorem i_TS_commonDivisor_7 : i_TS_commonDivisor 7 = some (.iload 4, 2) := rfl
theorem i_TS_commonDivisor_9 : i_TS_commonDivisor 9 = some (.bipush 64, 2) := rfl
theorem i_TS_commonDivisor_11 : i_TS_commonDivisor 11 = some (.if_icmp .ge 23, 3) := rfl
theorem i_TS_commonDivisor_14 : i_TS_commonDivisor 14 = some (.iload_n 3, 1) := rfl
theorem i_TS_commonDivisor_15 : i_TS_commonDivisor 15 = some (.ifCond .le 19, 3) := rfl
theorem i_TS_commonDivisor_18 : i_TS_commonDivisor 18 = some (.iload_n 2, 1) := rfl
theorem i_TS_commonDivisor_19 : i_TS_commonDivisor 19 = some (.iload_n 3, 1) := rfl
theorem i_TS_commonDivisor_20 : i_TS_commonDivisor 20 = some (.irem, 1) := rfl
theorem i_TS_commonDivisor_21 : i_TS_commonDivisor 21 = some (.istore 5, 2) := rfl
theorem i_TS_commonDivisor_23 : i_TS_commonDivisor 23 = some (.iload_n 3, 1) := rfl
theorem i_TS_commonDivisor_24 : i_TS_commonDivisor 24 = some (.istore_n 2, 1) := rfl
theorem i_TS_commonDivisor_25 : i_TS_commonDivisor 25 = some (.iload 5, 2) := rfl
theorem i_TS_commonDivisor_27 : i_TS_commonDivisor 27 = some (.istore_n 3, 1) := rfl
theorem i_TS_commonDivisor_28 : i_TS_commonDivisor 28 = some (.iinc 4 1, 3) := rfl
theorem i_TS_commonDivisor_31 : i_TS_commonDivisor 31 = some (.goto (-24), 3) := rfl
theorem i_TS_commonDivisor_34 : i_TS_commonDivisor 34 = some (.iload_n 2, 1) := rfl
theorem i_TS_commonDivisor_35 : i_TS_commonDivisor 35 = some (.ifCond .le 7, 3) := rfl
theorem i_TS_commonDivisor_38 : i_TS_commonDivisor 38 = some (.iload_n 2, 1) := rfl
theorem i_TS_commonDivisor_39 : i_TS_commonDivisor 39 = some (.goto 4, 3) := rfl
theorem i_TS_commonDivisor_42 : i_TS_commonDivisor 42 = some (.iconst 1, 1) := rfl
theorem i_TS_commonDivisor_43 : i_TS_commonDivisor 43 = some (.ireturn, 1) := rfl
abbrev w_TS_commonDivisor : List Jvm.Cond := Jvm.Cond.code y_TS_commonDivisor b_TS_commonDivisor 6 (some .int) :: vw_W
theorem c_TS_commonDivisor : Jvm.Cond.code y_TS_commonDivisor b_TS_commonDivisor 6 (some .int) ∈ vw_W := vw_t 477 (by decide +kernel) (by decide +kernel)
abbrev r_TS_commonDivisor : Room := { frames := 0, cells := 0, slots := 0, locals := 0 }
abbrev b_TS_add : ByteArray := prog_11_method_4_code
abbrev y_TS_add : MethodName := ⟨"ServerDesk$TaskSet", "add", "(IIII)I"⟩
def q_TS_add : List (Nat × Instr × Nat) := [(0, .aload_n 0, 1), (1, .getfield 27, 3), (4, .istore 5, 2), (6, .iload 5, 2), (8, .iconst 5, 1), (9, .if_icmp .lt 5, 3), (12, .iconst (-1), 1), (13, .ireturn, 1), (14, .aload_n 0, 1), (15, .aload_n 0, 1), (16, .iload_n 1, 1), (17, .invokevirtual 38, 3), (20, .putfield 31, 3), (23, .aload_n 0, 1), (24, .getfield 9, 3), (27, .iload 5, 2), (29, .iload_n 1, 1), (30, .iastore, 1), (31, .aload_n 0, 1), (32, .getfield 15, 3), (35, .iload 5, 2), (37, .iload_n 2, 1), (38, .iastore, 1), (39, .aload_n 0, 1), (40, .getfield 18, 3), (43, .iload 5, 2), (45, .iload_n 3, 1), (46, .iastore, 1), (47, .aload_n 0, 1), (48, .getfield 21, 3), (51, .iload 5, 2), (53, .iload 4, 2), (55, .iastore, 1), (56, .iload 5, 2), (58, .istore 6, 2), (60, .iload 6, 2), (62, .ifCond .le 44, 3), (65, .aload_n 0, 1), (66, .getfield 21, 3), (69, .aload_n 0, 1), (70, .getfield 24, 3), (73, .iload 6, 2), (75, .iconst 1, 1), (76, .isub, 1), (77, .iaload, 1), (78, .iaload, 1), (79, .iload 4, 2), (81, .if_icmp .le 25, 3), (84, .aload_n 0, 1), (85, .getfield 24, 3), (88, .iload 6, 2), (90, .aload_n 0, 1), (91, .getfield 24, 3), (94, .iload 6, 2), (96, .iconst 1, 1), (97, .isub, 1), (98, .iaload, 1), (99, .iastore, 1), (100, .iinc 6 (-1), 3), (103, .goto (-43), 3), (106, .aload_n 0, 1), (107, .getfield 24, 3), (110, .iload 6, 2), (112, .iload 5, 2), (114, .iastore, 1), (115, .aload_n 0, 1), (116, .dup, 1), (117, .getfield 27, 3), (120, .iconst 1, 1), (121, .iadd, 1), (122, .putfield 27, 3), (125, .iload 5, 2), (127, .ireturn, 1)]
def i_TS_add : Nat → Option (Instr × Nat) := am_find q_TS_add
theorem d_TS_add_0 : decode b_TS_add 0 = .ok (.aload_n 0, 1) := by decide +kernel
theorem d_TS_add_1 : decode b_TS_add 1 = .ok (.getfield 27, 3) := by decide +kernel
theorem d_TS_add_4 : decode b_TS_add 4 = .ok (.istore 5, 2) := by decide +kernel
theorem d_TS_add_6 : decode b_TS_add 6 = .ok (.iload 5, 2) := by decide +kernel
theorem d_TS_add_8 : decode b_TS_add 8 = .ok (.iconst 5, 1) := by decide +kernel
theorem d_TS_add_9 : decode b_TS_add 9 = .ok (.if_icmp .lt 5, 3) := by decide +kernel
theorem d_TS_add_12 : decode b_TS_add 12 = .ok (.iconst (-1), 1) := by decide +kernel
theorem d_TS_add_13 : decode b_TS_add 13 = .ok (.ireturn, 1) := by decide +kernel
theorem d_TS_add_14 : decode b_TS_add 14 = .ok (.aload_n 0, 1) := by decide +kernel
theorem d_TS_add_15 : decode b_TS_add 15 = .ok (.aload_n 0, 1) := by decide +kernel
theorem d_TS_add_16 : decode b_TS_add 16 = .ok (.iload_n 1, 1) := by decide +kernel
theorem d_TS_add_17 : decode b_TS_add 17 = .ok (.invokevirtual 38, 3) := by decide +kernel
theorem d_TS_add_20 : decode b_TS_add 20 = .ok (.putfield 31, 3) := by decide +kernel
theorem d_TS_add_23 : decode b_TS_add 23 = .ok (.aload_n 0, 1) := by decide +kernel
theorem d_TS_add_24 : decode b_TS_add 24 = .ok (.getfield 9, 3) := by decide +kernel
theorem d_TS_add_27 : decode b_TS_add 27 = .ok (.iload 5, 2) := by decide +kernel
theorem d_TS_add_29 : decode b_TS_add 29 = .ok (.iload_n 1, 1) := by decide +kernel
theorem d_TS_add_30 : decode b_TS_add 30 = .ok (.iastore, 1) := by decide +kernel
theorem d_TS_add_31 : decode b_TS_add 31 = .ok (.aload_n 0, 1) := by decide +kernel
theorem d_TS_add_32 : decode b_TS_add 32 = .ok (.getfield 15, 3) := by decide +kernel
theorem d_TS_add_35 : decode b_TS_add 35 = .ok (.iload 5, 2) := by decide +kernel
theorem d_TS_add_37 : decode b_TS_add 37 = .ok (.iload_n 2, 1) := by decide +kernel
theorem d_TS_add_38 : decode b_TS_add 38 = .ok (.iastore, 1) := by decide +kernel
theorem d_TS_add_39 : decode b_TS_add 39 = .ok (.aload_n 0, 1) := by decide +kernel
theorem d_TS_add_40 : decode b_TS_add 40 = .ok (.getfield 18, 3) := by decide +kernel
theorem d_TS_add_43 : decode b_TS_add 43 = .ok (.iload 5, 2) := by decide +kernel
theorem d_TS_add_45 : decode b_TS_add 45 = .ok (.iload_n 3, 1) := by decide +kernel
theorem d_TS_add_46 : decode b_TS_add 46 = .ok (.iastore, 1) := by decide +kernel
theorem d_TS_add_47 : decode b_TS_add 47 = .ok (.aload_n 0, 1) := by decide +kernel
theorem d_TS_add_48 : decode b_TS_add 48 = .ok (.getfield 21, 3) := by decide +kernel
theorem d_TS_add_51 : decode b_TS_add 51 = .ok (.iload 5, 2) := by decide +kernel
theorem d_TS_add_53 : decode b_TS_add 53 = .ok (.iload 4, 2) := by decide +kernel
theorem d_TS_add_55 : decode b_TS_add 55 = .ok (.iastore, 1) := by decide +kernel
theorem d_TS_add_56 : decode b_TS_add 56 = .ok (.iload 5, 2) := by decide +kernel
theorem d_TS_add_58 : decode b_TS_add 58 = .ok (.istore 6, 2) := by decide +kernel
theorem d_TS_add_60 : decode b_TS_add 60 = .ok (.iload 6, 2) := by decide +kernel
theorem d_TS_add_62 : decode b_TS_add 62 = .ok (.ifCond .le 44, 3) := by decide +kernel
theorem d_TS_add_65 : decode b_TS_add 65 = .ok (.aload_n 0, 1) := by decide +kernel
theorem d_TS_add_66 : decode b_TS_add 66 = .ok (.getfield 21, 3) := by decide +kernel
theorem d_TS_add_69 : decode b_TS_add 69 = .ok (.aload_n 0, 1) := by decide +kernel
theorem d_TS_add_70 : decode b_TS_add 70 = .ok (.getfield 24, 3) := by decide +kernel
theorem d_TS_add_73 : decode b_TS_add 73 = .ok (.iload 6, 2) := by decide +kernel
theorem d_TS_add_75 : decode b_TS_add 75 = .ok (.iconst 1, 1) := by decide +kernel
theorem d_TS_add_76 : decode b_TS_add 76 = .ok (.isub, 1) := by decide +kernel
theorem d_TS_add_77 : decode b_TS_add 77 = .ok (.iaload, 1) := by decide +kernel
theorem d_TS_add_78 : decode b_TS_add 78 = .ok (.iaload, 1) := by decide +kernel
theorem d_TS_add_79 : decode b_TS_add 79 = .ok (.iload 4, 2) := by decide +kernel
theorem d_TS_add_81 : decode b_TS_add 81 = .ok (.if_icmp .le 25, 3) := by decide +kernel
theorem d_TS_add_84 : decode b_TS_add 84 = .ok (.aload_n 0, 1) := by decide +kernel
theorem d_TS_add_85 : decode b_TS_add 85 = .ok (.getfield 24, 3) := by decide +kernel
theorem d_TS_add_88 : decode b_TS_add 88 = .ok (.iload 6, 2) := by decide +kernel
theorem d_TS_add_90 : decode b_TS_add 90 = .ok (.aload_n 0, 1) := by decide +kernel
theorem d_TS_add_91 : decode b_TS_add 91 = .ok (.getfield 24, 3) := by decide +kernel
theorem d_TS_add_94 : decode b_TS_add 94 = .ok (.iload 6, 2) := by decide +kernel
theorem d_TS_add_96 : decode b_TS_add 96 = .ok (.iconst 1, 1) := by decide +kernel
theorem d_TS_add_97 : decode b_TS_add 97 = .ok (.isub, 1) := by decide +kernel
theorem d_TS_add_98 : decode b_TS_add 98 = .ok (.iaload, 1) := by decide +kernel
theorem d_TS_add_99 : decode b_TS_add 99 = .ok (.iastore, 1) := by decide +kernel
theorem d_TS_add_100 : decode b_TS_add 100 = .ok (.iinc 6 (-1), 3) := by decide +kernel
theorem d_TS_add_103 : decode b_TS_add 103 = .ok (.goto (-43), 3) := by decide +kernel
theorem d_TS_add_106 : decode b_TS_add 106 = .ok (.aload_n 0, 1) := by decide +kernel
theorem d_TS_add_107 : decode b_TS_add 107 = .ok (.getfield 24, 3) := by decide +kernel
theorem d_TS_add_110 : decode b_TS_add 110 = .ok (.iload 6, 2) := by decide +kernel
theorem d_TS_add_112 : decode b_TS_add 112 = .ok (.iload 5, 2) := by decide +kernel
theorem d_TS_add_114 : decode b_TS_add 114 = .ok (.iastore, 1) := by decide +kernel
theorem d_TS_add_115 : decode b_TS_add 115 = .ok (.aload_n 0, 1) := by decide +kernel
theorem d_TS_add_116 : decode b_TS_add 116 = .ok (.dup, 1) := by decide +kernel
theorem d_TS_add_117 : decode b_TS_add 117 = .ok (.getfield 27, 3) := by decide +kernel
theorem d_TS_add_120 : decode b_TS_add 120 = .ok (.iconst 1, 1) := by decide +kernel
theorem d_TS_add_121 : decode b_TS_add 121 = .ok (.iadd, 1) := by decide +kernel
theorem d_TS_add_122 : decode b_TS_add 122 = .ok (.putfield 27, 3) := by decide +kernel
theorem d_TS_add_125 : decode b_TS_add 125 = .ok (.iload 5, 2) := by decide +kernel
theorem d_TS_add_127 : decode b_TS_add 127 = .ok (.ireturn, 1) := by decide +kernel
theorem d_TS_add : ∀ z ∈ q_TS_add, decode b_TS_add z.1 = .ok z.2 := List.forall_mem_cons.mpr ⟨d_TS_add_0, List.forall_mem_cons.mpr ⟨d_TS_add_1, List.forall_mem_cons.mpr ⟨d_TS_add_4, List.forall_mem_cons.mpr ⟨d_TS_add_6, List.forall_mem_cons.mpr ⟨d_TS_add_8, List.forall_mem_cons.mpr ⟨d_TS_add_9, List.forall_mem_cons.mpr ⟨d_TS_add_12, List.forall_mem_cons.mpr ⟨d_TS_add_13, List.forall_mem_cons.mpr ⟨d_TS_add_14, List.forall_mem_cons.mpr ⟨d_TS_add_15, List.forall_mem_cons.mpr ⟨d_TS_add_16, List.forall_mem_cons.mpr ⟨d_TS_add_17, List.forall_mem_cons.mpr ⟨d_TS_add_20, List.forall_mem_cons.mpr ⟨d_TS_add_23, List.forall_mem_cons.mpr ⟨d_TS_add_24, List.forall_mem_cons.mpr ⟨d_TS_add_27, List.forall_mem_cons.mpr ⟨d_TS_add_29, List.forall_mem_cons.mpr ⟨d_TS_add_30, List.forall_mem_cons.mpr ⟨d_TS_add_31, List.forall_mem_cons.mpr ⟨d_TS_add_32, List.forall_mem_cons.mpr ⟨d_TS_add_35, List.forall_mem_cons.mpr ⟨d_TS_add_37, List.forall_mem_cons.mpr ⟨d_TS_add_38, List.forall_mem_cons.mpr ⟨d_TS_add_39, List.forall_mem_cons.mpr ⟨d_TS_add_40, List.forall_mem_cons.mpr ⟨d_TS_add_43, List.forall_mem_cons.mpr ⟨d_TS_add_45, List.forall_mem_cons.mpr ⟨d_TS_add_46, List.forall_mem_cons.mpr ⟨d_TS_add_47, List.forall_mem_cons.mpr ⟨d_TS_add_48, List.forall_mem_cons.mpr ⟨d_TS_add_51, List.forall_mem_cons.mpr ⟨d_TS_add_53, List.forall_mem_cons.mpr ⟨d_TS_add_55, List.forall_mem_cons.mpr ⟨d_TS_add_56, List.forall_mem_cons.mpr ⟨d_TS_add_58, List.forall_mem_cons.mpr ⟨d_TS_add_60, List.forall_mem_cons.mpr ⟨d_TS_add_62, List.forall_mem_cons.mpr ⟨d_TS_add_65, List.forall_mem_cons.mpr ⟨d_TS_add_66, List.forall_mem_cons.mpr ⟨d_TS_add_69, List.forall_mem_cons.mpr ⟨d_TS_add_70, List.forall_mem_cons.mpr ⟨d_TS_add_73, List.forall_mem_cons.mpr ⟨d_TS_add_75, List.forall_mem_cons.mpr ⟨d_TS_add_76, List.forall_mem_cons.mpr ⟨d_TS_add_77, List.forall_mem_cons.mpr ⟨d_TS_add_78, List.forall_mem_cons.mpr ⟨d_TS_add_79, List.forall_mem_cons.mpr ⟨d_TS_add_81, List.forall_mem_cons.mpr ⟨d_TS_add_84, List.forall_mem_cons.mpr ⟨d_TS_add_85, List.forall_mem_cons.mpr ⟨d_TS_add_88, List.forall_mem_cons.mpr ⟨d_TS_add_90, List.forall_mem_cons.mpr ⟨d_TS_add_91, List.forall_mem_cons.mpr ⟨d_TS_add_94, List.forall_mem_cons.mpr ⟨d_TS_add_96, List.forall_mem_cons.mpr ⟨d_TS_add_97, List.forall_mem_cons.mpr ⟨d_TS_add_98, List.forall_mem_cons.mpr ⟨d_TS_add_99, List.forall_mem_cons.mpr ⟨d_TS_add_100, List.forall_mem_cons.mpr ⟨d_TS_add_103, List.forall_mem_cons.mpr ⟨d_TS_add_106, List.forall_mem_cons.mpr ⟨d_TS_add_107, List.forall_mem_cons.mpr ⟨d_TS_add_110, List.forall_mem_cons.mpr ⟨d_TS_add_112, List.forall_mem_cons.mpr ⟨d_TS_add_114, List.forall_mem_cons.mpr ⟨d_TS_add_115, List.forall_mem_cons.mpr ⟨d_TS_add_116, List.forall_mem_cons.mpr ⟨d_TS_add_117, List.forall_mem_cons.mpr ⟨d_TS_add_120, List.forall_mem_cons.mpr ⟨d_TS_add_121, List.forall_mem_cons.mpr ⟨d_TS_add_122, List.forall_mem_cons.mpr ⟨d_TS_add_125, List.forall_mem_cons.mpr ⟨d_TS_add_127, fun _ h => absurd h List.not_mem_nil⟩⟩⟩⟩⟩⟩⟩⟩⟩⟩⟩⟩⟩⟩⟩⟩⟩⟩⟩⟩⟩⟩⟩⟩⟩⟩⟩⟩⟩⟩⟩⟩⟩⟩⟩⟩⟩⟩⟩⟩⟩⟩⟩⟩⟩⟩⟩⟩⟩⟩⟩⟩⟩⟩⟩⟩⟩⟩⟩⟩⟩⟩⟩⟩⟩⟩⟩⟩⟩⟩⟩⟩⟩
theorem i_TS_add_ok : ∀ pc i n, i_TS_add pc = some (i, n) → decode b_TS_add pc = .ok (i, n) := fun pc i n h => d_TS_add (pc, i, n) (am_find_mem h)
theorem i_TS_add_0 : i_TS_add 0 = some (.aload_n 0, 1) := rfl
theorem i_TS_add_1 : i_TS_add 1 = some (.getfield 27, 3) := rfl
theorem i_TS_add_4 : i_TS_add 4 = some (.istore 5, 2) := rfl
theorem i_TS_add_6 : i_TS_add 6 = some (.iload 5, 2) := rfl
theorem i_TS_add_8 : i_TS_add 8 = some (.iconst 5, 1) := rfl
theorem i_TS_add_9 : i_TS_add 9 = some (.if_icmp .lt 5, 3) := rfl
theorem i_TS_add_12 : i_TS_add 12 = some (.iconst (-1), 1) := rfl
theorem i_TS_add_13 : i_TS_add 13 = some (.ireturn, 1) := rfl
theorem i_TS_add_14 : i_TS_add 14 = some (.aload_n 0, 1) := rfl
theorem i_TS_add_15 : i_TS_add 15 = some (.aload_n 0, 1) := rfl
theorem i_TS_add_16 : i_TS_add 16 = some (.iload_n 1, 1) := rfl
theorem i_TS_add_17 : i_TS_add 17 = some (.invokevirtual 38, 3) := rfl
theorem i_TS_add_20 : i_TS_add 20 = some (.putfield 31, 3) := rfl
theorem i_TS_add_23 : i_TS_add 23 = some (.aload_n 0, 1) := rfl
theorem i_TS_add_24 : i_TS_add 24 = some (.getfield 9, 3) := rfl
theorem i_TS_add_27 : i_TS_add 27 = some (.iload 5, 2) := rfl
theorem i_TS_add_29 : i_TS_add 29 = some (.iload_n 1, 1) := rfl
theorem i_TS_add_30 : i_TS_add 30 = some (.iastore, 1) := rfl
theorem i_TS_add_31 : i_TS_add 31 = some (.aload_n 0, 1) := rfl
theorem i_TS_add_32 : i_TS_add 32 = some (.getfield 15, 3) := rfl
theorem i_TS_add_35 : i_TS_add 35 = some (.iload 5, 2) := rfl
theorem i_TS_add_37 : i_TS_add 37 = some (.iload_n 2, 1) := rfl
theorem i_TS_add_38 : i_TS_add 38 = some (.iastore, 1) := rfl
theorem i_TS_add_39 : i_TS_add 39 = some (.aload_n 0, 1) := rfl
theorem i_TS_add_40 : i_TS_add 40 = some (.getfield 18, 3) := rfl
theorem i_TS_add_43 : i_TS_add 43 = some (.iload 5, 2) := rfl
theorem i_TS_add_45 : i_TS_add 45 = some (.iload_n 3, 1) := rfl
theorem i_TS_add_46 : i_TS_add 46 = some (.iastore, 1) := rfl
theorem i_TS_add_47 : i_TS_add 47 = some (.aload_n 0, 1) := rfl
theorem i_TS_add_48 : i_TS_add 48 = some (.getfield 21, 3) := rfl
theorem i_TS_add_51 : i_TS_add 51 = some (.iload 5, 2) := rfl
theorem i_TS_add_53 : i_TS_add 53 = some (.iload 4, 2) := rfl
theorem i_TS_add_55 : i_TS_add 55 = some (.iastore, 1) := rfl
theorem i_TS_add_56 : i_TS_add 56 = some (.iload 5, 2) := rfl
theorem i_TS_add_58 : i_TS_add 58 = some (.istore 6, 2) := rfl
theorem i_TS_add_60 : i_TS_add 60 = some (.iload 6, 2) := rfl
theorem i_TS_add_62 : i_TS_add 62 = some (.ifCond .le 44, 3) := rfl
theorem i_TS_add_65 : i_TS_add 65 = some (.aload_n 0, 1) := rfl
theorem i_TS_add_66 : i_TS_add 66 = some (.getfield 21, 3) := rfl
theorem i_TS_add_69 : i_TS_add 69 = some (.aload_n 0, 1) := rfl
theorem i_TS_add_70 : i_TS_add 70 = some (.getfield 24, 3) := rfl
theorem i_TS_add_73 : i_TS_add 73 = some (.iload 6, 2) := rfl
theorem i_TS_add_75 : i_TS_add 75 = some (.iconst 1, 1) := rfl
theorem i_TS_add_76 : i_TS_add 76 = some (.isub, 1) := rfl
theorem i_TS_add_77 : i_TS_add 77 = some (.iaload, 1) := rfl
theorem i_TS_add_78 : i_TS_add 78 = some (.iaload, 1) := rfl
theorem i_TS_add_79 : i_TS_add 79 = some (.iload 4, 2) := rfl
theorem i_TS_add_81 : i_TS_add 81 = some (.if_icmp .le 25, 3) := rfl
theorem i_TS_add_84 : i_TS_add 84 = some (.aload_n 0, 1) := rfl
theorem i_TS_add_85 : i_TS_add 85 = some (.getfield 24, 3) := rfl
theorem i_TS_add_88 : i_TS_add 88 = some (.iload 6, 2) := rfl
theorem i_TS_add_90 : i_TS_add 90 = some (.aload_n 0, 1) := rfl
theorem i_TS_add_91 : i_TS_add 91 = some (.getfield 24, 3) := rfl
theorem i_TS_add_94 : i_TS_add 94 = some (.iload 6, 2) := rfl
theorem i_TS_add_96 : i_TS_add 96 = some (.iconst 1, 1) := rfl
theorem i_TS_add_97 : i_TS_add 97 = some (.isub, 1) := rfl
theorem i_TS_add_98 : i_TS_add 98 = some (.iaload, 1) := rfl
theorem i_TS_add_99 : i_TS_add 99 = some (.iastore, 1) := rfl
theorem i_TS_add_100 : i_TS_add 100 = some (.iinc 6 (-1), 3) := rfl
theorem i_TS_add_103 : i_TS_add 103 = some (.goto (-43), 3) := rfl
theorem i_TS_add_106 : i_TS_add 106 = some (.aload_n 0, 1) := rfl
theorem i_TS_add_107 : i_TS_add 107 = some (.getfield 24, 3) := rfl
theorem i_TS_add_110 : i_TS_add 110 = some (.iload 6, 2) := rfl
theorem i_TS_add_112 : i_TS_add 112 = some (.iload 5, 2) := rfl
theorem i_TS_add_114 : i_TS_add 114 = some (.iastore, 1) := rfl
theorem i_TS_add_115 : i_TS_add 115 = some (.aload_n 0, 1) := rfl
theorem i_TS_add_116 : i_TS_add 116 = some (.dup, 1) := rfl
theorem i_TS_add_117 : i_TS_add 117 = some (.getfield 27, 3) := rfl
theorem i_TS_add_120 : i_TS_add 120 = some (.iconst 1, 1) := rfl
theorem i_TS_add_121 : i_TS_add 121 = some (.iadd, 1) := rfl
theorem i_TS_add_122 : i_TS_add 122 = some (.putfield 27, 3) := rfl
theorem i_TS_add_125 : i_TS_add 125 = some (.iload 5, 2) := rfl
theorem i_TS_add_127 : i_TS_add 127 = some (.ireturn, 1) := rfl
abbrev w_TS_add : List Jvm.Cond := Jvm.Cond.code y_TS_add b_TS_add 7 (some .int) :: vw_W
theorem c_TS_add : Jvm.Cond.code y_TS_add b_TS_add 7 (some .int) ∈ vw_W := vw_t 497 (by decide +kernel) (by decide +kernel)
abbrev r_TS_add : Room := { frames := 2, cells := 0, slots := 0, locals := 46 }
abbrev b_LW_rule : ByteArray := method_4_code
abbrev y_LW_rule : MethodName := ⟨"ServerDeskLaw", "rule", "(LServerDesk;III[J)I"⟩
def q_LW_rule : List (Nat × Instr × Nat) := [(0, .aload 4, 2), (2, .iconst 0, 1), (3, .aload_n 0, 1), (4, .iload_n 1, 1), (5, .iload_n 2, 1), (6, .iload_n 3, 1), (7, .invokevirtual 19, 3), (10, .ifCond .eq 7, 3), (13, .lconst 1, 1), (14, .goto 4, 3), (17, .lconst 0, 1), (18, .lastore, 1), (19, .goto 11, 3), (22, .astore 5, 2), (24, .iconst 1, 1), (25, .ireturn, 1), (26, .astore 5, 2), (28, .iconst 2, 1), (29, .ireturn, 1), (30, .iconst 0, 1), (31, .ireturn, 1)]
def i_LW_rule : Nat → Option (Instr × Nat) := am_find q_LW_rule
theorem d_LW_rule_0 : decode b_LW_rule 0 = .ok (.aload 4, 2) := by decide +kernel
theorem d_LW_rule_2 : decode b_LW_rule 2 = .ok (.iconst 0, 1) := by decide +kernel
theorem d_LW_rule_3 : decode b_LW_rule 3 = .ok (.aload_n 0, 1) := by decide +kernel
theorem d_LW_rule_4 : decode b_LW_rule 4 = .ok (.iload_n 1, 1) := by decide +kernel
theorem d_LW_rule_5 : decode b_LW_rule 5 = .ok (.iload_n 2, 1) := by decide +kernel
theorem d_LW_rule_6 : decode b_LW_rule 6 = .ok (.iload_n 3, 1) := by decide +kernel
theorem d_LW_rule_7 : decode b_LW_rule 7 = .ok (.invokevirtual 19, 3) := by decide +kernel
theorem d_LW_rule_10 : decode b_LW_rule 10 = .ok (.ifCond .eq 7, 3) := by decide +kernel
theorem d_LW_rule_13 : decode b_LW_rule 13 = .ok (.lconst 1, 1) := by decide +kernel
theorem d_LW_rule_14 : decode b_LW_rule 14 = .ok (.goto 4, 3) := by decide +kernel
theorem d_LW_rule_17 : decode b_LW_rule 17 = .ok (.lconst 0, 1) := by decide +kernel
theorem d_LW_rule_18 : decode b_LW_rule 18 = .ok (.lastore, 1) := by decide +kernel
theorem d_LW_rule_19 : decode b_LW_rule 19 = .ok (.goto 11, 3) := by decide +kernel
theorem d_LW_rule_22 : decode b_LW_rule 22 = .ok (.astore 5, 2) := by decide +kernel
theorem d_LW_rule_24 : decode b_LW_rule 24 = .ok (.iconst 1, 1) := by decide +kernel
theorem d_LW_rule_25 : decode b_LW_rule 25 = .ok (.ireturn, 1) := by decide +kernel
theorem d_LW_rule_26 : decode b_LW_rule 26 = .ok (.astore 5, 2) := by decide +kernel
theorem d_LW_rule_28 : decode b_LW_rule 28 = .ok (.iconst 2, 1) := by decide +kernel
theorem d_LW_rule_29 : decode b_LW_rule 29 = .ok (.ireturn, 1) := by decide +kernel
theorem d_LW_rule_30 : decode b_LW_rule 30 = .ok (.iconst 0, 1) := by decide +kernel
theorem d_LW_rule_31 : decode b_LW_rule 31 = .ok (.ireturn, 1) := by decide +kernel
theorem d_LW_rule : ∀ z ∈ q_LW_rule, decode b_LW_rule z.1 = .ok z.2 := List.forall_mem_cons.mpr ⟨d_LW_rule_0, List.forall_mem_cons.mpr ⟨d_LW_rule_2, List.forall_mem_cons.mpr ⟨d_LW_rule_3, List.forall_mem_cons.mpr ⟨d_LW_rule_4, List.forall_mem_cons.mpr ⟨d_LW_rule_5, List.forall_mem_cons.mpr ⟨d_LW_rule_6, List.forall_mem_cons.mpr ⟨d_LW_rule_7, List.forall_mem_cons.mpr ⟨d_LW_rule_10, List.forall_mem_cons.mpr ⟨d_LW_rule_13, List.forall_mem_cons.mpr ⟨d_LW_rule_14, List.forall_mem_cons.mpr ⟨d_LW_rule_17, List.forall_mem_cons.mpr ⟨d_LW_rule_18, List.forall_mem_cons.mpr ⟨d_LW_rule_19, List.forall_mem_cons.mpr ⟨d_LW_rule_22, List.forall_mem_cons.mpr ⟨d_LW_rule_24, List.forall_mem_cons.mpr ⟨d_LW_rule_25, List.forall_mem_cons.mpr ⟨d_LW_rule_26, List.forall_mem_cons.mpr ⟨d_LW_rule_28, List.forall_mem_cons.mpr ⟨d_LW_rule_29, List.forall_mem_cons.mpr ⟨d_LW_rule_30, List.forall_mem_cons.mpr ⟨d_LW_rule_31, fun _ h => absurd h List.not_mem_nil⟩⟩⟩⟩⟩⟩⟩⟩⟩⟩⟩⟩⟩⟩⟩⟩⟩⟩⟩⟩⟩
theorem i_LW_rule_ok : ∀ pc i n, i_LW_rule pc = some (i, n) → decode b_LW_rule pc = .ok (i, n) := fun pc i n h => d_LW_rule (pc, i, n) (am_find_mem h)
theorem i_LW_rule_0 : i_LW_rule 0 = some (.aload 4, 2) := rfl
theorem i_LW_rule_2 : i_LW_rule 2 = some (.iconst 0, 1) := rfl
theorem i_LW_rule_3 : i_LW_rule 3 = some (.aload_n 0, 1) := rfl
theorem i_LW_rule_4 : i_LW_rule 4 = some (.iload_n 1, 1) := rfl
theorem i_LW_rule_5 : i_LW_rule 5 = some (.iload_n 2, 1) := rfl
theorem i_LW_rule_6 : i_LW_rule 6 = some (.iload_n 3, 1) := rfl
theorem i_LW_rule_7 : i_LW_rule 7 = some (.invokevirtual 19, 3) := rfl
theorem i_LW_rule_10 : i_LW_rule 10 = some (.ifCond .eq 7, 3) := rfl
theorem i_LW_rule_13 : i_LW_rule 13 = some (.lconst 1, 1) := rfl
theorem i_LW_rule_14 : i_LW_rule 14 = some (.goto 4, 3) := rfl
theorem i_LW_rule_17 : i_LW_rule 17 = some (.lconst 0, 1) := rfl
theorem i_LW_rule_18 : i_LW_rule 18 = some (.lastore, 1) := rfl
theorem i_LW_rule_19 : i_LW_rule 19 = some (.goto 11, 3) := rfl
theorem i_LW_rule_22 : i_LW_rule 22 = some (.astore 5, 2) := rfl
theorem i_LW_rule_24 : i_LW_rule 24 = some (.iconst 1, 1) := rfl
theorem i_LW_rule_25 : i_LW_rule 25 = some (.ireturn, 1) := rfl
theorem i_LW_rule_26 : i_LW_rule 26 = some (.astore 5, 2) := rfl
theorem i_LW_rule_28 : i_LW_rule 28 = some (.iconst 2, 1) := rfl
theorem i_LW_rule_29 : i_LW_rule 29 = some (.ireturn, 1) := rfl
theorem i_LW_rule_30 : i_LW_rule 30 = some (.iconst 0, 1) := rfl
theorem i_LW_rule_31 : i_LW_rule 31 = some (.ireturn, 1) := rfl
abbrev b_SD_rule : ByteArray := prog_1_method_3_code
abbrev y_SD_rule : MethodName := ⟨"ServerDesk", "rule", "(III)Z"⟩
def q_SD_rule : List (Nat × Instr × Nat) := [(0, .iload_n 1, 1), (1, .invokestatic 108, 3), (4, .ifCond .eq 12, 3), (7, .iload_n 1, 1), (8, .iload_n 2, 1), (9, .iload_n 3, 1), (10, .invokestatic 112, 3), (13, .ifCond .ne 13, 3), (16, .new 80, 3), (19, .dup, 1), (20, .ldc 115, 2), (22, .invokespecial 84, 3), (25, .athrow, 1), (26, .aload_n 0, 1), (27, .getfield 68, 3), (30, .ifCond .eq 13, 3), (33, .new 90, 3), (36, .dup, 1), (37, .ldc 117, 2), (39, .invokespecial 94, 3), (42, .athrow, 1), (43, .aload_n 0, 1), (44, .getfield 19, 3), (47, .iload_n 1, 1), (48, .iload_n 2, 1), (49, .iload_n 3, 1), (50, .invokevirtual 119, 3), (53, .aload_n 0, 1), (54, .getfield 10, 3), (57, .aload_n 0, 1), (58, .getfield 19, 3), (61, .iload_n 1, 1), (62, .invokevirtual 123, 3), (65, .istore 4, 2), (67, .iload 4, 2), (69, .ifCond .eq 11, 3), (72, .aload_n 0, 1), (73, .getfield 19, 3), (76, .iload_n 1, 1), (77, .putfield 127, 3), (80, .iload 4, 2), (82, .ireturn, 1)]
def i_SD_rule : Nat → Option (Instr × Nat) := am_find q_SD_rule
theorem d_SD_rule_0 : decode b_SD_rule 0 = .ok (.iload_n 1, 1) := by decide +kernel
theorem d_SD_rule_1 : decode b_SD_rule 1 = .ok (.invokestatic 108, 3) := by decide +kernel
theorem d_SD_rule_4 : decode b_SD_rule 4 = .ok (.ifCond .eq 12, 3) := by decide +kernel
theorem d_SD_rule_7 : decode b_SD_rule 7 = .ok (.iload_n 1, 1) := by decide +kernel
theorem d_SD_rule_8 : decode b_SD_rule 8 = .ok (.iload_n 2, 1) := by decide +kernel
theorem d_SD_rule_9 : decode b_SD_rule 9 = .ok (.iload_n 3, 1) := by decide +kernel
theorem d_SD_rule_10 : decode b_SD_rule 10 = .ok (.invokestatic 112, 3) := by decide +kernel
theorem d_SD_rule_13 : decode b_SD_rule 13 = .ok (.ifCond .ne 13, 3) := by decide +kernel
theorem d_SD_rule_16 : decode b_SD_rule 16 = .ok (.new 80, 3) := by decide +kernel
theorem d_SD_rule_19 : decode b_SD_rule 19 = .ok (.dup, 1) := by decide +kernel
theorem d_SD_rule_20 : decode b_SD_rule 20 = .ok (.ldc 115, 2) := by decide +kernel
theorem d_SD_rule_22 : decode b_SD_rule 22 = .ok (.invokespecial 84, 3) := by decide +kernel
theorem d_SD_rule_25 : decode b_SD_rule 25 = .ok (.athrow, 1) := by decide +kernel
theorem d_SD_rule_26 : decode b_SD_rule 26 = .ok (.aload_n 0, 1) := by decide +kernel
theorem d_SD_rule_27 : decode b_SD_rule 27 = .ok (.getfield 68, 3) := by decide +kernel
theorem d_SD_rule_30 : decode b_SD_rule 30 = .ok (.ifCond .eq 13, 3) := by decide +kernel
theorem d_SD_rule_33 : decode b_SD_rule 33 = .ok (.new 90, 3) := by decide +kernel
theorem d_SD_rule_36 : decode b_SD_rule 36 = .ok (.dup, 1) := by decide +kernel
theorem d_SD_rule_37 : decode b_SD_rule 37 = .ok (.ldc 117, 2) := by decide +kernel
theorem d_SD_rule_39 : decode b_SD_rule 39 = .ok (.invokespecial 94, 3) := by decide +kernel
theorem d_SD_rule_42 : decode b_SD_rule 42 = .ok (.athrow, 1) := by decide +kernel
theorem d_SD_rule_43 : decode b_SD_rule 43 = .ok (.aload_n 0, 1) := by decide +kernel
theorem d_SD_rule_44 : decode b_SD_rule 44 = .ok (.getfield 19, 3) := by decide +kernel
theorem d_SD_rule_47 : decode b_SD_rule 47 = .ok (.iload_n 1, 1) := by decide +kernel
theorem d_SD_rule_48 : decode b_SD_rule 48 = .ok (.iload_n 2, 1) := by decide +kernel
theorem d_SD_rule_49 : decode b_SD_rule 49 = .ok (.iload_n 3, 1) := by decide +kernel
theorem d_SD_rule_50 : decode b_SD_rule 50 = .ok (.invokevirtual 119, 3) := by decide +kernel
theorem d_SD_rule_53 : decode b_SD_rule 53 = .ok (.aload_n 0, 1) := by decide +kernel
theorem d_SD_rule_54 : decode b_SD_rule 54 = .ok (.getfield 10, 3) := by decide +kernel
theorem d_SD_rule_57 : decode b_SD_rule 57 = .ok (.aload_n 0, 1) := by decide +kernel
theorem d_SD_rule_58 : decode b_SD_rule 58 = .ok (.getfield 19, 3) := by decide +kernel
theorem d_SD_rule_61 : decode b_SD_rule 61 = .ok (.iload_n 1, 1) := by decide +kernel
theorem d_SD_rule_62 : decode b_SD_rule 62 = .ok (.invokevirtual 123, 3) := by decide +kernel
theorem d_SD_rule_65 : decode b_SD_rule 65 = .ok (.istore 4, 2) := by decide +kernel
theorem d_SD_rule_67 : decode b_SD_rule 67 = .ok (.iload 4, 2) := by decide +kernel
theorem d_SD_rule_69 : decode b_SD_rule 69 = .ok (.ifCond .eq 11, 3) := by decide +kernel
theorem d_SD_rule_72 : decode b_SD_rule 72 = .ok (.aload_n 0, 1) := by decide +kernel
theorem d_SD_rule_73 : decode b_SD_rule 73 = .ok (.getfield 19, 3) := by decide +kernel
theorem d_SD_rule_76 : decode b_SD_rule 76 = .ok (.iload_n 1, 1) := by decide +kernel
theorem d_SD_rule_77 : decode b_SD_rule 77 = .ok (.putfield 127, 3) := by decide +kernel
theorem d_SD_rule_80 : decode b_SD_rule 80 = .ok (.iload 4, 2) := by decide +kernel
theorem d_SD_rule_82 : decode b_SD_rule 82 = .ok (.ireturn, 1) := by decide +kernel
theorem d_SD_rule : ∀ z ∈ q_SD_rule, decode b_SD_rule z.1 = .ok z.2 := List.forall_mem_cons.mpr ⟨d_SD_rule_0, List.forall_mem_cons.mpr ⟨d_SD_rule_1, List.forall_mem_cons.mpr ⟨d_SD_rule_4, List.forall_mem_cons.mpr ⟨d_SD_rule_7, List.forall_mem_cons.mpr ⟨d_SD_rule_8, List.forall_mem_cons.mpr ⟨d_SD_rule_9, List.forall_mem_cons.mpr ⟨d_SD_rule_10, List.forall_mem_cons.mpr ⟨d_SD_rule_13, List.forall_mem_cons.mpr ⟨d_SD_rule_16, List.forall_mem_cons.mpr ⟨d_SD_rule_19, List.forall_mem_cons.mpr ⟨d_SD_rule_20, List.forall_mem_cons.mpr ⟨d_SD_rule_22, List.forall_mem_cons.mpr ⟨d_SD_rule_25, List.forall_mem_cons.mpr ⟨d_SD_rule_26, List.forall_mem_cons.mpr ⟨d_SD_rule_27, List.forall_mem_cons.mpr ⟨d_SD_rule_30, List.forall_mem_cons.mpr ⟨d_SD_rule_33, List.forall_mem_cons.mpr ⟨d_SD_rule_36, List.forall_mem_cons.mpr ⟨d_SD_rule_37, List.forall_mem_cons.mpr ⟨d_SD_rule_39, List.forall_mem_cons.mpr ⟨d_SD_rule_42, List.forall_mem_cons.mpr ⟨d_SD_rule_43, List.forall_mem_cons.mpr ⟨d_SD_rule_44, List.forall_mem_cons.mpr ⟨d_SD_rule_47, List.forall_mem_cons.mpr ⟨d_SD_rule_48, List.forall_mem_cons.mpr ⟨d_SD_rule_49, List.forall_mem_cons.mpr ⟨d_SD_rule_50, List.forall_mem_cons.mpr ⟨d_SD_rule_53, List.forall_mem_cons.mpr ⟨d_SD_rule_54, List.forall_mem_cons.mpr ⟨d_SD_rule_57, List.forall_mem_cons.mpr ⟨d_SD_rule_58, List.forall_mem_cons.mpr ⟨d_SD_rule_61, List.forall_mem_cons.mpr ⟨d_SD_rule_62, List.forall_mem_cons.mpr ⟨d_SD_rule_65, List.forall_mem_cons.mpr ⟨d_SD_rule_67, List.forall_mem_cons.mpr ⟨d_SD_rule_69, List.forall_mem_cons.mpr ⟨d_SD_rule_72, List.forall_mem_cons.mpr ⟨d_SD_rule_73, List.forall_mem_cons.mpr ⟨d_SD_rule_76, List.forall_mem_cons.mpr ⟨d_SD_rule_77, List.forall_mem_cons.mpr ⟨d_SD_rule_80, List.forall_mem_cons.mpr ⟨d_SD_rule_82, fun _ h => absurd h List.not_mem_nil⟩⟩⟩⟩⟩⟩⟩⟩⟩⟩⟩⟩⟩⟩⟩⟩⟩⟩⟩⟩⟩⟩⟩⟩⟩⟩⟩⟩⟩⟩⟩⟩⟩⟩⟩⟩⟩⟩⟩⟩⟩⟩
theorem i_SD_rule_ok : ∀ pc i n, i_SD_rule pc = some (i, n) → decode b_SD_rule pc = .ok (i, n) := fun pc i n h => d_SD_rule (pc, i, n) (am_find_mem h)
theorem i_SD_rule_0 : i_SD_rule 0 = some (.iload_n 1, 1) := rfl
theorem i_SD_rule_1 : i_SD_rule 1 = some (.invokestatic 108, 3) := rfl
theorem i_SD_rule_4 : i_SD_rule 4 = some (.ifCond .eq 12, 3) := rfl
theorem i_SD_rule_7 : i_SD_rule 7 = some (.iload_n 1, 1) := rfl
theorem i_SD_rule_8 : i_SD_rule 8 = some (.iload_n 2, 1) := rfl
theorem i_SD_rule_9 : i_SD_rule 9 = some (.iload_n 3, 1) := rfl
theorem i_SD_rule_10 : i_SD_rule 10 = some (.invokestatic 112, 3) := rfl
theorem i_SD_rule_13 : i_SD_rule 13 = some (.ifCond .ne 13, 3) := rfl
theorem i_SD_rule_16 : i_SD_rule 16 = some (.new 80, 3) := rfl
theorem i_SD_rule_19 : i_SD_rule 19 = some (.dup, 1) := rfl
theorem i_SD_rule_20 : i_SD_rule 20 = some (.ldc 115, 2) := rfl
theorem i_SD_rule_22 : i_SD_rule 22 = some (.invokespecial 84, 3) := rfl
theorem i_SD_rule_25 : i_SD_rule 25 = some (.athrow, 1) := rfl
theorem i_SD_rule_26 : i_SD_rule 26 = some (.aload_n 0, 1) := rfl
theorem i_SD_rule_27 : i_SD_rule 27 = some (.getfield 68, 3) := rfl
theorem i_SD_rule_30 : i_SD_rule 30 = some (.ifCond .eq 13, 3) := rfl
theorem i_SD_rule_33 : i_SD_rule 33 = some (.new 90, 3) := rfl
theorem i_SD_rule_36 : i_SD_rule 36 = some (.dup, 1) := rfl
theorem i_SD_rule_37 : i_SD_rule 37 = some (.ldc 117, 2) := rfl
theorem i_SD_rule_39 : i_SD_rule 39 = some (.invokespecial 94, 3) := rfl
theorem i_SD_rule_42 : i_SD_rule 42 = some (.athrow, 1) := rfl
theorem i_SD_rule_43 : i_SD_rule 43 = some (.aload_n 0, 1) := rfl
theorem i_SD_rule_44 : i_SD_rule 44 = some (.getfield 19, 3) := rfl
theorem i_SD_rule_47 : i_SD_rule 47 = some (.iload_n 1, 1) := rfl
theorem i_SD_rule_48 : i_SD_rule 48 = some (.iload_n 2, 1) := rfl
theorem i_SD_rule_49 : i_SD_rule 49 = some (.iload_n 3, 1) := rfl
theorem i_SD_rule_50 : i_SD_rule 50 = some (.invokevirtual 119, 3) := rfl
theorem i_SD_rule_53 : i_SD_rule 53 = some (.aload_n 0, 1) := rfl
theorem i_SD_rule_54 : i_SD_rule 54 = some (.getfield 10, 3) := rfl
theorem i_SD_rule_57 : i_SD_rule 57 = some (.aload_n 0, 1) := rfl
theorem i_SD_rule_58 : i_SD_rule 58 = some (.getfield 19, 3) := rfl
theorem i_SD_rule_61 : i_SD_rule 61 = some (.iload_n 1, 1) := rfl
theorem i_SD_rule_62 : i_SD_rule 62 = some (.invokevirtual 123, 3) := rfl
theorem i_SD_rule_65 : i_SD_rule 65 = some (.istore 4, 2) := rfl
theorem i_SD_rule_67 : i_SD_rule 67 = some (.iload 4, 2) := rfl
theorem i_SD_rule_69 : i_SD_rule 69 = some (.ifCond .eq 11, 3) := rfl
theorem i_SD_rule_72 : i_SD_rule 72 = some (.aload_n 0, 1) := rfl
theorem i_SD_rule_73 : i_SD_rule 73 = some (.getfield 19, 3) := rfl
theorem i_SD_rule_76 : i_SD_rule 76 = some (.iload_n 1, 1) := rfl
theorem i_SD_rule_77 : i_SD_rule 77 = some (.putfield 127, 3) := rfl
theorem i_SD_rule_80 : i_SD_rule 80 = some (.iload 4, 2) := rfl
theorem i_SD_rule_82 : i_SD_rule 82 = some (.ireturn, 1) := rfl
abbrev w_SD_rule : List Jvm.Cond := Jvm.Cond.code y_SD_rule b_SD_rule 5 (some .boolean) :: vw_W
theorem c_SD_rule : Jvm.Cond.code y_SD_rule b_SD_rule 5 (some .boolean) ∈ vw_W := vw_t 505 (by decide +kernel) (by decide +kernel)
abbrev r_SD_rule : Room := { frames := 6, cells := 0, slots := 0, locals := 100 }
abbrev b_SD_isKind : ByteArray := prog_1_method_17_code
abbrev y_SD_isKind : MethodName := ⟨"ServerDesk", "isKind", "(I)Z"⟩
def q_SD_isKind : List (Nat × Instr × Nat) := [(0, .iload_n 0, 1), (1, .iconst 0, 1), (2, .iconst 3, 1), (3, .invokestatic 76, 3), (6, .ireturn, 1)]
def i_SD_isKind : Nat → Option (Instr × Nat) := am_find q_SD_isKind
theorem d_SD_isKind_0 : decode b_SD_isKind 0 = .ok (.iload_n 0, 1) := by decide +kernel
theorem d_SD_isKind_1 : decode b_SD_isKind 1 = .ok (.iconst 0, 1) := by decide +kernel
theorem d_SD_isKind_2 : decode b_SD_isKind 2 = .ok (.iconst 3, 1) := by decide +kernel
theorem d_SD_isKind_3 : decode b_SD_isKind 3 = .ok (.invokestatic 76, 3) := by decide +kernel
theorem d_SD_isKind_6 : decode b_SD_isKind 6 = .ok (.ireturn, 1) := by decide +kernel
theorem d_SD_isKind : ∀ z ∈ q_SD_isKind, decode b_SD_isKind z.1 = .ok z.2 := List.forall_mem_cons.mpr ⟨d_SD_isKind_0, List.forall_mem_cons.mpr ⟨d_SD_isKind_1, List.forall_mem_cons.mpr ⟨d_SD_isKind_2, List.forall_mem_cons.mpr ⟨d_SD_isKind_3, List.forall_mem_cons.mpr ⟨d_SD_isKind_6, fun _ h => absurd h List.not_mem_nil⟩⟩⟩⟩⟩
theorem i_SD_isKind_ok : ∀ pc i n, i_SD_isKind pc = some (i, n) → decode b_SD_isKind pc = .ok (i, n) := fun pc i n h => d_SD_isKind (pc, i, n) (am_find_mem h)
theorem i_SD_isKind_0 : i_SD_isKind 0 = some (.iload_n 0, 1) := rfl
theorem i_SD_isKind_1 : i_SD_isKind 1 = some (.iconst 0, 1) := rfl
theorem i_SD_isKind_2 : i_SD_isKind 2 = some (.iconst 3, 1) := rfl
theorem i_SD_isKind_3 : i_SD_isKind 3 = some (.invokestatic 76, 3) := rfl
theorem i_SD_isKind_6 : i_SD_isKind 6 = some (.ireturn, 1) := rfl
abbrev w_SD_isKind : List Jvm.Cond := Jvm.Cond.code y_SD_isKind b_SD_isKind 1 (some .boolean) :: vw_W
theorem c_SD_isKind : Jvm.Cond.code y_SD_isKind b_SD_isKind 1 (some .boolean) ∈ vw_W := vw_t 508 (by decide +kernel) (by decide +kernel)
abbrev r_SD_isKind : Room := { frames := 1, cells := 0, slots := 0, locals := 22 }
abbrev b_RB_mayHave : ByteArray := prog_9_method_4_code
abbrev y_RB_mayHave : MethodName := ⟨"ServerDesk$RuleBook", "mayHave", "(III)Z"⟩
def q_RB_mayHave : List (Nat × Instr × Nat) := [(0, .iload_n 0, 1), (1, .invokestatic 31, 3), (4, .ifCond .eq 22, 3), (7, .iload_n 2, 1), (8, .iconst 1, 1), (9, .bipush 60, 2), (11, .invokestatic 35, 3), (14, .ifCond .eq 16, 3), (17, .iload_n 1, 1), (18, .iconst 1, 1), (19, .iload_n 2, 1), (20, .invokestatic 35, 3), (23, .ifCond .eq 7, 3), (26, .iconst 1, 1), (27, .goto 4, 3), (30, .iconst 0, 1), (31, .ireturn, 1)]
def i_RB_mayHave : Nat → Option (Instr × Nat) := am_find q_RB_mayHave
theorem d_RB_mayHave_0 : decode b_RB_mayHave 0 = .ok (.iload_n 0, 1) := by decide +kernel
theorem d_RB_mayHave_1 : decode b_RB_mayHave 1 = .ok (.invokestatic 31, 3) := by decide +kernel
theorem d_RB_mayHave_4 : decode b_RB_mayHave 4 = .ok (.ifCond .eq 22, 3) := by decide +kernel
theorem d_RB_mayHave_7 : decode b_RB_mayHave 7 = .ok (.iload_n 2, 1) := by decide +kernel
theorem d_RB_mayHave_8 : decode b_RB_mayHave 8 = .ok (.iconst 1, 1) := by decide +kernel
theorem d_RB_mayHave_9 : decode b_RB_mayHave 9 = .ok (.bipush 60, 2) := by decide +kernel
theorem d_RB_mayHave_11 : decode b_RB_mayHave 11 = .ok (.invokestatic 35, 3) := by decide +kernel
theorem d_RB_mayHave_14 : decode b_RB_mayHave 14 = .ok (.ifCond .eq 16, 3) := by decide +kernel
theorem d_RB_mayHave_17 : decode b_RB_mayHave 17 = .ok (.iload_n 1, 1) := by decide +kernel
theorem d_RB_mayHave_18 : decode b_RB_mayHave 18 = .ok (.iconst 1, 1) := by decide +kernel
theorem d_RB_mayHave_19 : decode b_RB_mayHave 19 = .ok (.iload_n 2, 1) := by decide +kernel
theorem d_RB_mayHave_20 : decode b_RB_mayHave 20 = .ok (.invokestatic 35, 3) := by decide +kernel
theorem d_RB_mayHave_23 : decode b_RB_mayHave 23 = .ok (.ifCond .eq 7, 3) := by decide +kernel
theorem d_RB_mayHave_26 : decode b_RB_mayHave 26 = .ok (.iconst 1, 1) := by decide +kernel
theorem d_RB_mayHave_27 : decode b_RB_mayHave 27 = .ok (.goto 4, 3) := by decide +kernel
theorem d_RB_mayHave_30 : decode b_RB_mayHave 30 = .ok (.iconst 0, 1) := by decide +kernel
theorem d_RB_mayHave_31 : decode b_RB_mayHave 31 = .ok (.ireturn, 1) := by decide +kernel
theorem d_RB_mayHave : ∀ z ∈ q_RB_mayHave, decode b_RB_mayHave z.1 = .ok z.2 := List.forall_mem_cons.mpr ⟨d_RB_mayHave_0, List.forall_mem_cons.mpr ⟨d_RB_mayHave_1, List.forall_mem_cons.mpr ⟨d_RB_mayHave_4, List.forall_mem_cons.mpr ⟨d_RB_mayHave_7, List.forall_mem_cons.mpr ⟨d_RB_mayHave_8, List.forall_mem_cons.mpr ⟨d_RB_mayHave_9, List.forall_mem_cons.mpr ⟨d_RB_mayHave_11, List.forall_mem_cons.mpr ⟨d_RB_mayHave_14, List.forall_mem_cons.mpr ⟨d_RB_mayHave_17, List.forall_mem_cons.mpr ⟨d_RB_mayHave_18, List.forall_mem_cons.mpr ⟨d_RB_mayHave_19, List.forall_mem_cons.mpr ⟨d_RB_mayHave_20, List.forall_mem_cons.mpr ⟨d_RB_mayHave_23, List.forall_mem_cons.mpr ⟨d_RB_mayHave_26, List.forall_mem_cons.mpr ⟨d_RB_mayHave_27, List.forall_mem_cons.mpr ⟨d_RB_mayHave_30, List.forall_mem_cons.mpr ⟨d_RB_mayHave_31, fun _ h => absurd h List.not_mem_nil⟩⟩⟩⟩⟩⟩⟩⟩⟩⟩⟩⟩⟩⟩⟩⟩⟩
theorem i_RB_mayHave_ok : ∀ pc i n, i_RB_mayHave pc = some (i, n) → decode b_RB_mayHave pc = .ok (i, n) := fun pc i n h => d_RB_mayHave (pc, i, n) (am_find_mem h)
theorem i_RB_mayHave_0 : i_RB_mayHave 0 = some (.iload_n 0, 1) := rfl
theorem i_RB_mayHave_1 : i_RB_mayHave 1 = some (.invokestatic 31, 3) := rfl
theorem i_RB_mayHave_4 : i_RB_mayHave 4 = some (.ifCond .eq 22, 3) := rfl
theorem i_RB_mayHave_7 : i_RB_mayHave 7 = some (.iload_n 2, 1) := rfl
theorem i_RB_mayHave_8 : i_RB_mayHave 8 = some (.iconst 1, 1) := rfl
theorem i_RB_mayHave_9 : i_RB_mayHave 9 = some (.bipush 60, 2) := rfl
theorem i_RB_mayHave_11 : i_RB_mayHave 11 = some (.invokestatic 35, 3) := rfl
theorem i_RB_mayHave_14 : i_RB_mayHave 14 = some (.ifCond .eq 16, 3) := rfl
theorem i_RB_mayHave_17 : i_RB_mayHave 17 = some (.iload_n 1, 1) := rfl
theorem i_RB_mayHave_18 : i_RB_mayHave 18 = some (.iconst 1, 1) := rfl
theorem i_RB_mayHave_19 : i_RB_mayHave 19 = some (.iload_n 2, 1) := rfl
theorem i_RB_mayHave_20 : i_RB_mayHave 20 = some (.invokestatic 35, 3) := rfl
theorem i_RB_mayHave_23 : i_RB_mayHave 23 = some (.ifCond .eq 7, 3) := rfl
theorem i_RB_mayHave_26 : i_RB_mayHave 26 = some (.iconst 1, 1) := rfl
theorem i_RB_mayHave_27 : i_RB_mayHave 27 = some (.goto 4, 3) := rfl
theorem i_RB_mayHave_30 : i_RB_mayHave 30 = some (.iconst 0, 1) := rfl
theorem i_RB_mayHave_31 : i_RB_mayHave 31 = some (.ireturn, 1) := rfl
abbrev w_RB_mayHave : List Jvm.Cond := Jvm.Cond.code y_RB_mayHave b_RB_mayHave 3 (some .boolean) :: vw_W
theorem c_RB_mayHave : Jvm.Cond.code y_RB_mayHave b_RB_mayHave 3 (some .boolean) ∈ vw_W := vw_t 511 (by decide +kernel) (by decide +kernel)
abbrev r_RB_mayHave : Room := { frames := 1, cells := 0, slots := 0, locals := 22 }
abbrev b_RB_keep : ByteArray := prog_9_method_5_code
abbrev y_RB_keep : MethodName := ⟨"ServerDesk$RuleBook", "keep", "(III)V"⟩
def q_RB_keep : List (Nat × Instr × Nat) := [(0, .iload_n 1, 1), (1, .invokestatic 31, 3), (4, .ifCond .eq 17, 3), (7, .aload_n 0, 1), (8, .getfield 9, 3), (11, .iload_n 1, 1), (12, .iload_n 2, 1), (13, .iastore, 1), (14, .aload_n 0, 1), (15, .getfield 15, 3), (18, .iload_n 1, 1), (19, .iload_n 3, 1), (20, .iastore, 1), (21, .return_, 1)]
def i_RB_keep : Nat → Option (Instr × Nat) := am_find q_RB_keep
theorem d_RB_keep_0 : decode b_RB_keep 0 = .ok (.iload_n 1, 1) := by decide +kernel
theorem d_RB_keep_1 : decode b_RB_keep 1 = .ok (.invokestatic 31, 3) := by decide +kernel
theorem d_RB_keep_4 : decode b_RB_keep 4 = .ok (.ifCond .eq 17, 3) := by decide +kernel
theorem d_RB_keep_7 : decode b_RB_keep 7 = .ok (.aload_n 0, 1) := by decide +kernel
theorem d_RB_keep_8 : decode b_RB_keep 8 = .ok (.getfield 9, 3) := by decide +kernel
theorem d_RB_keep_11 : decode b_RB_keep 11 = .ok (.iload_n 1, 1) := by decide +kernel
theorem d_RB_keep_12 : decode b_RB_keep 12 = .ok (.iload_n 2, 1) := by decide +kernel
theorem d_RB_keep_13 : decode b_RB_keep 13 = .ok (.iastore, 1) := by decide +kernel
theorem d_RB_keep_14 : decode b_RB_keep 14 = .ok (.aload_n 0, 1) := by decide +kernel
theorem d_RB_keep_15 : decode b_RB_keep 15 = .ok (.getfield 15, 3) := by decide +kernel
theorem d_RB_keep_18 : decode b_RB_keep 18 = .ok (.iload_n 1, 1) := by decide +kernel
theorem d_RB_keep_19 : decode b_RB_keep 19 = .ok (.iload_n 3, 1) := by decide +kernel
theorem d_RB_keep_20 : decode b_RB_keep 20 = .ok (.iastore, 1) := by decide +kernel
theorem d_RB_keep_21 : decode b_RB_keep 21 = .ok (.return_, 1) := by decide +kernel
theorem d_RB_keep : ∀ z ∈ q_RB_keep, decode b_RB_keep z.1 = .ok z.2 := List.forall_mem_cons.mpr ⟨d_RB_keep_0, List.forall_mem_cons.mpr ⟨d_RB_keep_1, List.forall_mem_cons.mpr ⟨d_RB_keep_4, List.forall_mem_cons.mpr ⟨d_RB_keep_7, List.forall_mem_cons.mpr ⟨d_RB_keep_8, List.forall_mem_cons.mpr ⟨d_RB_keep_11, List.forall_mem_cons.mpr ⟨d_RB_keep_12, List.forall_mem_cons.mpr ⟨d_RB_keep_13, List.forall_mem_cons.mpr ⟨d_RB_keep_14, List.forall_mem_cons.mpr ⟨d_RB_keep_15, List.forall_mem_cons.mpr ⟨d_RB_keep_18, List.forall_mem_cons.mpr ⟨d_RB_keep_19, List.forall_mem_cons.mpr ⟨d_RB_keep_20, List.forall_mem_cons.mpr ⟨d_RB_keep_21, fun _ h => absurd h List.not_mem_nil⟩⟩⟩⟩⟩⟩⟩⟩⟩⟩⟩⟩⟩⟩
theorem i_RB_keep_ok : ∀ pc i n, i_RB_keep pc = some (i, n) → decode b_RB_keep pc = .ok (i, n) := fun pc i n h => d_RB_keep (pc, i, n) (am_find_mem h)
theorem i_RB_keep_0 : i_RB_keep 0 = some (.iload_n 1, 1) := rfl
theorem i_RB_keep_1 : i_RB_keep 1 = some (.invokestatic 31, 3) := rfl
theorem i_RB_keep_4 : i_RB_keep 4 = some (.ifCond .eq 17, 3) := rfl
theorem i_RB_keep_7 : i_RB_keep 7 = some (.aload_n 0, 1) := rfl
theorem i_RB_keep_8 : i_RB_keep 8 = some (.getfield 9, 3) := rfl
theorem i_RB_keep_11 : i_RB_keep 11 = some (.iload_n 1, 1) := rfl
theorem i_RB_keep_12 : i_RB_keep 12 = some (.iload_n 2, 1) := rfl
theorem i_RB_keep_13 : i_RB_keep 13 = some (.iastore, 1) := rfl
theorem i_RB_keep_14 : i_RB_keep 14 = some (.aload_n 0, 1) := rfl
theorem i_RB_keep_15 : i_RB_keep 15 = some (.getfield 15, 3) := rfl
theorem i_RB_keep_18 : i_RB_keep 18 = some (.iload_n 1, 1) := rfl
theorem i_RB_keep_19 : i_RB_keep 19 = some (.iload_n 3, 1) := rfl
theorem i_RB_keep_20 : i_RB_keep 20 = some (.iastore, 1) := rfl
theorem i_RB_keep_21 : i_RB_keep 21 = some (.return_, 1) := rfl
abbrev w_RB_keep : List Jvm.Cond := Jvm.Cond.code y_RB_keep b_RB_keep 4 none :: vw_W
theorem c_RB_keep : Jvm.Cond.code y_RB_keep b_RB_keep 4 none ∈ vw_W := vw_t 519 (by decide +kernel) (by decide +kernel)
abbrev r_RB_keep : Room := { frames := 1, cells := 0, slots := 0, locals := 20 }
abbrev b_TS_admit : ByteArray := prog_11_method_5_code
abbrev y_TS_admit : MethodName := ⟨"ServerDesk$TaskSet", nm_TS_5, "(LServerDesk$RuleBook;I)Z"⟩
def q_TS_admit : List (Nat × Instr × Nat) := [(0, .iconst 0, 1), (1, .istore_n 3, 1), (2, .iload_n 3, 1), (3, .aload_n 0, 1), (4, .getfield 27, 3), (7, .if_icmp .ge 21, 3), (10, .aload_n 0, 1), (11, .iload_n 3, 1), (12, .aload_n 1, 1), (13, .iload_n 2, 1), (14, .invokevirtual 42, 3), (17, .ifCond .ne 5, 3), (20, .iconst 0, 1), (21, .ireturn, 1), (22, .iinc 3 1, 3), (25, .goto (-23), 3), (28, .iconst 1, 1), (29, .ireturn, 1)]
def i_TS_admit : Nat → Option (Instr × Nat) := am_find q_TS_admit
theorem d_TS_admit_0 : decode b_TS_admit 0 = .ok (.iconst 0, 1) := by decide +kernel
theorem d_TS_admit_1 : decode b_TS_admit 1 = .ok (.istore_n 3, 1) := by decide +kernel
theorem d_TS_admit_2 : decode b_TS_admit 2 = .ok (.iload_n 3, 1) := by decide +kernel
theorem d_TS_admit_3 : decode b_TS_admit 3 = .ok (.aload_n 0, 1) := by decide +kernel
theorem d_TS_admit_4 : decode b_TS_admit 4 = .ok (.getfield 27, 3) := by decide +kernel
theorem d_TS_admit_7 : decode b_TS_admit 7 = .ok (.if_icmp .ge 21, 3) := by decide +kernel
theorem d_TS_admit_10 : decode b_TS_admit 10 = .ok (.aload_n 0, 1) := by decide +kernel
theorem d_TS_admit_11 : decode b_TS_admit 11 = .ok (.iload_n 3, 1) := by decide +kernel
theorem d_TS_admit_12 : decode b_TS_admit 12 = .ok (.aload_n 1, 1) := by decide +kernel
theorem d_TS_admit_13 : decode b_TS_admit 13 = .ok (.iload_n 2, 1) := by decide +kernel
theorem d_TS_admit_14 : decode b_TS_admit 14 = .ok (.invokevirtual 42, 3) := by decide +kernel
theorem d_TS_admit_17 : decode b_TS_admit 17 = .ok (.ifCond .ne 5, 3) := by decide +kernel
theorem d_TS_admit_20 : decode b_TS_admit 20 = .ok (.iconst 0, 1) := by decide +kernel
theorem d_TS_admit_21 : decode b_TS_admit 21 = .ok (.ireturn, 1) := by decide +kernel
theorem d_TS_admit_22 : decode b_TS_admit 22 = .ok (.iinc 3 1, 3) := by decide +kernel
theorem d_TS_admit_25 : decode b_TS_admit 25 = .ok (.goto (-23), 3) := by decide +kernel
theorem d_TS_admit_28 : decode b_TS_admit 28 = .ok (.iconst 1, 1) := by decide +kernel
theorem d_TS_admit_29 : decode b_TS_admit 29 = .ok (.ireturn, 1) := by decide +kernel
theorem d_TS_admit : ∀ z ∈ q_TS_admit, decode b_TS_admit z.1 = .ok z.2 := List.forall_mem_cons.mpr ⟨d_TS_admit_0, List.forall_mem_cons.mpr ⟨d_TS_admit_1, List.forall_mem_cons.mpr ⟨d_TS_admit_2, List.forall_mem_cons.mpr ⟨d_TS_admit_3, List.forall_mem_cons.mpr ⟨d_TS_admit_4, List.forall_mem_cons.mpr ⟨d_TS_admit_7, List.forall_mem_cons.mpr ⟨d_TS_admit_10, List.forall_mem_cons.mpr ⟨d_TS_admit_11, List.forall_mem_cons.mpr ⟨d_TS_admit_12, List.forall_mem_cons.mpr ⟨d_TS_admit_13, List.forall_mem_cons.mpr ⟨d_TS_admit_14, List.forall_mem_cons.mpr ⟨d_TS_admit_17, List.forall_mem_cons.mpr ⟨d_TS_admit_20, List.forall_mem_cons.mpr ⟨d_TS_admit_21, List.forall_mem_cons.mpr ⟨d_TS_admit_22, List.forall_mem_cons.mpr ⟨d_TS_admit_25, List.forall_mem_cons.mpr ⟨d_TS_admit_28, List.forall_mem_cons.mpr ⟨d_TS_admit_29, fun _ h => absurd h List.not_mem_nil⟩⟩⟩⟩⟩⟩⟩⟩⟩⟩⟩⟩⟩⟩⟩⟩⟩⟩
theorem i_TS_admit_ok : ∀ pc i n, i_TS_admit pc = some (i, n) → decode b_TS_admit pc = .ok (i, n) := fun pc i n h => d_TS_admit (pc, i, n) (am_find_mem h)
theorem i_TS_admit_0 : i_TS_admit 0 = some (.iconst 0, 1) := rfl
theorem i_TS_admit_1 : i_TS_admit 1 = some (.istore_n 3, 1) := rfl
theorem i_TS_admit_2 : i_TS_admit 2 = some (.iload_n 3, 1) := rfl
theorem i_TS_admit_3 : i_TS_admit 3 = some (.aload_n 0, 1) := rfl
theorem i_TS_admit_4 : i_TS_admit 4 = some (.getfield 27, 3) := rfl
theorem i_TS_admit_7 : i_TS_admit 7 = some (.if_icmp .ge 21, 3) := rfl
theorem i_TS_admit_10 : i_TS_admit 10 = some (.aload_n 0, 1) := rfl
theorem i_TS_admit_11 : i_TS_admit 11 = some (.iload_n 3, 1) := rfl
theorem i_TS_admit_12 : i_TS_admit 12 = some (.aload_n 1, 1) := rfl
theorem i_TS_admit_13 : i_TS_admit 13 = some (.iload_n 2, 1) := rfl
theorem i_TS_admit_14 : i_TS_admit 14 = some (.invokevirtual 42, 3) := rfl
theorem i_TS_admit_17 : i_TS_admit 17 = some (.ifCond .ne 5, 3) := rfl
theorem i_TS_admit_20 : i_TS_admit 20 = some (.iconst 0, 1) := rfl
theorem i_TS_admit_21 : i_TS_admit 21 = some (.ireturn, 1) := rfl
theorem i_TS_admit_22 : i_TS_admit 22 = some (.iinc 3 1, 3) := rfl
theorem i_TS_admit_25 : i_TS_admit 25 = some (.goto (-23), 3) := rfl
theorem i_TS_admit_28 : i_TS_admit 28 = some (.iconst 1, 1) := rfl
theorem i_TS_admit_29 : i_TS_admit 29 = some (.ireturn, 1) := rfl
abbrev w_TS_admit : List Jvm.Cond := Jvm.Cond.code y_TS_admit b_TS_admit 4 (some .boolean) :: vw_W
theorem c_TS_admit : Jvm.Cond.code y_TS_admit b_TS_admit 4 (some .boolean) ∈ vw_W := vw_t 523 (by decide +kernel) (by decide +kernel)
abbrev r_TS_admit : Room := { frames := 3, cells := 0, slots := 0, locals := 73 }
abbrev b_TS_isInTime : ByteArray := prog_11_method_6_code
abbrev y_TS_isInTime : MethodName := ⟨"ServerDesk$TaskSet", "isInTime", "(ILServerDesk$RuleBook;I)Z"⟩
def q_TS_isInTime : List (Nat × Instr × Nat) := [(0, .aload_n 0, 1), (1, .getfield 21, 3), (4, .aload_n 0, 1), (5, .getfield 24, 3), (8, .iload_n 1, 1), (9, .iaload, 1), (10, .iaload, 1), (11, .istore 4, 2), (13, .aload_n 0, 1), (14, .getfield 18, 3), (17, .aload_n 0, 1), (18, .getfield 24, 3), (21, .iload_n 1, 1), (22, .iaload, 1), (23, .iaload, 1), (24, .istore 5, 2), (26, .iconst 0, 1), (27, .istore 6, 2), (29, .iload 6, 2), (31, .bipush 60, 2), (33, .if_icmp .gt 46, 3), (36, .iload 5, 2), (38, .iload 4, 2), (40, .if_icmp .gt 39, 3), (43, .aload_n 0, 1), (44, .iload 5, 2), (46, .iload_n 1, 1), (47, .invokevirtual 46, 3), (50, .aload_n 2, 1), (51, .iload 5, 2), (53, .iload_n 3, 1), (54, .invokevirtual 49, 3), (57, .iadd, 1), (58, .istore 7, 2), (60, .iload 7, 2), (62, .iload 5, 2), (64, .if_icmp .ne 5, 3), (67, .iconst 1, 1), (68, .ireturn, 1), (69, .iload 7, 2), (71, .istore 5, 2), (73, .iinc 6 1, 3), (76, .goto (-47), 3), (79, .iconst 0, 1), (80, .ireturn, 1)]
def i_TS_isInTime : Nat → Option (Instr × Nat) := am_find q_TS_isInTime
theorem d_TS_isInTime_0 : decode b_TS_isInTime 0 = .ok (.aload_n 0, 1) := by decide +kernel
theorem d_TS_isInTime_1 : decode b_TS_isInTime 1 = .ok (.getfield 21, 3) := by decide +kernel
theorem d_TS_isInTime_4 : decode b_TS_isInTime 4 = .ok (.aload_n 0, 1) := by decide +kernel
theorem d_TS_isInTime_5 : decode b_TS_isInTime 5 = .ok (.getfield 24, 3) := by decide +kernel
theorem d_TS_isInTime_8 : decode b_TS_isInTime 8 = .ok (.iload_n 1, 1) := by decide +kernel
theorem d_TS_isInTime_9 : decode b_TS_isInTime 9 = .ok (.iaload, 1) := by decide +kernel
theorem d_TS_isInTime_10 : decode b_TS_isInTime 10 = .ok (.iaload, 1) := by decide +kernel
theorem d_TS_isInTime_11 : decode b_TS_isInTime 11 = .ok (.istore 4, 2) := by decide +kernel
theorem d_TS_isInTime_13 : decode b_TS_isInTime 13 = .ok (.aload_n 0, 1) := by decide +kernel
theorem d_TS_isInTime_14 : decode b_TS_isInTime 14 = .ok (.getfield 18, 3) := by decide +kernel
theorem d_TS_isInTime_17 : decode b_TS_isInTime 17 = .ok (.aload_n 0, 1) := by decide +kernel
theorem d_TS_isInTime_18 : decode b_TS_isInTime 18 = .ok (.getfield 24, 3) := by decide +kernel
theorem d_TS_isInTime_21 : decode b_TS_isInTime 21 = .ok (.iload_n 1, 1) := by decide +kernel
theorem d_TS_isInTime_22 : decode b_TS_isInTime 22 = .ok (.iaload, 1) := by decide +kernel
theorem d_TS_isInTime_23 : decode b_TS_isInTime 23 = .ok (.iaload, 1) := by decide +kernel
theorem d_TS_isInTime_24 : decode b_TS_isInTime 24 = .ok (.istore 5, 2) := by decide +kernel
theorem d_TS_isInTime_26 : decode b_TS_isInTime 26 = .ok (.iconst 0, 1) := by decide +kernel
theorem d_TS_isInTime_27 : decode b_TS_isInTime 27 = .ok (.istore 6, 2) := by decide +kernel
theorem d_TS_isInTime_29 : decode b_TS_isInTime 29 = .ok (.iload 6, 2) := by decide +kernel
theorem d_TS_isInTime_31 : decode b_TS_isInTime 31 = .ok (.bipush 60, 2) := by decide +kernel
theorem d_TS_isInTime_33 : decode b_TS_isInTime 33 = .ok (.if_icmp .gt 46, 3) := by decide +kernel
theorem d_TS_isInTime_36 : decode b_TS_isInTime 36 = .ok (.iload 5, 2) := by decide +kernel
theorem d_TS_isInTime_38 : decode b_TS_isInTime 38 = .ok (.iload 4, 2) := by decide +kernel
theorem d_TS_isInTime_40 : decode b_TS_isInTime 40 = .ok (.if_icmp .gt 39, 3) := by decide +kernel
theorem d_TS_isInTime_43 : decode b_TS_isInTime 43 = .ok (.aload_n 0, 1) := by decide +kernel
theorem d_TS_isInTime_44 : decode b_TS_isInTime 44 = .ok (.iload 5, 2) := by decide +kernel
theorem d_TS_isInTime_46 : decode b_TS_isInTime 46 = .ok (.iload_n 1, 1) := by decide +kernel
theorem d_TS_isInTime_47 : decode b_TS_isInTime 47 = .ok (.invokevirtual 46, 3) := by decide +kernel
theorem d_TS_isInTime_50 : decode b_TS_isInTime 50 = .ok (.aload_n 2, 1) := by decide +kernel
theorem d_TS_isInTime_51 : decode b_TS_isInTime 51 = .ok (.iload 5, 2) := by decide +kernel
theorem d_TS_isInTime_53 : decode b_TS_isInTime 53 = .ok (.iload_n 3, 1) := by decide +kernel
theorem d_TS_isInTime_54 : decode b_TS_isInTime 54 = .ok (.invokevirtual 49, 3) := by decide +kernel
theorem d_TS_isInTime_57 : decode b_TS_isInTime 57 = .ok (.iadd, 1) := by decide +kernel
theorem d_TS_isInTime_58 : decode b_TS_isInTime 58 = .ok (.istore 7, 2) := by decide +kernel
theorem d_TS_isInTime_60 : decode b_TS_isInTime 60 = .ok (.iload 7, 2) := by decide +kernel
theorem d_TS_isInTime_62 : decode b_TS_isInTime 62 = .ok (.iload 5, 2) := by decide +kernel
theorem d_TS_isInTime_64 : decode b_TS_isInTime 64 = .ok (.if_icmp .ne 5, 3) := by decide +kernel
theorem d_TS_isInTime_67 : decode b_TS_isInTime 67 = .ok (.iconst 1, 1) := by decide +kernel
theorem d_TS_isInTime_68 : decode b_TS_isInTime 68 = .ok (.ireturn, 1) := by decide +kernel
theorem d_TS_isInTime_69 : decode b_TS_isInTime 69 = .ok (.iload 7, 2) := by decide +kernel
theorem d_TS_isInTime_71 : decode b_TS_isInTime 71 = .ok (.istore 5, 2) := by decide +kernel
theorem d_TS_isInTime_73 : decode b_TS_isInTime 73 = .ok (.iinc 6 1, 3) := by decide +kernel
theorem d_TS_isInTime_76 : decode b_TS_isInTime 76 = .ok (.goto (-47), 3) := by decide +kernel
theorem d_TS_isInTime_79 : decode b_TS_isInTime 79 = .ok (.iconst 0, 1) := by decide +kernel
theorem d_TS_isInTime_80 : decode b_TS_isInTime 80 = .ok (.ireturn, 1) := by decide +kernel
theorem d_TS_isInTime : ∀ z ∈ q_TS_isInTime, decode b_TS_isInTime z.1 = .ok z.2 := List.forall_mem_cons.mpr ⟨d_TS_isInTime_0, List.forall_mem_cons.mpr ⟨d_TS_isInTime_1, List.forall_mem_cons.mpr ⟨d_TS_isInTime_4, List.forall_mem_cons.mpr ⟨d_TS_isInTime_5, List.forall_mem_cons.mpr ⟨d_TS_isInTime_8, List.forall_mem_cons.mpr ⟨d_TS_isInTime_9, List.forall_mem_cons.mpr ⟨d_TS_isInTime_10, List.forall_mem_cons.mpr ⟨d_TS_isInTime_11, List.forall_mem_cons.mpr ⟨d_TS_isInTime_13, List.forall_mem_cons.mpr ⟨d_TS_isInTime_14, List.forall_mem_cons.mpr ⟨d_TS_isInTime_17, List.forall_mem_cons.mpr ⟨d_TS_isInTime_18, List.forall_mem_cons.mpr ⟨d_TS_isInTime_21, List.forall_mem_cons.mpr ⟨d_TS_isInTime_22, List.forall_mem_cons.mpr ⟨d_TS_isInTime_23, List.forall_mem_cons.mpr ⟨d_TS_isInTime_24, List.forall_mem_cons.mpr ⟨d_TS_isInTime_26, List.forall_mem_cons.mpr ⟨d_TS_isInTime_27, List.forall_mem_cons.mpr ⟨d_TS_isInTime_29, List.forall_mem_cons.mpr ⟨d_TS_isInTime_31, List.forall_mem_cons.mpr ⟨d_TS_isInTime_33, List.forall_mem_cons.mpr ⟨d_TS_isInTime_36, List.forall_mem_cons.mpr ⟨d_TS_isInTime_38, List.forall_mem_cons.mpr ⟨d_TS_isInTime_40, List.forall_mem_cons.mpr ⟨d_TS_isInTime_43, List.forall_mem_cons.mpr ⟨d_TS_isInTime_44, List.forall_mem_cons.mpr ⟨d_TS_isInTime_46, List.forall_mem_cons.mpr ⟨d_TS_isInTime_47, List.forall_mem_cons.mpr ⟨d_TS_isInTime_50, List.forall_mem_cons.mpr ⟨d_TS_isInTime_51, List.forall_mem_cons.mpr ⟨d_TS_isInTime_53, List.forall_mem_cons.mpr ⟨d_TS_isInTime_54, List.forall_mem_cons.mpr ⟨d_TS_isInTime_57, List.forall_mem_cons.mpr ⟨d_TS_isInTime_58, List.forall_mem_cons.mpr ⟨d_TS_isInTime_60, List.forall_mem_cons.mpr ⟨d_TS_isInTime_62, List.forall_mem_cons.mpr ⟨d_TS_isInTime_64, List.forall_mem_cons.mpr ⟨d_TS_isInTime_67, List.forall_mem_cons.mpr ⟨d_TS_isInTime_68, List.forall_mem_cons.mpr ⟨d_TS_isInTime_69, List.forall_mem_cons.mpr ⟨d_TS_isInTime_71, List.forall_mem_cons.mpr ⟨d_TS_isInTime_73, List.forall_mem_cons.mpr ⟨d_TS_isInTime_76, List.forall_mem_cons.mpr ⟨d_TS_isInTime_79, List.forall_mem_cons.mpr ⟨d_TS_isInTime_80, fun _ h => absurd h List.not_mem_nil⟩⟩⟩⟩⟩⟩⟩⟩⟩⟩⟩⟩⟩⟩⟩⟩⟩⟩⟩⟩⟩⟩⟩⟩⟩⟩⟩⟩⟩⟩⟩⟩⟩⟩⟩⟩⟩⟩⟩⟩⟩⟩⟩⟩⟩
theorem i_TS_isInTime_ok : ∀ pc i n, i_TS_isInTime pc = some (i, n) → decode b_TS_isInTime pc = .ok (i, n) := fun pc i n h => d_TS_isInTime (pc, i, n) (am_find_mem h)
theorem i_TS_isInTime_0 : i_TS_isInTime 0 = some (.aload_n 0, 1) := rfl
theorem i_TS_isInTime_1 : i_TS_isInTime 1 = some (.getfield 21, 3) := rfl
theorem i_TS_isInTime_4 : i_TS_isInTime 4 = some (.aload_n 0, 1) := rfl
theorem i_TS_isInTime_5 : i_TS_isInTime 5 = some (.getfield 24, 3) := rfl
theorem i_TS_isInTime_8 : i_TS_isInTime 8 = some (.iload_n 1, 1) := rfl
theorem i_TS_isInTime_9 : i_TS_isInTime 9 = some (.iaload, 1) := rfl
theorem i_TS_isInTime_10 : i_TS_isInTime 10 = some (.iaload, 1) := rfl
theorem i_TS_isInTime_11 : i_TS_isInTime 11 = some (.istore 4, 2) := rfl
theorem i_TS_isInTime_13 : i_TS_isInTime 13 = some (.aload_n 0, 1) := rfl
theorem i_TS_isInTime_14 : i_TS_isInTime 14 = some (.getfield 18, 3) := rfl
theorem i_TS_isInTime_17 : i_TS_isInTime 17 = some (.aload_n 0, 1) := rfl
theorem i_TS_isInTime_18 : i_TS_isInTime 18 = some (.getfield 24, 3) := rfl
theorem i_TS_isInTime_21 : i_TS_isInTime 21 = some (.iload_n 1, 1) := rfl
theorem i_TS_isInTime_22 : i_TS_isInTime 22 = some (.iaload, 1) := rfl
theorem i_TS_isInTime_23 : i_TS_isInTime 23 = some (.iaload, 1) := rfl
theorem i_TS_isInTime_24 : i_TS_isInTime 24 = some (.istore 5, 2) := rfl
theorem i_TS_isInTime_26 : i_TS_isInTime 26 = some (.iconst 0, 1) := rfl
theorem i_TS_isInTime_27 : i_TS_isInTime 27 = some (.istore 6, 2) := rfl
theorem i_TS_isInTime_29 : i_TS_isInTime 29 = some (.iload 6, 2) := rfl
theorem i_TS_isInTime_31 : i_TS_isInTime 31 = some (.bipush 60, 2) := rfl
theorem i_TS_isInTime_33 : i_TS_isInTime 33 = some (.if_icmp .gt 46, 3) := rfl
theorem i_TS_isInTime_36 : i_TS_isInTime 36 = some (.iload 5, 2) := rfl
theorem i_TS_isInTime_38 : i_TS_isInTime 38 = some (.iload 4, 2) := rfl
theorem i_TS_isInTime_40 : i_TS_isInTime 40 = some (.if_icmp .gt 39, 3) := rfl
theorem i_TS_isInTime_43 : i_TS_isInTime 43 = some (.aload_n 0, 1) := rfl
theorem i_TS_isInTime_44 : i_TS_isInTime 44 = some (.iload 5, 2) := rfl
theorem i_TS_isInTime_46 : i_TS_isInTime 46 = some (.iload_n 1, 1) := rfl
theorem i_TS_isInTime_47 : i_TS_isInTime 47 = some (.invokevirtual 46, 3) := rfl
theorem i_TS_isInTime_50 : i_TS_isInTime 50 = some (.aload_n 2, 1) := rfl
theorem i_TS_isInTime_51 : i_TS_isInTime 51 = some (.iload 5, 2) := rfl
theorem i_TS_isInTime_53 : i_TS_isInTime 53 = some (.iload_n 3, 1) := rfl
theorem i_TS_isInTime_54 : i_TS_isInTime 54 = some (.invokevirtual 49, 3) := rfl
theorem i_TS_isInTime_57 : i_TS_isInTime 57 = some (.iadd, 1) := rfl
theorem i_TS_isInTime_58 : i_TS_isInTime 58 = some (.istore 7, 2) := rfl
theorem i_TS_isInTime_60 : i_TS_isInTime 60 = some (.iload 7, 2) := rfl
theorem i_TS_isInTime_62 : i_TS_isInTime 62 = some (.iload 5, 2) := rfl
theorem i_TS_isInTime_64 : i_TS_isInTime 64 = some (.if_icmp .ne 5, 3) := rfl
theorem i_TS_isInTime_67 : i_TS_isInTime 67 = some (.iconst 1, 1) := rfl
theorem i_TS_isInTime_68 : i_TS_isInTime 68 = some (.ireturn, 1) := rfl
theorem i_TS_isInTime_69 : i_TS_isInTime 69 = some (.iload 7, 2) := rfl
theorem i_TS_isInTime_71 : i_TS_isInTime 71 = some (.istore 5, 2) := rfl
theorem i_TS_isInTime_73 : i_TS_isInTime 73 = some (.iinc 6 1, 3) := rfl
theorem i_TS_isInTime_76 : i_TS_isInTime 76 = some (.goto (-47), 3) := rfl
theorem i_TS_isInTime_79 : i_TS_isInTime 79 = some (.iconst 0, 1) := rfl
theorem i_TS_isInTime_80 : i_TS_isInTime 80 = some (.ireturn, 1) := rfl
abbrev w_TS_isInTime : List Jvm.Cond := Jvm.Cond.code y_TS_isInTime b_TS_isInTime 8 (some .boolean) :: vw_W
theorem c_TS_isInTime : Jvm.Cond.code y_TS_isInTime b_TS_isInTime 8 (some .boolean) ∈ vw_W := vw_t 527 (by decide +kernel) (by decide +kernel)
abbrev r_TS_isInTime : Room := { frames := 2, cells := 0, slots := 0, locals := 46 }
abbrev b_TS_demandWithin : ByteArray := prog_11_method_7_code
abbrev y_TS_demandWithin : MethodName := ⟨"ServerDesk$TaskSet", "demandWithin", "(II)I"⟩
def q_TS_demandWithin : List (Nat × Instr × Nat) := [(0, .aload_n 0, 1), (1, .getfield 18, 3), (4, .aload_n 0, 1), (5, .getfield 24, 3), (8, .iload_n 2, 1), (9, .iaload, 1), (10, .iaload, 1), (11, .istore_n 3, 1), (12, .iconst 0, 1), (13, .istore 4, 2), (15, .iload 4, 2), (17, .iload_n 2, 1), (18, .if_icmp .ge 40, 3), (21, .aload_n 0, 1), (22, .getfield 24, 3), (25, .iload 4, 2), (27, .iaload, 1), (28, .istore 5, 2), (30, .iload_n 3, 1), (31, .iload_n 1, 1), (32, .aload_n 0, 1), (33, .getfield 9, 3), (36, .iload 5, 2), (38, .iaload, 1), (39, .invokestatic 52, 3), (42, .aload_n 0, 1), (43, .getfield 18, 3), (46, .iload 5, 2), (48, .iaload, 1), (49, .imul, 1), (50, .iadd, 1), (51, .istore_n 3, 1), (52, .iinc 4 1, 3), (55, .goto (-40), 3), (58, .iload_n 3, 1), (59, .ireturn, 1)]
def i_TS_demandWithin : Nat → Option (Instr × Nat) := am_find q_TS_demandWithin
theorem d_TS_demandWithin_0 : decode b_TS_demandWithin 0 = .ok (.aload_n 0, 1) := by decide +kernel
theorem d_TS_demandWithin_1 : decode b_TS_demandWithin 1 = .ok (.getfield 18, 3) := by decide +kernel
theorem d_TS_demandWithin_4 : decode b_TS_demandWithin 4 = .ok (.aload_n 0, 1) := by decide +kernel
theorem d_TS_demandWithin_5 : decode b_TS_demandWithin 5 = .ok (.getfield 24, 3) := by decide +kernel
theorem d_TS_demandWithin_8 : decode b_TS_demandWithin 8 = .ok (.iload_n 2, 1) := by decide +kernel
theorem d_TS_demandWithin_9 : decode b_TS_demandWithin 9 = .ok (.iaload, 1) := by decide +kernel
theorem d_TS_demandWithin_10 : decode b_TS_demandWithin 10 = .ok (.iaload, 1) := by decide +kernel
theorem d_TS_demandWithin_11 : decode b_TS_demandWithin 11 = .ok (.istore_n 3, 1) := by decide +kernel
theorem d_TS_demandWithin_12 : decode b_TS_demandWithin 12 = .ok (.iconst 0, 1) := by decide +kernel
theorem d_TS_demandWithin_13 : decode b_TS_demandWithin 13 = .ok (.istore 4, 2) := by decide +kernel
theorem d_TS_demandWithin_15 : decode b_TS_demandWithin 15 = .ok (.iload 4, 2) := by decide +kernel
theorem d_TS_demandWithin_17 : decode b_TS_demandWithin 17 = .ok (.iload_n 2, 1) := by decide +kernel
theorem d_TS_demandWithin_18 : decode b_TS_demandWithin 18 = .ok (.if_icmp .ge 40, 3) := by decide +kernel
theorem d_TS_demandWithin_21 : decode b_TS_demandWithin 21 = .ok (.aload_n 0, 1) := by decide +kernel
theorem d_TS_demandWithin_22 : decode b_TS_demandWithin 22 = .ok (.getfield 24, 3) := by decide +kernel
theorem d_TS_demandWithin_25 : decode b_TS_demandWithin 25 = .ok (.iload 4, 2) := by decide +kernel
theorem d_TS_demandWithin_27 : decode b_TS_demandWithin 27 = .ok (.iaload, 1) := by decide +kernel
theorem d_TS_demandWithin_28 : decode b_TS_demandWithin 28 = .ok (.istore 5, 2) := by decide +kernel
theorem d_TS_demandWithin_30 : decode b_TS_demandWithin 30 = .ok (.iload_n 3, 1) := by decide +kernel
theorem d_TS_demandWithin_31 : decode b_TS_demandWithin 31 = .ok (.iload_n 1, 1) := by decide +kernel
theorem d_TS_demandWithin_32 : decode b_TS_demandWithin 32 = .ok (.aload_n 0, 1) := by decide +kernel
theorem d_TS_demandWithin_33 : decode b_TS_demandWithin 33 = .ok (.getfield 9, 3) := by decide +kernel
theorem d_TS_demandWithin_36 : decode b_TS_demandWithin 36 = .ok (.iload 5, 2) := by decide +kernel
theorem d_TS_demandWithin_38 : decode b_TS_demandWithin 38 = .ok (.iaload, 1) := by decide +kernel
theorem d_TS_demandWithin_39 : decode b_TS_demandWithin 39 = .ok (.invokestatic 52, 3) := by decide +kernel
theorem d_TS_demandWithin_42 : decode b_TS_demandWithin 42 = .ok (.aload_n 0, 1) := by decide +kernel
theorem d_TS_demandWithin_43 : decode b_TS_demandWithin 43 = .ok (.getfield 18, 3) := by decide +kernel
theorem d_TS_demandWithin_46 : decode b_TS_demandWithin 46 = .ok (.iload 5, 2) := by decide +kernel
theorem d_TS_demandWithin_48 : decode b_TS_demandWithin 48 = .ok (.iaload, 1) := by decide +kernel
theorem d_TS_demandWithin_49 : decode b_TS_demandWithin 49 = .ok (.imul, 1) := by decide +kernel
theorem d_TS_demandWithin_50 : decode b_TS_demandWithin 50 = .ok (.iadd, 1) := by decide +kernel
theorem d_TS_demandWithin_51 : decode b_TS_demandWithin 51 = .ok (.istore_n 3, 1) := by decide +kernel
theorem d_TS_demandWithin_52 : decode b_TS_demandWithin 52 = .ok (.iinc 4 1, 3) := by decide +kernel
theorem d_TS_demandWithin_55 : decode b_TS_demandWithin 55 = .ok (.goto (-40), 3) := by decide +kernel
theorem d_TS_demandWithin_58 : decode b_TS_demandWithin 58 = .ok (.iload_n 3, 1) := by decide +kernel
theorem d_TS_demandWithin_59 : decode b_TS_demandWithin 59 = .ok (.ireturn, 1) := by decide +kernel
theorem d_TS_demandWithin : ∀ z ∈ q_TS_demandWithin, decode b_TS_demandWithin z.1 = .ok z.2 := List.forall_mem_cons.mpr ⟨d_TS_demandWithin_0, List.forall_mem_cons.mpr ⟨d_TS_demandWithin_1, List.forall_mem_cons.mpr ⟨d_TS_demandWithin_4, List.forall_mem_cons.mpr ⟨d_TS_demandWithin_5, List.forall_mem_cons.mpr ⟨d_TS_demandWithin_8, List.forall_mem_cons.mpr ⟨d_TS_demandWithin_9, List.forall_mem_cons.mpr ⟨d_TS_demandWithin_10, List.forall_mem_cons.mpr ⟨d_TS_demandWithin_11, List.forall_mem_cons.mpr ⟨d_TS_demandWithin_12, List.forall_mem_cons.mpr ⟨d_TS_demandWithin_13, List.forall_mem_cons.mpr ⟨d_TS_demandWithin_15, List.forall_mem_cons.mpr ⟨d_TS_demandWithin_17, List.forall_mem_cons.mpr ⟨d_TS_demandWithin_18, List.forall_mem_cons.mpr ⟨d_TS_demandWithin_21, List.forall_mem_cons.mpr ⟨d_TS_demandWithin_22, List.forall_mem_cons.mpr ⟨d_TS_demandWithin_25, List.forall_mem_cons.mpr ⟨d_TS_demandWithin_27, List.forall_mem_cons.mpr ⟨d_TS_demandWithin_28, List.forall_mem_cons.mpr ⟨d_TS_demandWithin_30, List.forall_mem_cons.mpr ⟨d_TS_demandWithin_31, List.forall_mem_cons.mpr ⟨d_TS_demandWithin_32, List.forall_mem_cons.mpr ⟨d_TS_demandWithin_33, List.forall_mem_cons.mpr ⟨d_TS_demandWithin_36, List.forall_mem_cons.mpr ⟨d_TS_demandWithin_38, List.forall_mem_cons.mpr ⟨d_TS_demandWithin_39, List.forall_mem_cons.mpr ⟨d_TS_demandWithin_42, List.forall_mem_cons.mpr ⟨d_TS_demandWithin_43, List.forall_mem_cons.mpr ⟨d_TS_demandWithin_46, List.forall_mem_cons.mpr ⟨d_TS_demandWithin_48, List.forall_mem_cons.mpr ⟨d_TS_demandWithin_49, List.forall_mem_cons.mpr ⟨d_TS_demandWithin_50, List.forall_mem_cons.mpr ⟨d_TS_demandWithin_51, List.forall_mem_cons.mpr ⟨d_TS_demandWithin_52, List.forall_mem_cons.mpr ⟨d_TS_demandWithin_55, List.forall_mem_cons.mpr ⟨d_TS_demandWithin_58, List.forall_mem_cons.mpr ⟨d_TS_demandWithin_59, fun _ h => absurd h List.not_mem_nil⟩⟩⟩⟩⟩⟩⟩⟩⟩⟩⟩⟩⟩⟩⟩⟩⟩⟩⟩⟩⟩⟩⟩⟩⟩⟩⟩⟩⟩⟩⟩⟩⟩⟩⟩⟩
theorem i_TS_demandWithin_ok : ∀ pc i n, i_TS_demandWithin pc = some (i, n) → decode b_TS_demandWithin pc = .ok (i, n) := fun pc i n h => d_TS_demandWithin (pc, i, n) (am_find_mem h)
theorem i_TS_demandWithin_0 : i_TS_demandWithin 0 = some (.aload_n 0, 1) := rfl
theorem i_TS_demandWithin_1 : i_TS_demandWithin 1 = some (.getfield 18, 3) := rfl
theorem i_TS_demandWithin_4 : i_TS_demandWithin 4 = some (.aload_n 0, 1) := rfl
theorem i_TS_demandWithin_5 : i_TS_demandWithin 5 = some (.getfield 24, 3) := rfl
theorem i_TS_demandWithin_8 : i_TS_demandWithin 8 = some (.iload_n 2, 1) := rfl
theorem i_TS_demandWithin_9 : i_TS_demandWithin 9 = some (.iaload, 1) := rfl
theorem i_TS_demandWithin_10 : i_TS_demandWithin 10 = some (.iaload, 1) := rfl
theorem i_TS_demandWithin_11 : i_TS_demandWithin 11 = some (.istore_n 3, 1) := rfl
theorem i_TS_demandWithin_12 : i_TS_demandWithin 12 = some (.iconst 0, 1) := rfl
theorem i_TS_demandWithin_13 : i_TS_demandWithin 13 = some (.istore 4, 2) := rfl
theorem i_TS_demandWithin_15 : i_TS_demandWithin 15 = some (.iload 4, 2) := rfl
theorem i_TS_demandWithin_17 : i_TS_demandWithin 17 = some (.iload_n 2, 1) := rfl
theorem i_TS_demandWithin_18 : i_TS_demandWithin 18 = some (.if_icmp .ge 40, 3) := rfl
theorem i_TS_demandWithin_21 : i_TS_demandWithin 21 = some (.aload_n 0, 1) := rfl
theorem i_TS_demandWithin_22 : i_TS_demandWithin 22 = some (.getfield 24, 3) := rfl
theorem i_TS_demandWithin_25 : i_TS_demandWithin 25 = some (.iload 4, 2) := rfl
theorem i_TS_demandWithin_27 : i_TS_demandWithin 27 = some (.iaload, 1) := rfl
theorem i_TS_demandWithin_28 : i_TS_demandWithin 28 = some (.istore 5, 2) := rfl
theorem i_TS_demandWithin_30 : i_TS_demandWithin 30 = some (.iload_n 3, 1) := rfl
theorem i_TS_demandWithin_31 : i_TS_demandWithin 31 = some (.iload_n 1, 1) := rfl
theorem i_TS_demandWithin_32 : i_TS_demandWithin 32 = some (.aload_n 0, 1) := rfl
theorem i_TS_demandWithin_33 : i_TS_demandWithin 33 = some (.getfield 9, 3) := rfl
theorem i_TS_demandWithin_36 : i_TS_demandWithin 36 = some (.iload 5, 2) := rfl
theorem i_TS_demandWithin_38 : i_TS_demandWithin 38 = some (.iaload, 1) := rfl
theorem i_TS_demandWithin_39 : i_TS_demandWithin 39 = some (.invokestatic 52, 3) := rfl
theorem i_TS_demandWithin_42 : i_TS_demandWithin 42 = some (.aload_n 0, 1) := rfl
theorem i_TS_demandWithin_43 : i_TS_demandWithin 43 = some (.getfield 18, 3) := rfl
theorem i_TS_demandWithin_46 : i_TS_demandWithin 46 = some (.iload 5, 2) := rfl
theorem i_TS_demandWithin_48 : i_TS_demandWithin 48 = some (.iaload, 1) := rfl
theorem i_TS_demandWithin_49 : i_TS_demandWithin 49 = some (.imul, 1) := rfl
theorem i_TS_demandWithin_50 : i_TS_demandWithin 50 = some (.iadd, 1) := rfl
theorem i_TS_demandWithin_51 : i_TS_demandWithin 51 = some (.istore_n 3, 1) := rfl
theorem i_TS_demandWithin_52 : i_TS_demandWithin 52 = some (.iinc 4 1, 3) := rfl
theorem i_TS_demandWithin_55 : i_TS_demandWithin 55 = some (.goto (-40), 3) := rfl
theorem i_TS_demandWithin_58 : i_TS_demandWithin 58 = some (.iload_n 3, 1) := rfl
theorem i_TS_demandWithin_59 : i_TS_demandWithin 59 = some (.ireturn, 1) := rfl
abbrev w_TS_demandWithin : List Jvm.Cond := Jvm.Cond.code y_TS_demandWithin b_TS_demandWithin 6 (some .int) :: vw_W
theorem c_TS_demandWithin : Jvm.Cond.code y_TS_demandWithin b_TS_demandWithin 6 (some .int) ∈ vw_W := vw_t 531 (by decide +kernel) (by decide +kernel)
abbrev r_TS_demandWithin : Room := { frames := 1, cells := 0, slots := 0, locals := 21 }
abbrev b_SD_roundedUp : ByteArray := prog_1_method_19_code
abbrev y_SD_roundedUp : MethodName := ⟨"ServerDesk", "roundedUp", "(II)I"⟩
def q_SD_roundedUp : List (Nat × Instr × Nat) := [(0, .iload_n 1, 1), (1, .ifCond .le 13, 3), (4, .iload_n 0, 1), (5, .iload_n 1, 1), (6, .iadd, 1), (7, .iconst 1, 1), (8, .isub, 1), (9, .iload_n 1, 1), (10, .idiv, 1), (11, .goto 4, 3), (14, .iconst 0, 1), (15, .ireturn, 1)]
def i_SD_roundedUp : Nat → Option (Instr × Nat) := am_find q_SD_roundedUp
theorem d_SD_roundedUp_0 : decode b_SD_roundedUp 0 = .ok (.iload_n 1, 1) := by decide +kernel
theorem d_SD_roundedUp_1 : decode b_SD_roundedUp 1 = .ok (.ifCond .le 13, 3) := by decide +kernel
theorem d_SD_roundedUp_4 : decode b_SD_roundedUp 4 = .ok (.iload_n 0, 1) := by decide +kernel
theorem d_SD_roundedUp_5 : decode b_SD_roundedUp 5 = .ok (.iload_n 1, 1) := by decide +kernel
theorem d_SD_roundedUp_6 : decode b_SD_roundedUp 6 = .ok (.iadd, 1) := by decide +kernel
theorem d_SD_roundedUp_7 : decode b_SD_roundedUp 7 = .ok (.iconst 1, 1) := by decide +kernel
theorem d_SD_roundedUp_8 : decode b_SD_roundedUp 8 = .ok (.isub, 1) := by decide +kernel
theorem d_SD_roundedUp_9 : decode b_SD_roundedUp 9 = .ok (.iload_n 1, 1) := by decide +kernel
theorem d_SD_roundedUp_10 : decode b_SD_roundedUp 10 = .ok (.idiv, 1) := by decide +kernel
theorem d_SD_roundedUp_11 : decode b_SD_roundedUp 11 = .ok (.goto 4, 3) := by decide +kernel
theorem d_SD_roundedUp_14 : decode b_SD_roundedUp 14 = .ok (.iconst 0, 1) := by decide +kernel
theorem d_SD_roundedUp_15 : decode b_SD_roundedUp 15 = .ok (.ireturn, 1) := by decide +kernel
theorem d_SD_roundedUp : ∀ z ∈ q_SD_roundedUp, decode b_SD_roundedUp z.1 = .ok z.2 := List.forall_mem_cons.mpr ⟨d_SD_roundedUp_0, List.forall_mem_cons.mpr ⟨d_SD_roundedUp_1, List.forall_mem_cons.mpr ⟨d_SD_roundedUp_4, List.forall_mem_cons.mpr ⟨d_SD_roundedUp_5, List.forall_mem_cons.mpr ⟨d_SD_roundedUp_6, List.forall_mem_cons.mpr ⟨d_SD_roundedUp_7, List.forall_mem_cons.mpr ⟨d_SD_roundedUp_8, List.forall_mem_cons.mpr ⟨d_SD_roundedUp_9, List.forall_mem_cons.mpr ⟨d_SD_roundedUp_10, List.forall_mem_cons.mpr ⟨d_SD_roundedUp_11, List.forall_mem_cons.mpr ⟨d_SD_roundedUp_14, List.forall_mem_cons.mpr ⟨d_SD_roundedUp_15, fun _ h => absurd h List.not_mem_nil⟩⟩⟩⟩⟩⟩⟩⟩⟩⟩⟩⟩
theorem i_SD_roundedUp_ok : ∀ pc i n, i_SD_roundedUp pc = some (i, n) → decode b_SD_roundedUp pc = .ok (i, n) := fun pc i n h => d_SD_roundedUp (pc, i, n) (am_find_mem h)
theorem i_SD_roundedUp_0 : i_SD_roundedUp 0 = some (.iload_n 1, 1) := rfl
theorem i_SD_roundedUp_1 : i_SD_roundedUp 1 = some (.ifCond .le 13, 3) := rfl
theorem i_SD_roundedUp_4 : i_SD_roundedUp 4 = some (.iload_n 0, 1) := rfl
theorem i_SD_roundedUp_5 : i_SD_roundedUp 5 = some (.iload_n 1, 1) := rfl
theorem i_SD_roundedUp_6 : i_SD_roundedUp 6 = some (.iadd, 1) := rfl
theorem i_SD_roundedUp_7 : i_SD_roundedUp 7 = some (.iconst 1, 1) := rfl
theorem i_SD_roundedUp_8 : i_SD_roundedUp 8 = some (.isub, 1) := rfl
theorem i_SD_roundedUp_9 : i_SD_roundedUp 9 = some (.iload_n 1, 1) := rfl
theorem i_SD_roundedUp_10 : i_SD_roundedUp 10 = some (.idiv, 1) := rfl
theorem i_SD_roundedUp_11 : i_SD_roundedUp 11 = some (.goto 4, 3) := rfl
theorem i_SD_roundedUp_14 : i_SD_roundedUp 14 = some (.iconst 0, 1) := rfl
theorem i_SD_roundedUp_15 : i_SD_roundedUp 15 = some (.ireturn, 1) := rfl
abbrev w_SD_roundedUp : List Jvm.Cond := Jvm.Cond.code y_SD_roundedUp b_SD_roundedUp 2 (some .int) :: vw_W
theorem c_SD_roundedUp : Jvm.Cond.code y_SD_roundedUp b_SD_roundedUp 2 (some .int) ∈ vw_W := vw_t 534 (by decide +kernel) (by decide +kernel)
abbrev r_SD_roundedUp : Room := { frames := 0, cells := 0, slots := 0, locals := 0 }
abbrev b_RB_demandWithin : ByteArray := prog_9_method_6_code
abbrev y_RB_demandWithin : MethodName := ⟨"ServerDesk$RuleBook", "demandWithin", "(II)I"⟩
def q_RB_demandWithin : List (Nat × Instr × Nat) := [(0, .iload_n 2, 1), (1, .lookupswitch 76 #[(1, 27), (2, 58)], 27), (28, .iconst 1, 1), (29, .iconst 0, 1), (30, .iload_n 1, 1), (31, .aload_n 0, 1), (32, .getfield 9, 3), (35, .iload_n 2, 1), (36, .iaload, 1), (37, .isub, 1), (38, .invokestatic 39, 3), (41, .aload_n 0, 1), (42, .getfield 15, 3), (45, .iload_n 2, 1), (46, .iaload, 1), (47, .invokestatic 45, 3), (50, .iadd, 1), (51, .aload_n 0, 1), (52, .getfield 9, 3), (55, .iload_n 2, 1), (56, .iaload, 1), (57, .imul, 1), (58, .ireturn, 1), (59, .iload_n 1, 1), (60, .aload_n 0, 1), (61, .getfield 15, 3), (64, .iload_n 2, 1), (65, .iaload, 1), (66, .invokestatic 45, 3), (69, .aload_n 0, 1), (70, .getfield 9, 3), (73, .iload_n 2, 1), (74, .iaload, 1), (75, .imul, 1), (76, .ireturn, 1), (77, .iconst 0, 1), (78, .ireturn, 1)]
def i_RB_demandWithin : Nat → Option (Instr × Nat) := am_find q_RB_demandWithin
theorem d_RB_demandWithin_0 : decode b_RB_demandWithin 0 = .ok (.iload_n 2, 1) := by decide +kernel
theorem d_RB_demandWithin_1 : decode b_RB_demandWithin 1 = .ok (.lookupswitch 76 #[(1, 27), (2, 58)], 27) := by decide +kernel
theorem d_RB_demandWithin_28 : decode b_RB_demandWithin 28 = .ok (.iconst 1, 1) := by decide +kernel
theorem d_RB_demandWithin_29 : decode b_RB_demandWithin 29 = .ok (.iconst 0, 1) := by decide +kernel
theorem d_RB_demandWithin_30 : decode b_RB_demandWithin 30 = .ok (.iload_n 1, 1) := by decide +kernel
theorem d_RB_demandWithin_31 : decode b_RB_demandWithin 31 = .ok (.aload_n 0, 1) := by decide +kernel
theorem d_RB_demandWithin_32 : decode b_RB_demandWithin 32 = .ok (.getfield 9, 3) := by decide +kernel
theorem d_RB_demandWithin_35 : decode b_RB_demandWithin 35 = .ok (.iload_n 2, 1) := by decide +kernel
theorem d_RB_demandWithin_36 : decode b_RB_demandWithin 36 = .ok (.iaload, 1) := by decide +kernel
theorem d_RB_demandWithin_37 : decode b_RB_demandWithin 37 = .ok (.isub, 1) := by decide +kernel
theorem d_RB_demandWithin_38 : decode b_RB_demandWithin 38 = .ok (.invokestatic 39, 3) := by decide +kernel
theorem d_RB_demandWithin_41 : decode b_RB_demandWithin 41 = .ok (.aload_n 0, 1) := by decide +kernel
theorem d_RB_demandWithin_42 : decode b_RB_demandWithin 42 = .ok (.getfield 15, 3) := by decide +kernel
theorem d_RB_demandWithin_45 : decode b_RB_demandWithin 45 = .ok (.iload_n 2, 1) := by decide +kernel
theorem d_RB_demandWithin_46 : decode b_RB_demandWithin 46 = .ok (.iaload, 1) := by decide +kernel
theorem d_RB_demandWithin_47 : decode b_RB_demandWithin 47 = .ok (.invokestatic 45, 3) := by decide +kernel
theorem d_RB_demandWithin_50 : decode b_RB_demandWithin 50 = .ok (.iadd, 1) := by decide +kernel
theorem d_RB_demandWithin_51 : decode b_RB_demandWithin 51 = .ok (.aload_n 0, 1) := by decide +kernel
theorem d_RB_demandWithin_52 : decode b_RB_demandWithin 52 = .ok (.getfield 9, 3) := by decide +kernel
theorem d_RB_demandWithin_55 : decode b_RB_demandWithin 55 = .ok (.iload_n 2, 1) := by decide +kernel
theorem d_RB_demandWithin_56 : decode b_RB_demandWithin 56 = .ok (.iaload, 1) := by decide +kernel
theorem d_RB_demandWithin_57 : decode b_RB_demandWithin 57 = .ok (.imul, 1) := by decide +kernel
theorem d_RB_demandWithin_58 : decode b_RB_demandWithin 58 = .ok (.ireturn, 1) := by decide +kernel
theorem d_RB_demandWithin_59 : decode b_RB_demandWithin 59 = .ok (.iload_n 1, 1) := by decide +kernel
theorem d_RB_demandWithin_60 : decode b_RB_demandWithin 60 = .ok (.aload_n 0, 1) := by decide +kernel
theorem d_RB_demandWithin_61 : decode b_RB_demandWithin 61 = .ok (.getfield 15, 3) := by decide +kernel
theorem d_RB_demandWithin_64 : decode b_RB_demandWithin 64 = .ok (.iload_n 2, 1) := by decide +kernel
theorem d_RB_demandWithin_65 : decode b_RB_demandWithin 65 = .ok (.iaload, 1) := by decide +kernel
theorem d_RB_demandWithin_66 : decode b_RB_demandWithin 66 = .ok (.invokestatic 45, 3) := by decide +kernel
theorem d_RB_demandWithin_69 : decode b_RB_demandWithin 69 = .ok (.aload_n 0, 1) := by decide +kernel
theorem d_RB_demandWithin_70 : decode b_RB_demandWithin 70 = .ok (.getfield 9, 3) := by decide +kernel
theorem d_RB_demandWithin_73 : decode b_RB_demandWithin 73 = .ok (.iload_n 2, 1) := by decide +kernel
theorem d_RB_demandWithin_74 : decode b_RB_demandWithin 74 = .ok (.iaload, 1) := by decide +kernel
theorem d_RB_demandWithin_75 : decode b_RB_demandWithin 75 = .ok (.imul, 1) := by decide +kernel
theorem d_RB_demandWithin_76 : decode b_RB_demandWithin 76 = .ok (.ireturn, 1) := by decide +kernel
theorem d_RB_demandWithin_77 : decode b_RB_demandWithin 77 = .ok (.iconst 0, 1) := by decide +kernel
theorem d_RB_demandWithin_78 : decode b_RB_demandWithin 78 = .ok (.ireturn, 1) := by decide +kernel
theorem d_RB_demandWithin : ∀ z ∈ q_RB_demandWithin, decode b_RB_demandWithin z.1 = .ok z.2 := List.forall_mem_cons.mpr ⟨d_RB_demandWithin_0, List.forall_mem_cons.mpr ⟨d_RB_demandWithin_1, List.forall_mem_cons.mpr ⟨d_RB_demandWithin_28, List.forall_mem_cons.mpr ⟨d_RB_demandWithin_29, List.forall_mem_cons.mpr ⟨d_RB_demandWithin_30, List.forall_mem_cons.mpr ⟨d_RB_demandWithin_31, List.forall_mem_cons.mpr ⟨d_RB_demandWithin_32, List.forall_mem_cons.mpr ⟨d_RB_demandWithin_35, List.forall_mem_cons.mpr ⟨d_RB_demandWithin_36, List.forall_mem_cons.mpr ⟨d_RB_demandWithin_37, List.forall_mem_cons.mpr ⟨d_RB_demandWithin_38, List.forall_mem_cons.mpr ⟨d_RB_demandWithin_41, List.forall_mem_cons.mpr ⟨d_RB_demandWithin_42, List.forall_mem_cons.mpr ⟨d_RB_demandWithin_45, List.forall_mem_cons.mpr ⟨d_RB_demandWithin_46, List.forall_mem_cons.mpr ⟨d_RB_demandWithin_47, List.forall_mem_cons.mpr ⟨d_RB_demandWithin_50, List.forall_mem_cons.mpr ⟨d_RB_demandWithin_51, List.forall_mem_cons.mpr ⟨d_RB_demandWithin_52, List.forall_mem_cons.mpr ⟨d_RB_demandWithin_55, List.forall_mem_cons.mpr ⟨d_RB_demandWithin_56, List.forall_mem_cons.mpr ⟨d_RB_demandWithin_57, List.forall_mem_cons.mpr ⟨d_RB_demandWithin_58, List.forall_mem_cons.mpr ⟨d_RB_demandWithin_59, List.forall_mem_cons.mpr ⟨d_RB_demandWithin_60, List.forall_mem_cons.mpr ⟨d_RB_demandWithin_61, List.forall_mem_cons.mpr ⟨d_RB_demandWithin_64, List.forall_mem_cons.mpr ⟨d_RB_demandWithin_65, List.forall_mem_cons.mpr ⟨d_RB_demandWithin_66, List.forall_mem_cons.mpr ⟨d_RB_demandWithin_69, List.forall_mem_cons.mpr ⟨d_RB_demandWithin_70, List.forall_mem_cons.mpr ⟨d_RB_demandWithin_73, List.forall_mem_cons.mpr ⟨d_RB_demandWithin_74, List.forall_mem_cons.mpr ⟨d_RB_demandWithin_75, List.forall_mem_cons.mpr ⟨d_RB_demandWithin_76, List.forall_mem_cons.mpr ⟨d_RB_demandWithin_77, List.forall_mem_cons.mpr ⟨d_RB_demandWithin_78, fun _ h => absurd h List.not_mem_nil⟩⟩⟩⟩⟩⟩⟩⟩⟩⟩⟩⟩⟩⟩⟩⟩⟩⟩⟩⟩⟩⟩⟩⟩⟩⟩⟩⟩⟩⟩⟩⟩⟩⟩⟩⟩⟩
theorem i_RB_demandWithin_ok : ∀ pc i n, i_RB_demandWithin pc = some (i, n) → decode b_RB_demandWithin pc = .ok (i, n) := fun pc i n h => d_RB_demandWithin (pc, i, n) (am_find_mem h)
theorem i_RB_demandWithin_0 : i_RB_demandWithin 0 = some (.iload_n 2, 1) := rfl
theorem i_RB_demandWithin_1 : i_RB_demandWithin 1 = some (.lookupswitch 76 #[(1, 27), (2, 58)], 27) := rfl
theorem i_RB_demandWithin_28 : i_RB_demandWithin 28 = some (.iconst 1, 1) := rfl
theorem i_RB_demandWithin_29 : i_RB_demandWithin 29 = some (.iconst 0, 1) := rfl
theorem i_RB_demandWithin_30 : i_RB_demandWithin 30 = some (.iload_n 1, 1) := rfl
theorem i_RB_demandWithin_31 : i_RB_demandWithin 31 = some (.aload_n 0, 1) := rfl
theorem i_RB_demandWithin_32 : i_RB_demandWithin 32 = some (.getfield 9, 3) := rfl
theorem i_RB_demandWithin_35 : i_RB_demandWithin 35 = some (.iload_n 2, 1) := rfl
theorem i_RB_demandWithin_36 : i_RB_demandWithin 36 = some (.iaload, 1) := rfl
theorem i_RB_demandWithin_37 : i_RB_demandWithin 37 = some (.isub, 1) := rfl
theorem i_RB_demandWithin_38 : i_RB_demandWithin 38 = some (.invokestatic 39, 3) := rfl
theorem i_RB_demandWithin_41 : i_RB_demandWithin 41 = some (.aload_n 0, 1) := rfl
theorem i_RB_demandWithin_42 : i_RB_demandWithin 42 = some (.getfield 15, 3) := rfl
theorem i_RB_demandWithin_45 : i_RB_demandWithin 45 = some (.iload_n 2, 1) := rfl
theorem i_RB_demandWithin_46 : i_RB_demandWithin 46 = some (.iaload, 1) := rfl
theorem i_RB_demandWithin_47 : i_RB_demandWithin 47 = some (.invokestatic 45, 3) := rfl
theorem i_RB_demandWithin_50 : i_RB_demandWithin 50 = some (.iadd, 1) := rfl
theorem i_RB_demandWithin_51 : i_RB_demandWithin 51 = some (.aload_n 0, 1) := rfl
theorem i_RB_demandWithin_52 : i_RB_demandWithin 52 = some (.getfield 9, 3) := rfl
theorem i_RB_demandWithin_55 : i_RB_demandWithin 55 = some (.iload_n 2, 1) := rfl
theorem i_RB_demandWithin_56 : i_RB_demandWithin 56 = some (.iaload, 1) := rfl
theorem i_RB_demandWithin_57 : i_RB_demandWithin 57 = some (.imul, 1) := rfl
theorem i_RB_demandWithin_58 : i_RB_demandWithin 58 = some (.ireturn, 1) := rfl
theorem i_RB_demandWithin_59 : i_RB_demandWithin 59 = some (.iload_n 1, 1) := rfl
theorem i_RB_demandWithin_60 : i_RB_demandWithin 60 = some (.aload_n 0, 1) := rfl
theorem i_RB_demandWithin_61 : i_RB_demandWithin 61 = some (.getfield 15, 3) := rfl
theorem i_RB_demandWithin_64 : i_RB_demandWithin 64 = some (.iload_n 2, 1) := rfl
theorem i_RB_demandWithin_65 : i_RB_demandWithin 65 = some (.iaload, 1) := rfl
theorem i_RB_demandWithin_66 : i_RB_demandWithin 66 = some (.invokestatic 45, 3) := rfl
theorem i_RB_demandWithin_69 : i_RB_demandWithin 69 = some (.aload_n 0, 1) := rfl
theorem i_RB_demandWithin_70 : i_RB_demandWithin 70 = some (.getfield 9, 3) := rfl
theorem i_RB_demandWithin_73 : i_RB_demandWithin 73 = some (.iload_n 2, 1) := rfl
theorem i_RB_demandWithin_74 : i_RB_demandWithin 74 = some (.iaload, 1) := rfl
theorem i_RB_demandWithin_75 : i_RB_demandWithin 75 = some (.imul, 1) := rfl
theorem i_RB_demandWithin_76 : i_RB_demandWithin 76 = some (.ireturn, 1) := rfl
theorem i_RB_demandWithin_77 : i_RB_demandWithin 77 = some (.iconst 0, 1) := rfl
theorem i_RB_demandWithin_78 : i_RB_demandWithin 78 = some (.ireturn, 1) := rfl
abbrev w_RB_demandWithin : List Jvm.Cond := Jvm.Cond.code y_RB_demandWithin b_RB_demandWithin 3 (some .int) :: vw_W
theorem c_RB_demandWithin : Jvm.Cond.code y_RB_demandWithin b_RB_demandWithin 3 (some .int) ∈ vw_W := vw_t 538 (by decide +kernel) (by decide +kernel)
abbrev r_RB_demandWithin : Room := { frames := 1, cells := 0, slots := 0, locals := 21 }
abbrev b_JM_max : ByteArray := prog_18_method_65_code
abbrev y_JM_max : MethodName := ⟨"java/lang/Math", "max", "(II)I"⟩
def q_JM_max : List (Nat × Instr × Nat) := [(0, .iload_n 0, 1), (1, .iload_n 1, 1), (2, .if_icmp .lt 7, 3), (5, .iload_n 0, 1), (6, .goto 4, 3), (9, .iload_n 1, 1), (10, .ireturn, 1)]
def i_JM_max : Nat → Option (Instr × Nat) := am_find q_JM_max
theorem d_JM_max_0 : decode b_JM_max 0 = .ok (.iload_n 0, 1) := by decide +kernel
theorem d_JM_max_1 : decode b_JM_max 1 = .ok (.iload_n 1, 1) := by decide +kernel
theorem d_JM_max_2 : decode b_JM_max 2 = .ok (.if_icmp .lt 7, 3) := by decide +kernel
theorem d_JM_max_5 : decode b_JM_max 5 = .ok (.iload_n 0, 1) := by decide +kernel
theorem d_JM_max_6 : decode b_JM_max 6 = .ok (.goto 4, 3) := by decide +kernel
theorem d_JM_max_9 : decode b_JM_max 9 = .ok (.iload_n 1, 1) := by decide +kernel
theorem d_JM_max_10 : decode b_JM_max 10 = .ok (.ireturn, 1) := by decide +kernel
theorem d_JM_max : ∀ z ∈ q_JM_max, decode b_JM_max z.1 = .ok z.2 := List.forall_mem_cons.mpr ⟨d_JM_max_0, List.forall_mem_cons.mpr ⟨d_JM_max_1, List.forall_mem_cons.mpr ⟨d_JM_max_2, List.forall_mem_cons.mpr ⟨d_JM_max_5, List.forall_mem_cons.mpr ⟨d_JM_max_6, List.forall_mem_cons.mpr ⟨d_JM_max_9, List.forall_mem_cons.mpr ⟨d_JM_max_10, fun _ h => absurd h List.not_mem_nil⟩⟩⟩⟩⟩⟩⟩
theorem i_JM_max_ok : ∀ pc i n, i_JM_max pc = some (i, n) → decode b_JM_max pc = .ok (i, n) := fun pc i n h => d_JM_max (pc, i, n) (am_find_mem h)
theorem i_JM_max_0 : i_JM_max 0 = some (.iload_n 0, 1) := rfl
theorem i_JM_max_1 : i_JM_max 1 = some (.iload_n 1, 1) := rfl
theorem i_JM_max_2 : i_JM_max 2 = some (.if_icmp .lt 7, 3) := rfl
theorem i_JM_max_5 : i_JM_max 5 = some (.iload_n 0, 1) := rfl
theorem i_JM_max_6 : i_JM_max 6 = some (.goto 4, 3) := rfl
theorem i_JM_max_9 : i_JM_max 9 = some (.iload_n 1, 1) := rfl
theorem i_JM_max_10 : i_JM_max 10 = some (.ireturn, 1) := rfl
abbrev w_JM_max : List Jvm.Cond := Jvm.Cond.code y_JM_max b_JM_max 2 (some .int) :: vw_W
theorem c_JM_max : Jvm.Cond.code y_JM_max b_JM_max 2 (some .int) ∈ vw_W := vw_t 541 (by decide +kernel) (by decide +kernel)
abbrev r_JM_max : Room := { frames := 0, cells := 0, slots := 0, locals := 0 }
abbrev b_LW_start : ByteArray := method_5_code
abbrev y_LW_start : MethodName := ⟨"ServerDeskLaw", "start", "(LServerDesk;)I"⟩
def q_LW_start : List (Nat × Instr × Nat) := [(0, .aload_n 0, 1), (1, .invokevirtual 23, 3), (4, .goto 6, 3), (7, .astore_n 1, 1), (8, .iconst 1, 1), (9, .ireturn, 1), (10, .iconst 0, 1), (11, .ireturn, 1)]
def i_LW_start : Nat → Option (Instr × Nat) := am_find q_LW_start
theorem d_LW_start_0 : decode b_LW_start 0 = .ok (.aload_n 0, 1) := by decide +kernel
theorem d_LW_start_1 : decode b_LW_start 1 = .ok (.invokevirtual 23, 3) := by decide +kernel
theorem d_LW_start_4 : decode b_LW_start 4 = .ok (.goto 6, 3) := by decide +kernel
theorem d_LW_start_7 : decode b_LW_start 7 = .ok (.astore_n 1, 1) := by decide +kernel
theorem d_LW_start_8 : decode b_LW_start 8 = .ok (.iconst 1, 1) := by decide +kernel
theorem d_LW_start_9 : decode b_LW_start 9 = .ok (.ireturn, 1) := by decide +kernel
theorem d_LW_start_10 : decode b_LW_start 10 = .ok (.iconst 0, 1) := by decide +kernel
theorem d_LW_start_11 : decode b_LW_start 11 = .ok (.ireturn, 1) := by decide +kernel
theorem d_LW_start : ∀ z ∈ q_LW_start, decode b_LW_start z.1 = .ok z.2 := List.forall_mem_cons.mpr ⟨d_LW_start_0, List.forall_mem_cons.mpr ⟨d_LW_start_1, List.forall_mem_cons.mpr ⟨d_LW_start_4, List.forall_mem_cons.mpr ⟨d_LW_start_7, List.forall_mem_cons.mpr ⟨d_LW_start_8, List.forall_mem_cons.mpr ⟨d_LW_start_9, List.forall_mem_cons.mpr ⟨d_LW_start_10, List.forall_mem_cons.mpr ⟨d_LW_start_11, fun _ h => absurd h List.not_mem_nil⟩⟩⟩⟩⟩⟩⟩⟩
theorem i_LW_start_ok : ∀ pc i n, i_LW_start pc = some (i, n) → decode b_LW_start pc = .ok (i, n) := fun pc i n h => d_LW_start (pc, i, n) (am_find_mem h)
theorem i_LW_start_0 : i_LW_start 0 = some (.aload_n 0, 1) := rfl
theorem i_LW_start_1 : i_LW_start 1 = some (.invokevirtual 23, 3) := rfl
theorem i_LW_start_4 : i_LW_start 4 = some (.goto 6, 3) := rfl
theorem i_LW_start_7 : i_LW_start 7 = some (.astore_n 1, 1) := rfl
theorem i_LW_start_8 : i_LW_start 8 = some (.iconst 1, 1) := rfl
theorem i_LW_start_9 : i_LW_start 9 = some (.ireturn, 1) := rfl
theorem i_LW_start_10 : i_LW_start 10 = some (.iconst 0, 1) := rfl
theorem i_LW_start_11 : i_LW_start 11 = some (.ireturn, 1) := rfl
abbrev b_SD_start : ByteArray := prog_1_method_4_code
abbrev y_SD_start : MethodName := ⟨"ServerDesk", "start", "()V"⟩
def q_SD_start : List (Nat × Instr × Nat) := [(0, .aload_n 0, 1), (1, .getfield 68, 3), (4, .ifCond .ne 24, 3), (7, .aload_n 0, 1), (8, .getfield 10, 3), (11, .aload_n 0, 1), (12, .getfield 19, 3), (15, .aload_n 0, 1), (16, .getfield 19, 3), (19, .getfield 127, 3), (22, .invokevirtual 123, 3), (25, .ifCond .ne 13, 3), (28, .new 90, 3), (31, .dup, 1), (32, .ldc 130, 2), (34, .invokespecial 94, 3), (37, .athrow, 1), (38, .aload_n 0, 1), (39, .iconst 1, 1), (40, .putfield 68, 3), (43, .aload_n 0, 1), (44, .getfield 51, 3), (47, .aload_n 0, 1), (48, .getfield 19, 3), (51, .aload_n 0, 1), (52, .getfield 19, 3), (55, .getfield 127, 3), (58, .invokevirtual 132, 3), (61, .return_, 1)]
def i_SD_start : Nat → Option (Instr × Nat) := am_find q_SD_start
theorem d_SD_start_0 : decode b_SD_start 0 = .ok (.aload_n 0, 1) := by decide +kernel
theorem d_SD_start_1 : decode b_SD_start 1 = .ok (.getfield 68, 3) := by decide +kernel
theorem d_SD_start_4 : decode b_SD_start 4 = .ok (.ifCond .ne 24, 3) := by decide +kernel
theorem d_SD_start_7 : decode b_SD_start 7 = .ok (.aload_n 0, 1) := by decide +kernel
theorem d_SD_start_8 : decode b_SD_start 8 = .ok (.getfield 10, 3) := by decide +kernel
theorem d_SD_start_11 : decode b_SD_start 11 = .ok (.aload_n 0, 1) := by decide +kernel
theorem d_SD_start_12 : decode b_SD_start 12 = .ok (.getfield 19, 3) := by decide +kernel
theorem d_SD_start_15 : decode b_SD_start 15 = .ok (.aload_n 0, 1) := by decide +kernel
theorem d_SD_start_16 : decode b_SD_start 16 = .ok (.getfield 19, 3) := by decide +kernel
theorem d_SD_start_19 : decode b_SD_start 19 = .ok (.getfield 127, 3) := by decide +kernel
theorem d_SD_start_22 : decode b_SD_start 22 = .ok (.invokevirtual 123, 3) := by decide +kernel
theorem d_SD_start_25 : decode b_SD_start 25 = .ok (.ifCond .ne 13, 3) := by decide +kernel
theorem d_SD_start_28 : decode b_SD_start 28 = .ok (.new 90, 3) := by decide +kernel
theorem d_SD_start_31 : decode b_SD_start 31 = .ok (.dup, 1) := by decide +kernel
theorem d_SD_start_32 : decode b_SD_start 32 = .ok (.ldc 130, 2) := by decide +kernel
theorem d_SD_start_34 : decode b_SD_start 34 = .ok (.invokespecial 94, 3) := by decide +kernel
theorem d_SD_start_37 : decode b_SD_start 37 = .ok (.athrow, 1) := by decide +kernel
theorem d_SD_start_38 : decode b_SD_start 38 = .ok (.aload_n 0, 1) := by decide +kernel
theorem d_SD_start_39 : decode b_SD_start 39 = .ok (.iconst 1, 1) := by decide +kernel
theorem d_SD_start_40 : decode b_SD_start 40 = .ok (.putfield 68, 3) := by decide +kernel
theorem d_SD_start_43 : decode b_SD_start 43 = .ok (.aload_n 0, 1) := by decide +kernel
theorem d_SD_start_44 : decode b_SD_start 44 = .ok (.getfield 51, 3) := by decide +kernel
theorem d_SD_start_47 : decode b_SD_start 47 = .ok (.aload_n 0, 1) := by decide +kernel
theorem d_SD_start_48 : decode b_SD_start 48 = .ok (.getfield 19, 3) := by decide +kernel
theorem d_SD_start_51 : decode b_SD_start 51 = .ok (.aload_n 0, 1) := by decide +kernel
theorem d_SD_start_52 : decode b_SD_start 52 = .ok (.getfield 19, 3) := by decide +kernel
theorem d_SD_start_55 : decode b_SD_start 55 = .ok (.getfield 127, 3) := by decide +kernel
theorem d_SD_start_58 : decode b_SD_start 58 = .ok (.invokevirtual 132, 3) := by decide +kernel
theorem d_SD_start_61 : decode b_SD_start 61 = .ok (.return_, 1) := by decide +kernel
theorem d_SD_start : ∀ z ∈ q_SD_start, decode b_SD_start z.1 = .ok z.2 := List.forall_mem_cons.mpr ⟨d_SD_start_0, List.forall_mem_cons.mpr ⟨d_SD_start_1, List.forall_mem_cons.mpr ⟨d_SD_start_4, List.forall_mem_cons.mpr ⟨d_SD_start_7, List.forall_mem_cons.mpr ⟨d_SD_start_8, List.forall_mem_cons.mpr ⟨d_SD_start_11, List.forall_mem_cons.mpr ⟨d_SD_start_12, List.forall_mem_cons.mpr ⟨d_SD_start_15, List.forall_mem_cons.mpr ⟨d_SD_start_16, List.forall_mem_cons.mpr ⟨d_SD_start_19, List.forall_mem_cons.mpr ⟨d_SD_start_22, List.forall_mem_cons.mpr ⟨d_SD_start_25, List.forall_mem_cons.mpr ⟨d_SD_start_28, List.forall_mem_cons.mpr ⟨d_SD_start_31, List.forall_mem_cons.mpr ⟨d_SD_start_32, List.forall_mem_cons.mpr ⟨d_SD_start_34, List.forall_mem_cons.mpr ⟨d_SD_start_37, List.forall_mem_cons.mpr ⟨d_SD_start_38, List.forall_mem_cons.mpr ⟨d_SD_start_39, List.forall_mem_cons.mpr ⟨d_SD_start_40, List.forall_mem_cons.mpr ⟨d_SD_start_43, List.forall_mem_cons.mpr ⟨d_SD_start_44, List.forall_mem_cons.mpr ⟨d_SD_start_47, List.forall_mem_cons.mpr ⟨d_SD_start_48, List.forall_mem_cons.mpr ⟨d_SD_start_51, List.forall_mem_cons.mpr ⟨d_SD_start_52, List.forall_mem_cons.mpr ⟨d_SD_start_55, List.forall_mem_cons.mpr ⟨d_SD_start_58, List.forall_mem_cons.mpr ⟨d_SD_start_61, fun _ h => absurd h List.not_mem_nil⟩⟩⟩⟩⟩⟩⟩⟩⟩⟩⟩⟩⟩⟩⟩⟩⟩⟩⟩⟩⟩⟩⟩⟩⟩⟩⟩⟩⟩
theorem i_SD_start_ok : ∀ pc i n, i_SD_start pc = some (i, n) → decode b_SD_start pc = .ok (i, n) := fun pc i n h => d_SD_start (pc, i, n) (am_find_mem h)
theorem i_SD_start_0 : i_SD_start 0 = some (.aload_n 0, 1) := rfl
theorem i_SD_start_1 : i_SD_start 1 = some (.getfield 68, 3) := rfl
theorem i_SD_start_4 : i_SD_start 4 = some (.ifCond .ne 24, 3) := rfl
theorem i_SD_start_7 : i_SD_start 7 = some (.aload_n 0, 1) := rfl
theorem i_SD_start_8 : i_SD_start 8 = some (.getfield 10, 3) := rfl
theorem i_SD_start_11 : i_SD_start 11 = some (.aload_n 0, 1) := rfl
theorem i_SD_start_12 : i_SD_start 12 = some (.getfield 19, 3) := rfl
theorem i_SD_start_15 : i_SD_start 15 = some (.aload_n 0, 1) := rfl
theorem i_SD_start_16 : i_SD_start 16 = some (.getfield 19, 3) := rfl
theorem i_SD_start_19 : i_SD_start 19 = some (.getfield 127, 3) := rfl
theorem i_SD_start_22 : i_SD_start 22 = some (.invokevirtual 123, 3) := rfl
theorem i_SD_start_25 : i_SD_start 25 = some (.ifCond .ne 13, 3) := rfl
theorem i_SD_start_28 : i_SD_start 28 = some (.new 90, 3) := rfl
theorem i_SD_start_31 : i_SD_start 31 = some (.dup, 1) := rfl
theorem i_SD_start_32 : i_SD_start 32 = some (.ldc 130, 2) := rfl
theorem i_SD_start_34 : i_SD_start 34 = some (.invokespecial 94, 3) := rfl
theorem i_SD_start_37 : i_SD_start 37 = some (.athrow, 1) := rfl
theorem i_SD_start_38 : i_SD_start 38 = some (.aload_n 0, 1) := rfl
theorem i_SD_start_39 : i_SD_start 39 = some (.iconst 1, 1) := rfl
theorem i_SD_start_40 : i_SD_start 40 = some (.putfield 68, 3) := rfl
theorem i_SD_start_43 : i_SD_start 43 = some (.aload_n 0, 1) := rfl
theorem i_SD_start_44 : i_SD_start 44 = some (.getfield 51, 3) := rfl
theorem i_SD_start_47 : i_SD_start 47 = some (.aload_n 0, 1) := rfl
theorem i_SD_start_48 : i_SD_start 48 = some (.getfield 19, 3) := rfl
theorem i_SD_start_51 : i_SD_start 51 = some (.aload_n 0, 1) := rfl
theorem i_SD_start_52 : i_SD_start 52 = some (.getfield 19, 3) := rfl
theorem i_SD_start_55 : i_SD_start 55 = some (.getfield 127, 3) := rfl
theorem i_SD_start_58 : i_SD_start 58 = some (.invokevirtual 132, 3) := rfl
theorem i_SD_start_61 : i_SD_start 61 = some (.return_, 1) := rfl
abbrev w_SD_start : List Jvm.Cond := Jvm.Cond.code y_SD_start b_SD_start 1 none :: vw_W
theorem c_SD_start : Jvm.Cond.code y_SD_start b_SD_start 1 none ∈ vw_W := vw_t 549 (by decide +kernel) (by decide +kernel)
abbrev r_SD_start : Room := { frames := 6, cells := 0, slots := 0, locals := 100 }
abbrev b_LW_tick : ByteArray := method_6_code
abbrev y_LW_tick : MethodName := ⟨"ServerDeskLaw", "tick", "(LServerDesk;I[J)I"⟩
def q_LW_tick : List (Nat × Instr × Nat) := [(0, .aload_n 2, 1), (1, .iconst 0, 1), (2, .aload_n 0, 1), (3, .iload_n 1, 1), (4, .invokevirtual 26, 3), (7, .i2l, 1), (8, .lastore, 1), (9, .goto 9, 3), (12, .astore_n 3, 1), (13, .iconst 1, 1), (14, .ireturn, 1), (15, .astore_n 3, 1), (16, .iconst 2, 1), (17, .ireturn, 1), (18, .iconst 0, 1), (19, .ireturn, 1)]
def i_LW_tick : Nat → Option (Instr × Nat) := am_find q_LW_tick
theorem d_LW_tick_0 : decode b_LW_tick 0 = .ok (.aload_n 2, 1) := by decide +kernel
theorem d_LW_tick_1 : decode b_LW_tick 1 = .ok (.iconst 0, 1) := by decide +kernel
theorem d_LW_tick_2 : decode b_LW_tick 2 = .ok (.aload_n 0, 1) := by decide +kernel
theorem d_LW_tick_3 : decode b_LW_tick 3 = .ok (.iload_n 1, 1) := by decide +kernel
theorem d_LW_tick_4 : decode b_LW_tick 4 = .ok (.invokevirtual 26, 3) := by decide +kernel
theorem d_LW_tick_7 : decode b_LW_tick 7 = .ok (.i2l, 1) := by decide +kernel
theorem d_LW_tick_8 : decode b_LW_tick 8 = .ok (.lastore, 1) := by decide +kernel
theorem d_LW_tick_9 : decode b_LW_tick 9 = .ok (.goto 9, 3) := by decide +kernel
theorem d_LW_tick_12 : decode b_LW_tick 12 = .ok (.astore_n 3, 1) := by decide +kernel
theorem d_LW_tick_13 : decode b_LW_tick 13 = .ok (.iconst 1, 1) := by decide +kernel
theorem d_LW_tick_14 : decode b_LW_tick 14 = .ok (.ireturn, 1) := by decide +kernel
theorem d_LW_tick_15 : decode b_LW_tick 15 = .ok (.astore_n 3, 1) := by decide +kernel
theorem d_LW_tick_16 : decode b_LW_tick 16 = .ok (.iconst 2, 1) := by decide +kernel
theorem d_LW_tick_17 : decode b_LW_tick 17 = .ok (.ireturn, 1) := by decide +kernel
theorem d_LW_tick_18 : decode b_LW_tick 18 = .ok (.iconst 0, 1) := by decide +kernel
theorem d_LW_tick_19 : decode b_LW_tick 19 = .ok (.ireturn, 1) := by decide +kernel
theorem d_LW_tick : ∀ z ∈ q_LW_tick, decode b_LW_tick z.1 = .ok z.2 := List.forall_mem_cons.mpr ⟨d_LW_tick_0, List.forall_mem_cons.mpr ⟨d_LW_tick_1, List.forall_mem_cons.mpr ⟨d_LW_tick_2, List.forall_mem_cons.mpr ⟨d_LW_tick_3, List.forall_mem_cons.mpr ⟨d_LW_tick_4, List.forall_mem_cons.mpr ⟨d_LW_tick_7, List.forall_mem_cons.mpr ⟨d_LW_tick_8, List.forall_mem_cons.mpr ⟨d_LW_tick_9, List.forall_mem_cons.mpr ⟨d_LW_tick_12, List.forall_mem_cons.mpr ⟨d_LW_tick_13, List.forall_mem_cons.mpr ⟨d_LW_tick_14, List.forall_mem_cons.mpr ⟨d_LW_tick_15, List.forall_mem_cons.mpr ⟨d_LW_tick_16, List.forall_mem_cons.mpr ⟨d_LW_tick_17, List.forall_mem_cons.mpr ⟨d_LW_tick_18, List.forall_mem_cons.mpr ⟨d_LW_tick_19, fun _ h => absurd h List.not_mem_nil⟩⟩⟩⟩⟩⟩⟩⟩⟩⟩⟩⟩⟩⟩⟩⟩
theorem i_LW_tick_ok : ∀ pc i n, i_LW_tick pc = some (i, n) → decode b_LW_tick pc = .ok (i, n) := fun pc i n h => d_LW_tick (pc, i, n) (am_find_mem h)
theorem i_LW_tick_0 : i_LW_tick 0 = some (.aload_n 2, 1) := rfl
theorem i_LW_tick_1 : i_LW_tick 1 = some (.iconst 0, 1) := rfl
theorem i_LW_tick_2 : i_LW_tick 2 = some (.aload_n 0, 1) := rfl
theorem i_LW_tick_3 : i_LW_tick 3 = some (.iload_n 1, 1) := rfl
theorem i_LW_tick_4 : i_LW_tick 4 = some (.invokevirtual 26, 3) := rfl
theorem i_LW_tick_7 : i_LW_tick 7 = some (.i2l, 1) := rfl
theorem i_LW_tick_8 : i_LW_tick 8 = some (.lastore, 1) := rfl
theorem i_LW_tick_9 : i_LW_tick 9 = some (.goto 9, 3) := rfl
theorem i_LW_tick_12 : i_LW_tick 12 = some (.astore_n 3, 1) := rfl
theorem i_LW_tick_13 : i_LW_tick 13 = some (.iconst 1, 1) := rfl
theorem i_LW_tick_14 : i_LW_tick 14 = some (.ireturn, 1) := rfl
theorem i_LW_tick_15 : i_LW_tick 15 = some (.astore_n 3, 1) := rfl
theorem i_LW_tick_16 : i_LW_tick 16 = some (.iconst 2, 1) := rfl
theorem i_LW_tick_17 : i_LW_tick 17 = some (.ireturn, 1) := rfl
theorem i_LW_tick_18 : i_LW_tick 18 = some (.iconst 0, 1) := rfl
theorem i_LW_tick_19 : i_LW_tick 19 = some (.ireturn, 1) := rfl
abbrev b_SD_tick : ByteArray := prog_1_method_5_code
abbrev y_SD_tick : MethodName := ⟨"ServerDesk", "tick", "(I)I"⟩
def q_SD_tick : List (Nat × Instr × Nat) := [(0, .iload_n 1, 1), (1, .iconst 1, 1), (2, .bipush 100, 2), (4, .invokestatic 76, 3), (7, .ifCond .ne 13, 3), (10, .new 80, 3), (13, .dup, 1), (14, .ldc 136, 2), (16, .invokespecial 84, 3), (19, .athrow, 1), (20, .aload_n 0, 1), (21, .getfield 68, 3), (24, .ifCond .eq 15, 3), (27, .aload_n 0, 1), (28, .getfield 72, 3), (31, .iload_n 1, 1), (32, .iadd, 1), (33, .sipush 2000, 3), (36, .if_icmp .le 13, 3), (39, .new 90, 3), (42, .dup, 1), (43, .ldc 138, 2), (45, .invokespecial 94, 3), (48, .athrow, 1), (49, .iconst 0, 1), (50, .istore_n 2, 1), (51, .iconst 0, 1), (52, .istore_n 3, 1), (53, .iload_n 3, 1), (54, .iload_n 1, 1), (55, .if_icmp .ge 41, 3), (58, .aload_n 0, 1), (59, .getfield 51, 3), (62, .aload_n 0, 1), (63, .getfield 72, 3), (66, .invokevirtual 140, 3), (69, .istore_n 2, 1), (70, .aload_n 0, 1), (71, .getfield 64, 3), (74, .aload_n 0, 1), (75, .getfield 72, 3), (78, .iload_n 2, 1), (79, .iastore, 1), (80, .aload_n 0, 1), (81, .dup, 1), (82, .getfield 72, 3), (85, .iconst 1, 1), (86, .iadd, 1), (87, .putfield 72, 3), (90, .iinc 3 1, 3), (93, .goto (-40), 3), (96, .iload_n 2, 1), (97, .ireturn, 1)]
def i_SD_tick : Nat → Option (Instr × Nat) := am_find q_SD_tick
theorem d_SD_tick_0 : decode b_SD_tick 0 = .ok (.iload_n 1, 1) := by decide +kernel
theorem d_SD_tick_1 : decode b_SD_tick 1 = .ok (.iconst 1, 1) := by decide +kernel
theorem d_SD_tick_2 : decode b_SD_tick 2 = .ok (.bipush 100, 2) := by decide +kernel
theorem d_SD_tick_4 : decode b_SD_tick 4 = .ok (.invokestatic 76, 3) := by decide +kernel
theorem d_SD_tick_7 : decode b_SD_tick 7 = .ok (.ifCond .ne 13, 3) := by decide +kernel
theorem d_SD_tick_10 : decode b_SD_tick 10 = .ok (.new 80, 3) := by decide +kernel
theorem d_SD_tick_13 : decode b_SD_tick 13 = .ok (.dup, 1) := by decide +kernel
theorem d_SD_tick_14 : decode b_SD_tick 14 = .ok (.ldc 136, 2) := by decide +kernel
theorem d_SD_tick_16 : decode b_SD_tick 16 = .ok (.invokespecial 84, 3) := by decide +kernel
theorem d_SD_tick_19 : decode b_SD_tick 19 = .ok (.athrow, 1) := by decide +kernel
theorem d_SD_tick_20 : decode b_SD_tick 20 = .ok (.aload_n 0, 1) := by decide +kernel
theorem d_SD_tick_21 : decode b_SD_tick 21 = .ok (.getfield 68, 3) := by decide +kernel
theorem d_SD_tick_24 : decode b_SD_tick 24 = .ok (.ifCond .eq 15, 3) := by decide +kernel
theorem d_SD_tick_27 : decode b_SD_tick 27 = .ok (.aload_n 0, 1) := by decide +kernel
theorem d_SD_tick_28 : decode b_SD_tick 28 = .ok (.getfield 72, 3) := by decide +kernel
theorem d_SD_tick_31 : decode b_SD_tick 31 = .ok (.iload_n 1, 1) := by decide +kernel
theorem d_SD_tick_32 : decode b_SD_tick 32 = .ok (.iadd, 1) := by decide +kernel
theorem d_SD_tick_33 : decode b_SD_tick 33 = .ok (.sipush 2000, 3) := by decide +kernel
theorem d_SD_tick_36 : decode b_SD_tick 36 = .ok (.if_icmp .le 13, 3) := by decide +kernel
theorem d_SD_tick_39 : decode b_SD_tick 39 = .ok (.new 90, 3) := by decide +kernel
theorem d_SD_tick_42 : decode b_SD_tick 42 = .ok (.dup, 1) := by decide +kernel
theorem d_SD_tick_43 : decode b_SD_tick 43 = .ok (.ldc 138, 2) := by decide +kernel
theorem d_SD_tick_45 : decode b_SD_tick 45 = .ok (.invokespecial 94, 3) := by decide +kernel
theorem d_SD_tick_48 : decode b_SD_tick 48 = .ok (.athrow, 1) := by decide +kernel
theorem d_SD_tick_49 : decode b_SD_tick 49 = .ok (.iconst 0, 1) := by decide +kernel
theorem d_SD_tick_50 : decode b_SD_tick 50 = .ok (.istore_n 2, 1) := by decide +kernel
theorem d_SD_tick_51 : decode b_SD_tick 51 = .ok (.iconst 0, 1) := by decide +kernel
theorem d_SD_tick_52 : decode b_SD_tick 52 = .ok (.istore_n 3, 1) := by decide +kernel
theorem d_SD_tick_53 : decode b_SD_tick 53 = .ok (.iload_n 3, 1) := by decide +kernel
theorem d_SD_tick_54 : decode b_SD_tick 54 = .ok (.iload_n 1, 1) := by decide +kernel
theorem d_SD_tick_55 : decode b_SD_tick 55 = .ok (.if_icmp .ge 41, 3) := by decide +kernel
theorem d_SD_tick_58 : decode b_SD_tick 58 = .ok (.aload_n 0, 1) := by decide +kernel
theorem d_SD_tick_59 : decode b_SD_tick 59 = .ok (.getfield 51, 3) := by decide +kernel
theorem d_SD_tick_62 : decode b_SD_tick 62 = .ok (.aload_n 0, 1) := by decide +kernel
theorem d_SD_tick_63 : decode b_SD_tick 63 = .ok (.getfield 72, 3) := by decide +kernel
theorem d_SD_tick_66 : decode b_SD_tick 66 = .ok (.invokevirtual 140, 3) := by decide +kernel
theorem d_SD_tick_69 : decode b_SD_tick 69 = .ok (.istore_n 2, 1) := by decide +kernel
theorem d_SD_tick_70 : decode b_SD_tick 70 = .ok (.aload_n 0, 1) := by decide +kernel
theorem d_SD_tick_71 : decode b_SD_tick 71 = .ok (.getfield 64, 3) := by decide +kernel
theorem d_SD_tick_74 : decode b_SD_tick 74 = .ok (.aload_n 0, 1) := by decide +kernel
theorem d_SD_tick_75 : decode b_SD_tick 75 = .ok (.getfield 72, 3) := by decide +kernel
theorem d_SD_tick_78 : decode b_SD_tick 78 = .ok (.iload_n 2, 1) := by decide +kernel
theorem d_SD_tick_79 : decode b_SD_tick 79 = .ok (.iastore, 1) := by decide +kernel
theorem d_SD_tick_80 : decode b_SD_tick 80 = .ok (.aload_n 0, 1) := by decide +kernel
theorem d_SD_tick_81 : decode b_SD_tick 81 = .ok (.dup, 1) := by decide +kernel
theorem d_SD_tick_82 : decode b_SD_tick 82 = .ok (.getfield 72, 3) := by decide +kernel
theorem d_SD_tick_85 : decode b_SD_tick 85 = .ok (.iconst 1, 1) := by decide +kernel
theorem d_SD_tick_86 : decode b_SD_tick 86 = .ok (.iadd, 1) := by decide +kernel
theorem d_SD_tick_87 : decode b_SD_tick 87 = .ok (.putfield 72, 3) := by decide +kernel
theorem d_SD_tick_90 : decode b_SD_tick 90 = .ok (.iinc 3 1, 3) := by decide +kernel
theorem d_SD_tick_93 : decode b_SD_tick 93 = .ok (.goto (-40), 3) := by decide +kernel
theorem d_SD_tick_96 : decode b_SD_tick 96 = .ok (.iload_n 2, 1) := by decide +kernel
theorem d_SD_tick_97 : decode b_SD_tick 97 = .ok (.ireturn, 1) := by decide +kernel
theorem d_SD_tick : ∀ z ∈ q_SD_tick, decode b_SD_tick z.1 = .ok z.2 := List.forall_mem_cons.mpr ⟨d_SD_tick_0, List.forall_mem_cons.mpr ⟨d_SD_tick_1, List.forall_mem_cons.mpr ⟨d_SD_tick_2, List.forall_mem_cons.mpr ⟨d_SD_tick_4, List.forall_mem_cons.mpr ⟨d_SD_tick_7, List.forall_mem_cons.mpr ⟨d_SD_tick_10, List.forall_mem_cons.mpr ⟨d_SD_tick_13, List.forall_mem_cons.mpr ⟨d_SD_tick_14, List.forall_mem_cons.mpr ⟨d_SD_tick_16, List.forall_mem_cons.mpr ⟨d_SD_tick_19, List.forall_mem_cons.mpr ⟨d_SD_tick_20, List.forall_mem_cons.mpr ⟨d_SD_tick_21, List.forall_mem_cons.mpr ⟨d_SD_tick_24, List.forall_mem_cons.mpr ⟨d_SD_tick_27, List.forall_mem_cons.mpr ⟨d_SD_tick_28, List.forall_mem_cons.mpr ⟨d_SD_tick_31, List.forall_mem_cons.mpr ⟨d_SD_tick_32, List.forall_mem_cons.mpr ⟨d_SD_tick_33, List.forall_mem_cons.mpr ⟨d_SD_tick_36, List.forall_mem_cons.mpr ⟨d_SD_tick_39, List.forall_mem_cons.mpr ⟨d_SD_tick_42, List.forall_mem_cons.mpr ⟨d_SD_tick_43, List.forall_mem_cons.mpr ⟨d_SD_tick_45, List.forall_mem_cons.mpr ⟨d_SD_tick_48, List.forall_mem_cons.mpr ⟨d_SD_tick_49, List.forall_mem_cons.mpr ⟨d_SD_tick_50, List.forall_mem_cons.mpr ⟨d_SD_tick_51, List.forall_mem_cons.mpr ⟨d_SD_tick_52, List.forall_mem_cons.mpr ⟨d_SD_tick_53, List.forall_mem_cons.mpr ⟨d_SD_tick_54, List.forall_mem_cons.mpr ⟨d_SD_tick_55, List.forall_mem_cons.mpr ⟨d_SD_tick_58, List.forall_mem_cons.mpr ⟨d_SD_tick_59, List.forall_mem_cons.mpr ⟨d_SD_tick_62, List.forall_mem_cons.mpr ⟨d_SD_tick_63, List.forall_mem_cons.mpr ⟨d_SD_tick_66, List.forall_mem_cons.mpr ⟨d_SD_tick_69, List.forall_mem_cons.mpr ⟨d_SD_tick_70, List.forall_mem_cons.mpr ⟨d_SD_tick_71, List.forall_mem_cons.mpr ⟨d_SD_tick_74, List.forall_mem_cons.mpr ⟨d_SD_tick_75, List.forall_mem_cons.mpr ⟨d_SD_tick_78, List.forall_mem_cons.mpr ⟨d_SD_tick_79, List.forall_mem_cons.mpr ⟨d_SD_tick_80, List.forall_mem_cons.mpr ⟨d_SD_tick_81, List.forall_mem_cons.mpr ⟨d_SD_tick_82, List.forall_mem_cons.mpr ⟨d_SD_tick_85, List.forall_mem_cons.mpr ⟨d_SD_tick_86, List.forall_mem_cons.mpr ⟨d_SD_tick_87, List.forall_mem_cons.mpr ⟨d_SD_tick_90, List.forall_mem_cons.mpr ⟨d_SD_tick_93, List.forall_mem_cons.mpr ⟨d_SD_tick_96, List.forall_mem_cons.mpr ⟨d_SD_tick_97, fun _ h => absurd h List.not_mem_nil⟩⟩⟩⟩⟩⟩⟩⟩⟩⟩⟩⟩⟩⟩⟩⟩⟩⟩⟩⟩⟩⟩⟩⟩⟩⟩⟩⟩⟩⟩⟩⟩⟩⟩⟩⟩⟩⟩⟩⟩⟩⟩⟩⟩⟩⟩⟩⟩⟩⟩⟩⟩⟩
theorem i_SD_tick_ok : ∀ pc i n, i_SD_tick pc = some (i, n) → decode b_SD_tick pc = .ok (i, n) := fun pc i n h => d_SD_tick (pc, i, n) (am_find_mem h)
theorem i_SD_tick_0 : i_SD_tick 0 = some (.iload_n 1, 1) := rfl
theorem i_SD_tick_1 : i_SD_tick 1 = some (.iconst 1, 1) := rfl
theorem i_SD_tick_2 : i_SD_tick 2 = some (.bipush 100, 2) := rfl
theorem i_SD_tick_4 : i_SD_tick 4 = some (.invokestatic 76, 3) := rfl
theorem i_SD_tick_7 : i_SD_tick 7 = some (.ifCond .ne 13, 3) := rfl
theorem i_SD_tick_10 : i_SD_tick 10 = some (.new 80, 3) := rfl
theorem i_SD_tick_13 : i_SD_tick 13 = some (.dup, 1) := rfl
theorem i_SD_tick_14 : i_SD_tick 14 = some (.ldc 136, 2) := rfl
theorem i_SD_tick_16 : i_SD_tick 16 = some (.invokespecial 84, 3) := rfl
theorem i_SD_tick_19 : i_SD_tick 19 = some (.athrow, 1) := rfl
theorem i_SD_tick_20 : i_SD_tick 20 = some (.aload_n 0, 1) := rfl
theorem i_SD_tick_21 : i_SD_tick 21 = some (.getfield 68, 3) := rfl
theorem i_SD_tick_24 : i_SD_tick 24 = some (.ifCond .eq 15, 3) := rfl
theorem i_SD_tick_27 : i_SD_tick 27 = some (.aload_n 0, 1) := rfl
theorem i_SD_tick_28 : i_SD_tick 28 = some (.getfield 72, 3) := rfl
theorem i_SD_tick_31 : i_SD_tick 31 = some (.iload_n 1, 1) := rfl
theorem i_SD_tick_32 : i_SD_tick 32 = some (.iadd, 1) := rfl
theorem i_SD_tick_33 : i_SD_tick 33 = some (.sipush 2000, 3) := rfl
theorem i_SD_tick_36 : i_SD_tick 36 = some (.if_icmp .le 13, 3) := rfl
theorem i_SD_tick_39 : i_SD_tick 39 = some (.new 90, 3) := rfl
theorem i_SD_tick_42 : i_SD_tick 42 = some (.dup, 1) := rfl
theorem i_SD_tick_43 : i_SD_tick 43 = some (.ldc 138, 2) := rfl
theorem i_SD_tick_45 : i_SD_tick 45 = some (.invokespecial 94, 3) := rfl
theorem i_SD_tick_48 : i_SD_tick 48 = some (.athrow, 1) := rfl
theorem i_SD_tick_49 : i_SD_tick 49 = some (.iconst 0, 1) := rfl
theorem i_SD_tick_50 : i_SD_tick 50 = some (.istore_n 2, 1) := rfl
theorem i_SD_tick_51 : i_SD_tick 51 = some (.iconst 0, 1) := rfl
theorem i_SD_tick_52 : i_SD_tick 52 = some (.istore_n 3, 1) := rfl
theorem i_SD_tick_53 : i_SD_tick 53 = some (.iload_n 3, 1) := rfl
theorem i_SD_tick_54 : i_SD_tick 54 = some (.iload_n 1, 1) := rfl
theorem i_SD_tick_55 : i_SD_tick 55 = some (.if_icmp .ge 41, 3) := rfl
theorem i_SD_tick_58 : i_SD_tick 58 = some (.aload_n 0, 1) := rfl
theorem i_SD_tick_59 : i_SD_tick 59 = some (.getfield 51, 3) := rfl
theorem i_SD_tick_62 : i_SD_tick 62 = some (.aload_n 0, 1) := rfl
theorem i_SD_tick_63 : i_SD_tick 63 = some (.getfield 72, 3) := rfl
theorem i_SD_tick_66 : i_SD_tick 66 = some (.invokevirtual 140, 3) := rfl
theorem i_SD_tick_69 : i_SD_tick 69 = some (.istore_n 2, 1) := rfl
theorem i_SD_tick_70 : i_SD_tick 70 = some (.aload_n 0, 1) := rfl
theorem i_SD_tick_71 : i_SD_tick 71 = some (.getfield 64, 3) := rfl
theorem i_SD_tick_74 : i_SD_tick 74 = some (.aload_n 0, 1) := rfl
theorem i_SD_tick_75 : i_SD_tick 75 = some (.getfield 72, 3) := rfl
theorem i_SD_tick_78 : i_SD_tick 78 = some (.iload_n 2, 1) := rfl
theorem i_SD_tick_79 : i_SD_tick 79 = some (.iastore, 1) := rfl
theorem i_SD_tick_80 : i_SD_tick 80 = some (.aload_n 0, 1) := rfl
theorem i_SD_tick_81 : i_SD_tick 81 = some (.dup, 1) := rfl
theorem i_SD_tick_82 : i_SD_tick 82 = some (.getfield 72, 3) := rfl
theorem i_SD_tick_85 : i_SD_tick 85 = some (.iconst 1, 1) := rfl
theorem i_SD_tick_86 : i_SD_tick 86 = some (.iadd, 1) := rfl
theorem i_SD_tick_87 : i_SD_tick 87 = some (.putfield 72, 3) := rfl
theorem i_SD_tick_90 : i_SD_tick 90 = some (.iinc 3 1, 3) := rfl
theorem i_SD_tick_93 : i_SD_tick 93 = some (.goto (-40), 3) := rfl
theorem i_SD_tick_96 : i_SD_tick 96 = some (.iload_n 2, 1) := rfl
theorem i_SD_tick_97 : i_SD_tick 97 = some (.ireturn, 1) := rfl
abbrev w_SD_tick : List Jvm.Cond := Jvm.Cond.code y_SD_tick b_SD_tick 4 (some .int) :: vw_W
theorem c_SD_tick : Jvm.Cond.code y_SD_tick b_SD_tick 4 (some .int) ∈ vw_W := vw_t 557 (by decide +kernel) (by decide +kernel)
abbrev r_SD_tick : Room := { frames := 6, cells := 0, slots := 0, locals := 120 }
abbrev b_CO_step : ByteArray := prog_3_method_3_code
abbrev y_CO_step : MethodName := ⟨"ServerDesk$Course", "step", "(I)I"⟩
def q_CO_step : List (Nat × Instr × Nat) := [(0, .aload_n 0, 1), (1, .getfield 47, 3), (4, .iload_n 1, 1), (5, .invokevirtual 58, 3), (8, .aload_n 0, 1), (9, .getfield 31, 3), (12, .iload_n 1, 1), (13, .invokevirtual 62, 3), (16, .aload_n 0, 1), (17, .iload_n 1, 1), (18, .invokevirtual 65, 3), (21, .istore_n 2, 1), (22, .aload_n 0, 1), (23, .dup, 1), (24, .getfield 15, 3), (27, .aload_n 0, 1), (28, .getfield 31, 3), (31, .iload_n 1, 1), (32, .iconst 1, 1), (33, .iadd, 1), (34, .invokevirtual 69, 3), (37, .iadd, 1), (38, .putfield 15, 3), (41, .iload_n 2, 1), (42, .ireturn, 1)]
def i_CO_step : Nat → Option (Instr × Nat) := am_find q_CO_step
theorem d_CO_step_0 : decode b_CO_step 0 = .ok (.aload_n 0, 1) := by decide +kernel
theorem d_CO_step_1 : decode b_CO_step 1 = .ok (.getfield 47, 3) := by decide +kernel
theorem d_CO_step_4 : decode b_CO_step 4 = .ok (.iload_n 1, 1) := by decide +kernel
theorem d_CO_step_5 : decode b_CO_step 5 = .ok (.invokevirtual 58, 3) := by decide +kernel
theorem d_CO_step_8 : decode b_CO_step 8 = .ok (.aload_n 0, 1) := by decide +kernel
theorem d_CO_step_9 : decode b_CO_step 9 = .ok (.getfield 31, 3) := by decide +kernel
theorem d_CO_step_12 : decode b_CO_step 12 = .ok (.iload_n 1, 1) := by decide +kernel
theorem d_CO_step_13 : decode b_CO_step 13 = .ok (.invokevirtual 62, 3) := by decide +kernel
theorem d_CO_step_16 : decode b_CO_step 16 = .ok (.aload_n 0, 1) := by decide +kernel
theorem d_CO_step_17 : decode b_CO_step 17 = .ok (.iload_n 1, 1) := by decide +kernel
theorem d_CO_step_18 : decode b_CO_step 18 = .ok (.invokevirtual 65, 3) := by decide +kernel
theorem d_CO_step_21 : decode b_CO_step 21 = .ok (.istore_n 2, 1) := by decide +kernel
theorem d_CO_step_22 : decode b_CO_step 22 = .ok (.aload_n 0, 1) := by decide +kernel
theorem d_CO_step_23 : decode b_CO_step 23 = .ok (.dup, 1) := by decide +kernel
theorem d_CO_step_24 : decode b_CO_step 24 = .ok (.getfield 15, 3) := by decide +kernel
theorem d_CO_step_27 : decode b_CO_step 27 = .ok (.aload_n 0, 1) := by decide +kernel
theorem d_CO_step_28 : decode b_CO_step 28 = .ok (.getfield 31, 3) := by decide +kernel
theorem d_CO_step_31 : decode b_CO_step 31 = .ok (.iload_n 1, 1) := by decide +kernel
theorem d_CO_step_32 : decode b_CO_step 32 = .ok (.iconst 1, 1) := by decide +kernel
theorem d_CO_step_33 : decode b_CO_step 33 = .ok (.iadd, 1) := by decide +kernel
theorem d_CO_step_34 : decode b_CO_step 34 = .ok (.invokevirtual 69, 3) := by decide +kernel
theorem d_CO_step_37 : decode b_CO_step 37 = .ok (.iadd, 1) := by decide +kernel
theorem d_CO_step_38 : decode b_CO_step 38 = .ok (.putfield 15, 3) := by decide +kernel
theorem d_CO_step_41 : decode b_CO_step 41 = .ok (.iload_n 2, 1) := by decide +kernel
theorem d_CO_step_42 : decode b_CO_step 42 = .ok (.ireturn, 1) := by decide +kernel
theorem d_CO_step : ∀ z ∈ q_CO_step, decode b_CO_step z.1 = .ok z.2 := List.forall_mem_cons.mpr ⟨d_CO_step_0, List.forall_mem_cons.mpr ⟨d_CO_step_1, List.forall_mem_cons.mpr ⟨d_CO_step_4, List.forall_mem_cons.mpr ⟨d_CO_step_5, List.forall_mem_cons.mpr ⟨d_CO_step_8, List.forall_mem_cons.mpr ⟨d_CO_step_9, List.forall_mem_cons.mpr ⟨d_CO_step_12, List.forall_mem_cons.mpr ⟨d_CO_step_13, List.forall_mem_cons.mpr ⟨d_CO_step_16, List.forall_mem_cons.mpr ⟨d_CO_step_17, List.forall_mem_cons.mpr ⟨d_CO_step_18, List.forall_mem_cons.mpr ⟨d_CO_step_21, List.forall_mem_cons.mpr ⟨d_CO_step_22, List.forall_mem_cons.mpr ⟨d_CO_step_23, List.forall_mem_cons.mpr ⟨d_CO_step_24, List.forall_mem_cons.mpr ⟨d_CO_step_27, List.forall_mem_cons.mpr ⟨d_CO_step_28, List.forall_mem_cons.mpr ⟨d_CO_step_31, List.forall_mem_cons.mpr ⟨d_CO_step_32, List.forall_mem_cons.mpr ⟨d_CO_step_33, List.forall_mem_cons.mpr ⟨d_CO_step_34, List.forall_mem_cons.mpr ⟨d_CO_step_37, List.forall_mem_cons.mpr ⟨d_CO_step_38, List.forall_mem_cons.mpr ⟨d_CO_step_41, List.forall_mem_cons.mpr ⟨d_CO_step_42, fun _ h => absurd h List.not_mem_nil⟩⟩⟩⟩⟩⟩⟩⟩⟩⟩⟩⟩⟩⟩⟩⟩⟩⟩⟩⟩⟩⟩⟩⟩⟩
theorem i_CO_step_ok : ∀ pc i n, i_CO_step pc = some (i, n) → decode b_CO_step pc = .ok (i, n) := fun pc i n h => d_CO_step (pc, i, n) (am_find_mem h)
theorem i_CO_step_0 : i_CO_step 0 = some (.aload_n 0, 1) := rfl
theorem i_CO_step_1 : i_CO_step 1 = some (.getfield 47, 3) := rfl
theorem i_CO_step_4 : i_CO_step 4 = some (.iload_n 1, 1) := rfl
theorem i_CO_step_5 : i_CO_step 5 = some (.invokevirtual 58, 3) := rfl
theorem i_CO_step_8 : i_CO_step 8 = some (.aload_n 0, 1) := rfl
theorem i_CO_step_9 : i_CO_step 9 = some (.getfield 31, 3) := rfl
theorem i_CO_step_12 : i_CO_step 12 = some (.iload_n 1, 1) := rfl
theorem i_CO_step_13 : i_CO_step 13 = some (.invokevirtual 62, 3) := rfl
theorem i_CO_step_16 : i_CO_step 16 = some (.aload_n 0, 1) := rfl
theorem i_CO_step_17 : i_CO_step 17 = some (.iload_n 1, 1) := rfl
theorem i_CO_step_18 : i_CO_step 18 = some (.invokevirtual 65, 3) := rfl
theorem i_CO_step_21 : i_CO_step 21 = some (.istore_n 2, 1) := rfl
theorem i_CO_step_22 : i_CO_step 22 = some (.aload_n 0, 1) := rfl
theorem i_CO_step_23 : i_CO_step 23 = some (.dup, 1) := rfl
theorem i_CO_step_24 : i_CO_step 24 = some (.getfield 15, 3) := rfl
theorem i_CO_step_27 : i_CO_step 27 = some (.aload_n 0, 1) := rfl
theorem i_CO_step_28 : i_CO_step 28 = some (.getfield 31, 3) := rfl
theorem i_CO_step_31 : i_CO_step 31 = some (.iload_n 1, 1) := rfl
theorem i_CO_step_32 : i_CO_step 32 = some (.iconst 1, 1) := rfl
theorem i_CO_step_33 : i_CO_step 33 = some (.iadd, 1) := rfl
theorem i_CO_step_34 : i_CO_step 34 = some (.invokevirtual 69, 3) := rfl
theorem i_CO_step_37 : i_CO_step 37 = some (.iadd, 1) := rfl
theorem i_CO_step_38 : i_CO_step 38 = some (.putfield 15, 3) := rfl
theorem i_CO_step_41 : i_CO_step 41 = some (.iload_n 2, 1) := rfl
theorem i_CO_step_42 : i_CO_step 42 = some (.ireturn, 1) := rfl
abbrev w_CO_step : List Jvm.Cond := Jvm.Cond.code y_CO_step b_CO_step 3 (some .int) :: vw_W
theorem c_CO_step : Jvm.Cond.code y_CO_step b_CO_step 3 (some .int) ∈ vw_W := vw_t 563 (by decide +kernel) (by decide +kernel)
abbrev r_CO_step : Room := { frames := 4, cells := 0, slots := 0, locals := 98 }
abbrev b_BU_comeBack : ByteArray := prog_2_method_3_code
abbrev y_BU_comeBack : MethodName := ⟨"ServerDesk$Budget", "comeBack", "(I)V"⟩
def q_BU_comeBack : List (Nat × Instr × Nat) := [(0, .aload_n 0, 1), (1, .iload_n 1, 1), (2, .invokevirtual 45, 3), (5, .istore_n 2, 1), (6, .aload_n 0, 1), (7, .getfield 15, 3), (10, .iconst 1, 1), (11, .if_icmp .ne 18, 3), (14, .iload_n 2, 1), (15, .ifCond .ne 14, 3), (18, .aload_n 0, 1), (19, .aload_n 0, 1), (20, .getfield 19, 3), (23, .putfield 25, 3), (26, .goto 33, 3), (29, .aload_n 0, 1), (30, .getfield 15, 3), (33, .iconst 2, 1), (34, .if_icmp .ne 25, 3), (37, .aload_n 0, 1), (38, .dup, 1), (39, .getfield 25, 3), (42, .aload_n 0, 1), (43, .getfield 9, 3), (46, .iload_n 2, 1), (47, .iaload, 1), (48, .iadd, 1), (49, .putfield 25, 3), (52, .aload_n 0, 1), (53, .getfield 9, 3), (56, .iload_n 2, 1), (57, .iconst 0, 1), (58, .iastore, 1), (59, .return_, 1)]
def i_BU_comeBack : Nat → Option (Instr × Nat) := am_find q_BU_comeBack
theorem d_BU_comeBack_0 : decode b_BU_comeBack 0 = .ok (.aload_n 0, 1) := by decide +kernel
theorem d_BU_comeBack_1 : decode b_BU_comeBack 1 = .ok (.iload_n 1, 1) := by decide +kernel
theorem d_BU_comeBack_2 : decode b_BU_comeBack 2 = .ok (.invokevirtual 45, 3) := by decide +kernel
theorem d_BU_comeBack_5 : decode b_BU_comeBack 5 = .ok (.istore_n 2, 1) := by decide +kernel
theorem d_BU_comeBack_6 : decode b_BU_comeBack 6 = .ok (.aload_n 0, 1) := by decide +kernel
theorem d_BU_comeBack_7 : decode b_BU_comeBack 7 = .ok (.getfield 15, 3) := by decide +kernel
theorem d_BU_comeBack_10 : decode b_BU_comeBack 10 = .ok (.iconst 1, 1) := by decide +kernel
theorem d_BU_comeBack_11 : decode b_BU_comeBack 11 = .ok (.if_icmp .ne 18, 3) := by decide +kernel
theorem d_BU_comeBack_14 : decode b_BU_comeBack 14 = .ok (.iload_n 2, 1) := by decide +kernel
theorem d_BU_comeBack_15 : decode b_BU_comeBack 15 = .ok (.ifCond .ne 14, 3) := by decide +kernel
theorem d_BU_comeBack_18 : decode b_BU_comeBack 18 = .ok (.aload_n 0, 1) := by decide +kernel
theorem d_BU_comeBack_19 : decode b_BU_comeBack 19 = .ok (.aload_n 0, 1) := by decide +kernel
theorem d_BU_comeBack_20 : decode b_BU_comeBack 20 = .ok (.getfield 19, 3) := by decide +kernel
theorem d_BU_comeBack_23 : decode b_BU_comeBack 23 = .ok (.putfield 25, 3) := by decide +kernel
theorem d_BU_comeBack_26 : decode b_BU_comeBack 26 = .ok (.goto 33, 3) := by decide +kernel
theorem d_BU_comeBack_29 : decode b_BU_comeBack 29 = .ok (.aload_n 0, 1) := by decide +kernel
theorem d_BU_comeBack_30 : decode b_BU_comeBack 30 = .ok (.getfield 15, 3) := by decide +kernel
theorem d_BU_comeBack_33 : decode b_BU_comeBack 33 = .ok (.iconst 2, 1) := by decide +kernel
theorem d_BU_comeBack_34 : decode b_BU_comeBack 34 = .ok (.if_icmp .ne 25, 3) := by decide +kernel
theorem d_BU_comeBack_37 : decode b_BU_comeBack 37 = .ok (.aload_n 0, 1) := by decide +kernel
theorem d_BU_comeBack_38 : decode b_BU_comeBack 38 = .ok (.dup, 1) := by decide +kernel
theorem d_BU_comeBack_39 : decode b_BU_comeBack 39 = .ok (.getfield 25, 3) := by decide +kernel
theorem d_BU_comeBack_42 : decode b_BU_comeBack 42 = .ok (.aload_n 0, 1) := by decide +kernel
theorem d_BU_comeBack_43 : decode b_BU_comeBack 43 = .ok (.getfield 9, 3) := by decide +kernel
theorem d_BU_comeBack_46 : decode b_BU_comeBack 46 = .ok (.iload_n 2, 1) := by decide +kernel
theorem d_BU_comeBack_47 : decode b_BU_comeBack 47 = .ok (.iaload, 1) := by decide +kernel
theorem d_BU_comeBack_48 : decode b_BU_comeBack 48 = .ok (.iadd, 1) := by decide +kernel
theorem d_BU_comeBack_49 : decode b_BU_comeBack 49 = .ok (.putfield 25, 3) := by decide +kernel
theorem d_BU_comeBack_52 : decode b_BU_comeBack 52 = .ok (.aload_n 0, 1) := by decide +kernel
theorem d_BU_comeBack_53 : decode b_BU_comeBack 53 = .ok (.getfield 9, 3) := by decide +kernel
theorem d_BU_comeBack_56 : decode b_BU_comeBack 56 = .ok (.iload_n 2, 1) := by decide +kernel
theorem d_BU_comeBack_57 : decode b_BU_comeBack 57 = .ok (.iconst 0, 1) := by decide +kernel
theorem d_BU_comeBack_58 : decode b_BU_comeBack 58 = .ok (.iastore, 1) := by decide +kernel
theorem d_BU_comeBack_59 : decode b_BU_comeBack 59 = .ok (.return_, 1) := by decide +kernel
theorem d_BU_comeBack : ∀ z ∈ q_BU_comeBack, decode b_BU_comeBack z.1 = .ok z.2 := List.forall_mem_cons.mpr ⟨d_BU_comeBack_0, List.forall_mem_cons.mpr ⟨d_BU_comeBack_1, List.forall_mem_cons.mpr ⟨d_BU_comeBack_2, List.forall_mem_cons.mpr ⟨d_BU_comeBack_5, List.forall_mem_cons.mpr ⟨d_BU_comeBack_6, List.forall_mem_cons.mpr ⟨d_BU_comeBack_7, List.forall_mem_cons.mpr ⟨d_BU_comeBack_10, List.forall_mem_cons.mpr ⟨d_BU_comeBack_11, List.forall_mem_cons.mpr ⟨d_BU_comeBack_14, List.forall_mem_cons.mpr ⟨d_BU_comeBack_15, List.forall_mem_cons.mpr ⟨d_BU_comeBack_18, List.forall_mem_cons.mpr ⟨d_BU_comeBack_19, List.forall_mem_cons.mpr ⟨d_BU_comeBack_20, List.forall_mem_cons.mpr ⟨d_BU_comeBack_23, List.forall_mem_cons.mpr ⟨d_BU_comeBack_26, List.forall_mem_cons.mpr ⟨d_BU_comeBack_29, List.forall_mem_cons.mpr ⟨d_BU_comeBack_30, List.forall_mem_cons.mpr ⟨d_BU_comeBack_33, List.forall_mem_cons.mpr ⟨d_BU_comeBack_34, List.forall_mem_cons.mpr ⟨d_BU_comeBack_37, List.forall_mem_cons.mpr ⟨d_BU_comeBack_38, List.forall_mem_cons.mpr ⟨d_BU_comeBack_39, List.forall_mem_cons.mpr ⟨d_BU_comeBack_42, List.forall_mem_cons.mpr ⟨d_BU_comeBack_43, List.forall_mem_cons.mpr ⟨d_BU_comeBack_46, List.forall_mem_cons.mpr ⟨d_BU_comeBack_47, List.forall_mem_cons.mpr ⟨d_BU_comeBack_48, List.forall_mem_cons.mpr ⟨d_BU_comeBack_49, List.forall_mem_cons.mpr ⟨d_BU_comeBack_52, List.forall_mem_cons.mpr ⟨d_BU_comeBack_53, List.forall_mem_cons.mpr ⟨d_BU_comeBack_56, List.forall_mem_cons.mpr ⟨d_BU_comeBack_57, List.forall_mem_cons.mpr ⟨d_BU_comeBack_58, List.forall_mem_cons.mpr ⟨d_BU_comeBack_59, fun _ h => absurd h List.not_mem_nil⟩⟩⟩⟩⟩⟩⟩⟩⟩⟩⟩⟩⟩⟩⟩⟩⟩⟩⟩⟩⟩⟩⟩⟩⟩⟩⟩⟩⟩⟩⟩⟩⟩⟩
theorem i_BU_comeBack_ok : ∀ pc i n, i_BU_comeBack pc = some (i, n) → decode b_BU_comeBack pc = .ok (i, n) := fun pc i n h => d_BU_comeBack (pc, i, n) (am_find_mem h)
theorem i_BU_comeBack_0 : i_BU_comeBack 0 = some (.aload_n 0, 1) := rfl
theorem i_BU_comeBack_1 : i_BU_comeBack 1 = some (.iload_n 1, 1) := rfl
theorem i_BU_comeBack_2 : i_BU_comeBack 2 = some (.invokevirtual 45, 3) := rfl
theorem i_BU_comeBack_5 : i_BU_comeBack 5 = some (.istore_n 2, 1) := rfl
theorem i_BU_comeBack_6 : i_BU_comeBack 6 = some (.aload_n 0, 1) := rfl
theorem i_BU_comeBack_7 : i_BU_comeBack 7 = some (.getfield 15, 3) := rfl
theorem i_BU_comeBack_10 : i_BU_comeBack 10 = some (.iconst 1, 1) := rfl
theorem i_BU_comeBack_11 : i_BU_comeBack 11 = some (.if_icmp .ne 18, 3) := rfl
theorem i_BU_comeBack_14 : i_BU_comeBack 14 = some (.iload_n 2, 1) := rfl
theorem i_BU_comeBack_15 : i_BU_comeBack 15 = some (.ifCond .ne 14, 3) := rfl
theorem i_BU_comeBack_18 : i_BU_comeBack 18 = some (.aload_n 0, 1) := rfl
theorem i_BU_comeBack_19 : i_BU_comeBack 19 = some (.aload_n 0, 1) := rfl
theorem i_BU_comeBack_20 : i_BU_comeBack 20 = some (.getfield 19, 3) := rfl
theorem i_BU_comeBack_23 : i_BU_comeBack 23 = some (.putfield 25, 3) := rfl
theorem i_BU_comeBack_26 : i_BU_comeBack 26 = some (.goto 33, 3) := rfl
theorem i_BU_comeBack_29 : i_BU_comeBack 29 = some (.aload_n 0, 1) := rfl
theorem i_BU_comeBack_30 : i_BU_comeBack 30 = some (.getfield 15, 3) := rfl
theorem i_BU_comeBack_33 : i_BU_comeBack 33 = some (.iconst 2, 1) := rfl
theorem i_BU_comeBack_34 : i_BU_comeBack 34 = some (.if_icmp .ne 25, 3) := rfl
theorem i_BU_comeBack_37 : i_BU_comeBack 37 = some (.aload_n 0, 1) := rfl
theorem i_BU_comeBack_38 : i_BU_comeBack 38 = some (.dup, 1) := rfl
theorem i_BU_comeBack_39 : i_BU_comeBack 39 = some (.getfield 25, 3) := rfl
theorem i_BU_comeBack_42 : i_BU_comeBack 42 = some (.aload_n 0, 1) := rfl
theorem i_BU_comeBack_43 : i_BU_comeBack 43 = some (.getfield 9, 3) := rfl
theorem i_BU_comeBack_46 : i_BU_comeBack 46 = some (.iload_n 2, 1) := rfl
theorem i_BU_comeBack_47 : i_BU_comeBack 47 = some (.iaload, 1) := rfl
theorem i_BU_comeBack_48 : i_BU_comeBack 48 = some (.iadd, 1) := rfl
theorem i_BU_comeBack_49 : i_BU_comeBack 49 = some (.putfield 25, 3) := rfl
theorem i_BU_comeBack_52 : i_BU_comeBack 52 = some (.aload_n 0, 1) := rfl
theorem i_BU_comeBack_53 : i_BU_comeBack 53 = some (.getfield 9, 3) := rfl
theorem i_BU_comeBack_56 : i_BU_comeBack 56 = some (.iload_n 2, 1) := rfl
theorem i_BU_comeBack_57 : i_BU_comeBack 57 = some (.iconst 0, 1) := rfl
theorem i_BU_comeBack_58 : i_BU_comeBack 58 = some (.iastore, 1) := rfl
theorem i_BU_comeBack_59 : i_BU_comeBack 59 = some (.return_, 1) := rfl
abbrev w_BU_comeBack : List Jvm.Cond := Jvm.Cond.code y_BU_comeBack b_BU_comeBack 3 none :: vw_W
theorem c_BU_comeBack : Jvm.Cond.code y_BU_comeBack b_BU_comeBack 3 none ∈ vw_W := vw_t 567 (by decide +kernel) (by decide +kernel)
abbrev r_BU_comeBack : Room := { frames := 2, cells := 0, slots := 0, locals := 43 }
abbrev b_BU_placeOf : ByteArray := prog_2_method_5_code
abbrev y_BU_placeOf : MethodName := ⟨"ServerDesk$Budget", "placeOf", "(I)I"⟩
def q_BU_placeOf : List (Nat × Instr × Nat) := [(0, .aload_n 0, 1), (1, .getfield 22, 3), (4, .iconst 1, 1), (5, .bipush 60, 2), (7, .invokestatic 49, 3), (10, .ifCond .eq 14, 3), (13, .iload_n 1, 1), (14, .aload_n 0, 1), (15, .getfield 22, 3), (18, .invokestatic 53, 3), (21, .goto 4, 3), (24, .iconst 0, 1), (25, .ireturn, 1)]
def i_BU_placeOf : Nat → Option (Instr × Nat) := am_find q_BU_placeOf
theorem d_BU_placeOf_0 : decode b_BU_placeOf 0 = .ok (.aload_n 0, 1) := by decide +kernel
theorem d_BU_placeOf_1 : decode b_BU_placeOf 1 = .ok (.getfield 22, 3) := by decide +kernel
theorem d_BU_placeOf_4 : decode b_BU_placeOf 4 = .ok (.iconst 1, 1) := by decide +kernel
theorem d_BU_placeOf_5 : decode b_BU_placeOf 5 = .ok (.bipush 60, 2) := by decide +kernel
theorem d_BU_placeOf_7 : decode b_BU_placeOf 7 = .ok (.invokestatic 49, 3) := by decide +kernel
theorem d_BU_placeOf_10 : decode b_BU_placeOf 10 = .ok (.ifCond .eq 14, 3) := by decide +kernel
theorem d_BU_placeOf_13 : decode b_BU_placeOf 13 = .ok (.iload_n 1, 1) := by decide +kernel
theorem d_BU_placeOf_14 : decode b_BU_placeOf 14 = .ok (.aload_n 0, 1) := by decide +kernel
theorem d_BU_placeOf_15 : decode b_BU_placeOf 15 = .ok (.getfield 22, 3) := by decide +kernel
theorem d_BU_placeOf_18 : decode b_BU_placeOf 18 = .ok (.invokestatic 53, 3) := by decide +kernel
theorem d_BU_placeOf_21 : decode b_BU_placeOf 21 = .ok (.goto 4, 3) := by decide +kernel
theorem d_BU_placeOf_24 : decode b_BU_placeOf 24 = .ok (.iconst 0, 1) := by decide +kernel
theorem d_BU_placeOf_25 : decode b_BU_placeOf 25 = .ok (.ireturn, 1) := by decide +kernel
theorem d_BU_placeOf : ∀ z ∈ q_BU_placeOf, decode b_BU_placeOf z.1 = .ok z.2 := List.forall_mem_cons.mpr ⟨d_BU_placeOf_0, List.forall_mem_cons.mpr ⟨d_BU_placeOf_1, List.forall_mem_cons.mpr ⟨d_BU_placeOf_4, List.forall_mem_cons.mpr ⟨d_BU_placeOf_5, List.forall_mem_cons.mpr ⟨d_BU_placeOf_7, List.forall_mem_cons.mpr ⟨d_BU_placeOf_10, List.forall_mem_cons.mpr ⟨d_BU_placeOf_13, List.forall_mem_cons.mpr ⟨d_BU_placeOf_14, List.forall_mem_cons.mpr ⟨d_BU_placeOf_15, List.forall_mem_cons.mpr ⟨d_BU_placeOf_18, List.forall_mem_cons.mpr ⟨d_BU_placeOf_21, List.forall_mem_cons.mpr ⟨d_BU_placeOf_24, List.forall_mem_cons.mpr ⟨d_BU_placeOf_25, fun _ h => absurd h List.not_mem_nil⟩⟩⟩⟩⟩⟩⟩⟩⟩⟩⟩⟩⟩
theorem i_BU_placeOf_ok : ∀ pc i n, i_BU_placeOf pc = some (i, n) → decode b_BU_placeOf pc = .ok (i, n) := fun pc i n h => d_BU_placeOf (pc, i, n) (am_find_mem h)
theorem i_BU_placeOf_0 : i_BU_placeOf 0 = some (.aload_n 0, 1) := rfl
theorem i_BU_placeOf_1 : i_BU_placeOf 1 = some (.getfield 22, 3) := rfl
theorem i_BU_placeOf_4 : i_BU_placeOf 4 = some (.iconst 1, 1) := rfl
theorem i_BU_placeOf_5 : i_BU_placeOf 5 = some (.bipush 60, 2) := rfl
theorem i_BU_placeOf_7 : i_BU_placeOf 7 = some (.invokestatic 49, 3) := rfl
theorem i_BU_placeOf_10 : i_BU_placeOf 10 = some (.ifCond .eq 14, 3) := rfl
theorem i_BU_placeOf_13 : i_BU_placeOf 13 = some (.iload_n 1, 1) := rfl
theorem i_BU_placeOf_14 : i_BU_placeOf 14 = some (.aload_n 0, 1) := rfl
theorem i_BU_placeOf_15 : i_BU_placeOf 15 = some (.getfield 22, 3) := rfl
theorem i_BU_placeOf_18 : i_BU_placeOf 18 = some (.invokestatic 53, 3) := rfl
theorem i_BU_placeOf_21 : i_BU_placeOf 21 = some (.goto 4, 3) := rfl
theorem i_BU_placeOf_24 : i_BU_placeOf 24 = some (.iconst 0, 1) := rfl
theorem i_BU_placeOf_25 : i_BU_placeOf 25 = some (.ireturn, 1) := rfl
abbrev w_BU_placeOf : List Jvm.Cond := Jvm.Cond.code y_BU_placeOf b_BU_placeOf 2 (some .int) :: vw_W
theorem c_BU_placeOf : Jvm.Cond.code y_BU_placeOf b_BU_placeOf 2 (some .int) ∈ vw_W := vw_t 571 (by decide +kernel) (by decide +kernel)
abbrev r_BU_placeOf : Room := { frames := 1, cells := 0, slots := 0, locals := 22 }
abbrev b_JM_floorMod : ByteArray := prog_18_method_50_code
abbrev y_JM_floorMod : MethodName := ⟨"java/lang/Math", "floorMod", "(II)I"⟩
def q_JM_floorMod : List (Nat × Instr × Nat) := [(0, .iload_n 0, 1), (1, .iload_n 1, 1), (2, .irem, 1), (3, .istore_n 2, 1), (4, .iload_n 0, 1), (5, .iload_n 1, 1), (6, .ixor, 1), (7, .ifCond .ge 11, 3), (10, .iload_n 2, 1), (11, .ifCond .eq 7, 3), (14, .iload_n 2, 1), (15, .iload_n 1, 1), (16, .iadd, 1), (17, .ireturn, 1), (18, .iload_n 2, 1), (19, .ireturn, 1)]
def i_JM_floorMod : Nat → Option (Instr × Nat) := am_find q_JM_floorMod
theorem d_JM_floorMod_0 : decode b_JM_floorMod 0 = .ok (.iload_n 0, 1) := by decide +kernel
theorem d_JM_floorMod_1 : decode b_JM_floorMod 1 = .ok (.iload_n 1, 1) := by decide +kernel
theorem d_JM_floorMod_2 : decode b_JM_floorMod 2 = .ok (.irem, 1) := by decide +kernel
theorem d_JM_floorMod_3 : decode b_JM_floorMod 3 = .ok (.istore_n 2, 1) := by decide +kernel
theorem d_JM_floorMod_4 : decode b_JM_floorMod 4 = .ok (.iload_n 0, 1) := by decide +kernel
theorem d_JM_floorMod_5 : decode b_JM_floorMod 5 = .ok (.iload_n 1, 1) := by decide +kernel
theorem d_JM_floorMod_6 : decode b_JM_floorMod 6 = .ok (.ixor, 1) := by decide +kernel
theorem d_JM_floorMod_7 : decode b_JM_floorMod 7 = .ok (.ifCond .ge 11, 3) := by decide +kernel
theorem d_JM_floorMod_10 : decode b_JM_floorMod 10 = .ok (.iload_n 2, 1) := by decide +kernel
theorem d_JM_floorMod_11 : decode b_JM_floorMod 11 = .ok (.ifCond .eq 7, 3) := by decide +kernel
theorem d_JM_floorMod_14 : decode b_JM_floorMod 14 = .ok (.iload_n 2, 1) := by decide +kernel
theorem d_JM_floorMod_15 : decode b_JM_floorMod 15 = .ok (.iload_n 1, 1) := by decide +kernel
theorem d_JM_floorMod_16 : decode b_JM_floorMod 16 = .ok (.iadd, 1) := by decide +kernel
theorem d_JM_floorMod_17 : decode b_JM_floorMod 17 = .ok (.ireturn, 1) := by decide +kernel
theorem d_JM_floorMod_18 : decode b_JM_floorMod 18 = .ok (.iload_n 2, 1) := by decide +kernel
theorem d_JM_floorMod_19 : decode b_JM_floorMod 19 = .ok (.ireturn, 1) := by decide +kernel
theorem d_JM_floorMod : ∀ z ∈ q_JM_floorMod, decode b_JM_floorMod z.1 = .ok z.2 := List.forall_mem_cons.mpr ⟨d_JM_floorMod_0, List.forall_mem_cons.mpr ⟨d_JM_floorMod_1, List.forall_mem_cons.mpr ⟨d_JM_floorMod_2, List.forall_mem_cons.mpr ⟨d_JM_floorMod_3, List.forall_mem_cons.mpr ⟨d_JM_floorMod_4, List.forall_mem_cons.mpr ⟨d_JM_floorMod_5, List.forall_mem_cons.mpr ⟨d_JM_floorMod_6, List.forall_mem_cons.mpr ⟨d_JM_floorMod_7, List.forall_mem_cons.mpr ⟨d_JM_floorMod_10, List.forall_mem_cons.mpr ⟨d_JM_floorMod_11, List.forall_mem_cons.mpr ⟨d_JM_floorMod_14, List.forall_mem_cons.mpr ⟨d_JM_floorMod_15, List.forall_mem_cons.mpr ⟨d_JM_floorMod_16, List.forall_mem_cons.mpr ⟨d_JM_floorMod_17, List.forall_mem_cons.mpr ⟨d_JM_floorMod_18, List.forall_mem_cons.mpr ⟨d_JM_floorMod_19, fun _ h => absurd h List.not_mem_nil⟩⟩⟩⟩⟩⟩⟩⟩⟩⟩⟩⟩⟩⟩⟩⟩
theorem i_JM_floorMod_ok : ∀ pc i n, i_JM_floorMod pc = some (i, n) → decode b_JM_floorMod pc = .ok (i, n) := fun pc i n h => d_JM_floorMod (pc, i, n) (am_find_mem h)
theorem i_JM_floorMod_0 : i_JM_floorMod 0 = some (.iload_n 0, 1) := rfl
theorem i_JM_floorMod_1 : i_JM_floorMod 1 = some (.iload_n 1, 1) := rfl
theorem i_JM_floorMod_2 : i_JM_floorMod 2 = some (.irem, 1) := rfl
theorem i_JM_floorMod_3 : i_JM_floorMod 3 = some (.istore_n 2, 1) := rfl
theorem i_JM_floorMod_4 : i_JM_floorMod 4 = some (.iload_n 0, 1) := rfl
theorem i_JM_floorMod_5 : i_JM_floorMod 5 = some (.iload_n 1, 1) := rfl
theorem i_JM_floorMod_6 : i_JM_floorMod 6 = some (.ixor, 1) := rfl
theorem i_JM_floorMod_7 : i_JM_floorMod 7 = some (.ifCond .ge 11, 3) := rfl
theorem i_JM_floorMod_10 : i_JM_floorMod 10 = some (.iload_n 2, 1) := rfl
theorem i_JM_floorMod_11 : i_JM_floorMod 11 = some (.ifCond .eq 7, 3) := rfl
theorem i_JM_floorMod_14 : i_JM_floorMod 14 = some (.iload_n 2, 1) := rfl
theorem i_JM_floorMod_15 : i_JM_floorMod 15 = some (.iload_n 1, 1) := rfl
theorem i_JM_floorMod_16 : i_JM_floorMod 16 = some (.iadd, 1) := rfl
theorem i_JM_floorMod_17 : i_JM_floorMod 17 = some (.ireturn, 1) := rfl
theorem i_JM_floorMod_18 : i_JM_floorMod 18 = some (.iload_n 2, 1) := rfl
theorem i_JM_floorMod_19 : i_JM_floorMod 19 = some (.ireturn, 1) := rfl
abbrev w_JM_floorMod : List Jvm.Cond := Jvm.Cond.code y_JM_floorMod b_JM_floorMod 3 (some .int) :: vw_W
theorem c_JM_floorMod : Jvm.Cond.code y_JM_floorMod b_JM_floorMod 3 (some .int) ∈ vw_W := vw_t 575 (by decide +kernel) (by decide +kernel)
abbrev r_JM_floorMod : Room := { frames := 0, cells := 0, slots := 0, locals := 0 }
abbrev b_LO_makeReady : ByteArray := prog_6_method_5_code
abbrev y_LO_makeReady : MethodName := ⟨"ServerDesk$Load", "makeReady", "(I)V"⟩
def q_LO_makeReady : List (Nat × Instr × Nat) := [(0, .iconst 0, 1), (1, .istore_n 2, 1), (2, .iload_n 2, 1), (3, .aload_n 0, 1), (4, .getfield 24, 3), (7, .getfield 28, 3), (10, .if_icmp .ge 83, 3), (13, .aload_n 0, 1), (14, .getfield 9, 3), (17, .iload_n 2, 1), (18, .iaload, 1), (19, .iload_n 1, 1), (20, .if_icmp .ne 67, 3), (23, .aload_n 0, 1), (24, .getfield 18, 3), (27, .iload_n 2, 1), (28, .dup2, 1), (29, .iaload, 1), (30, .aload_n 0, 1), (31, .getfield 15, 3), (34, .iload_n 2, 1), (35, .iaload, 1), (36, .iadd, 1), (37, .iastore, 1), (38, .aload_n 0, 1), (39, .getfield 21, 3), (42, .iload_n 2, 1), (43, .iload_n 1, 1), (44, .aload_n 0, 1), (45, .getfield 24, 3), (48, .getfield 50, 3), (51, .iload_n 2, 1), (52, .iaload, 1), (53, .iadd, 1), (54, .iastore, 1), (55, .aload_n 0, 1), (56, .getfield 9, 3), (59, .iload_n 2, 1), (60, .iload_n 1, 1), (61, .aload_n 0, 1), (62, .getfield 24, 3), (65, .getfield 53, 3), (68, .iload_n 2, 1), (69, .iaload, 1), (70, .iadd, 1), (71, .iastore, 1), (72, .aload_n 0, 1), (73, .getfield 15, 3), (76, .iload_n 2, 1), (77, .aload_n 0, 1), (78, .getfield 24, 3), (81, .getfield 37, 3), (84, .iload_n 2, 1), (85, .iaload, 1), (86, .iastore, 1), (87, .iinc 2 1, 3), (90, .goto (-88), 3), (93, .return_, 1)]
def i_LO_makeReady : Nat → Option (Instr × Nat) := am_find q_LO_makeReady
theorem d_LO_makeReady_0 : decode b_LO_makeReady 0 = .ok (.iconst 0, 1) := by decide +kernel
theorem d_LO_makeReady_1 : decode b_LO_makeReady 1 = .ok (.istore_n 2, 1) := by decide +kernel
theorem d_LO_makeReady_2 : decode b_LO_makeReady 2 = .ok (.iload_n 2, 1) := by decide +kernel
theorem d_LO_makeReady_3 : decode b_LO_makeReady 3 = .ok (.aload_n 0, 1) := by decide +kernel
theorem d_LO_makeReady_4 : decode b_LO_makeReady 4 = .ok (.getfield 24, 3) := by decide +kernel
theorem d_LO_makeReady_7 : decode b_LO_makeReady 7 = .ok (.getfield 28, 3) := by decide +kernel
theorem d_LO_makeReady_10 : decode b_LO_makeReady 10 = .ok (.if_icmp .ge 83, 3) := by decide +kernel
theorem d_LO_makeReady_13 : decode b_LO_makeReady 13 = .ok (.aload_n 0, 1) := by decide +kernel
theorem d_LO_makeReady_14 : decode b_LO_makeReady 14 = .ok (.getfield 9, 3) := by decide +kernel
theorem d_LO_makeReady_17 : decode b_LO_makeReady 17 = .ok (.iload_n 2, 1) := by decide +kernel
theorem d_LO_makeReady_18 : decode b_LO_makeReady 18 = .ok (.iaload, 1) := by decide +kernel
theorem d_LO_makeReady_19 : decode b_LO_makeReady 19 = .ok (.iload_n 1, 1) := by decide +kernel
theorem d_LO_makeReady_20 : decode b_LO_makeReady 20 = .ok (.if_icmp .ne 67, 3) := by decide +kernel
theorem d_LO_makeReady_23 : decode b_LO_makeReady 23 = .ok (.aload_n 0, 1) := by decide +kernel
theorem d_LO_makeReady_24 : decode b_LO_makeReady 24 = .ok (.getfield 18, 3) := by decide +kernel
theorem d_LO_makeReady_27 : decode b_LO_makeReady 27 = .ok (.iload_n 2, 1) := by decide +kernel
theorem d_LO_makeReady_28 : decode b_LO_makeReady 28 = .ok (.dup2, 1) := by decide +kernel
theorem d_LO_makeReady_29 : decode b_LO_makeReady 29 = .ok (.iaload, 1) := by decide +kernel
theorem d_LO_makeReady_30 : decode b_LO_makeReady 30 = .ok (.aload_n 0, 1) := by decide +kernel
theorem d_LO_makeReady_31 : decode b_LO_makeReady 31 = .ok (.getfield 15, 3) := by decide +kernel
theorem d_LO_makeReady_34 : decode b_LO_makeReady 34 = .ok (.iload_n 2, 1) := by decide +kernel
theorem d_LO_makeReady_35 : decode b_LO_makeReady 35 = .ok (.iaload, 1) := by decide +kernel
theorem d_LO_makeReady_36 : decode b_LO_makeReady 36 = .ok (.iadd, 1) := by decide +kernel
theorem d_LO_makeReady_37 : decode b_LO_makeReady 37 = .ok (.iastore, 1) := by decide +kernel
theorem d_LO_makeReady_38 : decode b_LO_makeReady 38 = .ok (.aload_n 0, 1) := by decide +kernel
theorem d_LO_makeReady_39 : decode b_LO_makeReady 39 = .ok (.getfield 21, 3) := by decide +kernel
theorem d_LO_makeReady_42 : decode b_LO_makeReady 42 = .ok (.iload_n 2, 1) := by decide +kernel
theorem d_LO_makeReady_43 : decode b_LO_makeReady 43 = .ok (.iload_n 1, 1) := by decide +kernel
theorem d_LO_makeReady_44 : decode b_LO_makeReady 44 = .ok (.aload_n 0, 1) := by decide +kernel
theorem d_LO_makeReady_45 : decode b_LO_makeReady 45 = .ok (.getfield 24, 3) := by decide +kernel
theorem d_LO_makeReady_48 : decode b_LO_makeReady 48 = .ok (.getfield 50, 3) := by decide +kernel
theorem d_LO_makeReady_51 : decode b_LO_makeReady 51 = .ok (.iload_n 2, 1) := by decide +kernel
theorem d_LO_makeReady_52 : decode b_LO_makeReady 52 = .ok (.iaload, 1) := by decide +kernel
theorem d_LO_makeReady_53 : decode b_LO_makeReady 53 = .ok (.iadd, 1) := by decide +kernel
theorem d_LO_makeReady_54 : decode b_LO_makeReady 54 = .ok (.iastore, 1) := by decide +kernel
theorem d_LO_makeReady_55 : decode b_LO_makeReady 55 = .ok (.aload_n 0, 1) := by decide +kernel
theorem d_LO_makeReady_56 : decode b_LO_makeReady 56 = .ok (.getfield 9, 3) := by decide +kernel
theorem d_LO_makeReady_59 : decode b_LO_makeReady 59 = .ok (.iload_n 2, 1) := by decide +kernel
theorem d_LO_makeReady_60 : decode b_LO_makeReady 60 = .ok (.iload_n 1, 1) := by decide +kernel
theorem d_LO_makeReady_61 : decode b_LO_makeReady 61 = .ok (.aload_n 0, 1) := by decide +kernel
theorem d_LO_makeReady_62 : decode b_LO_makeReady 62 = .ok (.getfield 24, 3) := by decide +kernel
theorem d_LO_makeReady_65 : decode b_LO_makeReady 65 = .ok (.getfield 53, 3) := by decide +kernel
theorem d_LO_makeReady_68 : decode b_LO_makeReady 68 = .ok (.iload_n 2, 1) := by decide +kernel
theorem d_LO_makeReady_69 : decode b_LO_makeReady 69 = .ok (.iaload, 1) := by decide +kernel
theorem d_LO_makeReady_70 : decode b_LO_makeReady 70 = .ok (.iadd, 1) := by decide +kernel
theorem d_LO_makeReady_71 : decode b_LO_makeReady 71 = .ok (.iastore, 1) := by decide +kernel
theorem d_LO_makeReady_72 : decode b_LO_makeReady 72 = .ok (.aload_n 0, 1) := by decide +kernel
theorem d_LO_makeReady_73 : decode b_LO_makeReady 73 = .ok (.getfield 15, 3) := by decide +kernel
theorem d_LO_makeReady_76 : decode b_LO_makeReady 76 = .ok (.iload_n 2, 1) := by decide +kernel
theorem d_LO_makeReady_77 : decode b_LO_makeReady 77 = .ok (.aload_n 0, 1) := by decide +kernel
theorem d_LO_makeReady_78 : decode b_LO_makeReady 78 = .ok (.getfield 24, 3) := by decide +kernel
theorem d_LO_makeReady_81 : decode b_LO_makeReady 81 = .ok (.getfield 37, 3) := by decide +kernel
theorem d_LO_makeReady_84 : decode b_LO_makeReady 84 = .ok (.iload_n 2, 1) := by decide +kernel
theorem d_LO_makeReady_85 : decode b_LO_makeReady 85 = .ok (.iaload, 1) := by decide +kernel
theorem d_LO_makeReady_86 : decode b_LO_makeReady 86 = .ok (.iastore, 1) := by decide +kernel
theorem d_LO_makeReady_87 : decode b_LO_makeReady 87 = .ok (.iinc 2 1, 3) := by decide +kernel
theorem d_LO_makeReady_90 : decode b_LO_makeReady 90 = .ok (.goto (-88), 3) := by decide +kernel
theorem d_LO_makeReady_93 : decode b_LO_makeReady 93 = .ok (.return_, 1) := by decide +kernel
theorem d_LO_makeReady : ∀ z ∈ q_LO_makeReady, decode b_LO_makeReady z.1 = .ok z.2 := List.forall_mem_cons.mpr ⟨d_LO_makeReady_0, List.forall_mem_cons.mpr ⟨d_LO_makeReady_1, List.forall_mem_cons.mpr ⟨d_LO_makeReady_2, List.forall_mem_cons.mpr ⟨d_LO_makeReady_3, List.forall_mem_cons.mpr ⟨d_LO_makeReady_4, List.forall_mem_cons.mpr ⟨d_LO_makeReady_7, List.forall_mem_cons.mpr ⟨d_LO_makeReady_10, List.forall_mem_cons.mpr ⟨d_LO_makeReady_13, List.forall_mem_cons.mpr ⟨d_LO_makeReady_14, List.forall_mem_cons.mpr ⟨d_LO_makeReady_17, List.forall_mem_cons.mpr ⟨d_LO_makeReady_18, List.forall_mem_cons.mpr ⟨d_LO_makeReady_19, List.forall_mem_cons.mpr ⟨d_LO_makeReady_20, List.forall_mem_cons.mpr ⟨d_LO_makeReady_23, List.forall_mem_cons.mpr ⟨d_LO_makeReady_24, List.forall_mem_cons.mpr ⟨d_LO_makeReady_27, List.forall_mem_cons.mpr ⟨d_LO_makeReady_28, List.forall_mem_cons.mpr ⟨d_LO_makeReady_29, List.forall_mem_cons.mpr ⟨d_LO_makeReady_30, List.forall_mem_cons.mpr ⟨d_LO_makeReady_31, List.forall_mem_cons.mpr ⟨d_LO_makeReady_34, List.forall_mem_cons.mpr ⟨d_LO_makeReady_35, List.forall_mem_cons.mpr ⟨d_LO_makeReady_36, List.forall_mem_cons.mpr ⟨d_LO_makeReady_37, List.forall_mem_cons.mpr ⟨d_LO_makeReady_38, List.forall_mem_cons.mpr ⟨d_LO_makeReady_39, List.forall_mem_cons.mpr ⟨d_LO_makeReady_42, List.forall_mem_cons.mpr ⟨d_LO_makeReady_43, List.forall_mem_cons.mpr ⟨d_LO_makeReady_44, List.forall_mem_cons.mpr ⟨d_LO_makeReady_45, List.forall_mem_cons.mpr ⟨d_LO_makeReady_48, List.forall_mem_cons.mpr ⟨d_LO_makeReady_51, List.forall_mem_cons.mpr ⟨d_LO_makeReady_52, List.forall_mem_cons.mpr ⟨d_LO_makeReady_53, List.forall_mem_cons.mpr ⟨d_LO_makeReady_54, List.forall_mem_cons.mpr ⟨d_LO_makeReady_55, List.forall_mem_cons.mpr ⟨d_LO_makeReady_56, List.forall_mem_cons.mpr ⟨d_LO_makeReady_59, List.forall_mem_cons.mpr ⟨d_LO_makeReady_60, List.forall_mem_cons.mpr ⟨d_LO_makeReady_61, List.forall_mem_cons.mpr ⟨d_LO_makeReady_62, List.forall_mem_cons.mpr ⟨d_LO_makeReady_65, List.forall_mem_cons.mpr ⟨d_LO_makeReady_68, List.forall_mem_cons.mpr ⟨d_LO_makeReady_69, List.forall_mem_cons.mpr ⟨d_LO_makeReady_70, List.forall_mem_cons.mpr ⟨d_LO_makeReady_71, List.forall_mem_cons.mpr ⟨d_LO_makeReady_72, List.forall_mem_cons.mpr ⟨d_LO_makeReady_73, List.forall_mem_cons.mpr ⟨d_LO_makeReady_76, List.forall_mem_cons.mpr ⟨d_LO_makeReady_77, List.forall_mem_cons.mpr ⟨d_LO_makeReady_78, List.forall_mem_cons.mpr ⟨d_LO_makeReady_81, List.forall_mem_cons.mpr ⟨d_LO_makeReady_84, List.forall_mem_cons.mpr ⟨d_LO_makeReady_85, List.forall_mem_cons.mpr ⟨d_LO_makeReady_86, List.forall_mem_cons.mpr ⟨d_LO_makeReady_87, List.forall_mem_cons.mpr ⟨d_LO_makeReady_90, List.forall_mem_cons.mpr ⟨d_LO_makeReady_93, fun _ h => absurd h List.not_mem_nil⟩⟩⟩⟩⟩⟩⟩⟩⟩⟩⟩⟩⟩⟩⟩⟩⟩⟩⟩⟩⟩⟩⟩⟩⟩⟩⟩⟩⟩⟩⟩⟩⟩⟩⟩⟩⟩⟩⟩⟩⟩⟩⟩⟩⟩⟩⟩⟩⟩⟩⟩⟩⟩⟩⟩⟩⟩⟩
theorem i_LO_makeReady_ok : ∀ pc i n, i_LO_makeReady pc = some (i, n) → decode b_LO_makeReady pc = .ok (i, n) := fun pc i n h => d_LO_makeReady (pc, i, n) (am_find_mem h)
theorem i_LO_makeReady_0 : i_LO_makeReady 0 = some (.iconst 0, 1) := rfl
theorem i_LO_makeReady_1 : i_LO_makeReady 1 = some (.istore_n 2, 1) := rfl
theorem i_LO_makeReady_2 : i_LO_makeReady 2 = some (.iload_n 2, 1) := rfl
theorem i_LO_makeReady_3 : i_LO_makeReady 3 = some (.aload_n 0, 1) := rfl
theorem i_LO_makeReady_4 : i_LO_makeReady 4 = some (.getfield 24, 3) := rfl
theorem i_LO_makeReady_7 : i_LO_makeReady 7 = some (.getfield 28, 3) := rfl
theorem i_LO_makeReady_10 : i_LO_makeReady 10 = some (.if_icmp .ge 83, 3) := rfl
theorem i_LO_makeReady_13 : i_LO_makeReady 13 = some (.aload_n 0, 1) := rfl
theorem i_LO_makeReady_14 : i_LO_makeReady 14 = some (.getfield 9, 3) := rfl
theorem i_LO_makeReady_17 : i_LO_makeReady 17 = some (.iload_n 2, 1) := rfl
theorem i_LO_makeReady_18 : i_LO_makeReady 18 = some (.iaload, 1) := rfl
theorem i_LO_makeReady_19 : i_LO_makeReady 19 = some (.iload_n 1, 1) := rfl
theorem i_LO_makeReady_20 : i_LO_makeReady 20 = some (.if_icmp .ne 67, 3) := rfl
theorem i_LO_makeReady_23 : i_LO_makeReady 23 = some (.aload_n 0, 1) := rfl
theorem i_LO_makeReady_24 : i_LO_makeReady 24 = some (.getfield 18, 3) := rfl
theorem i_LO_makeReady_27 : i_LO_makeReady 27 = some (.iload_n 2, 1) := rfl
theorem i_LO_makeReady_28 : i_LO_makeReady 28 = some (.dup2, 1) := rfl
theorem i_LO_makeReady_29 : i_LO_makeReady 29 = some (.iaload, 1) := rfl
theorem i_LO_makeReady_30 : i_LO_makeReady 30 = some (.aload_n 0, 1) := rfl
theorem i_LO_makeReady_31 : i_LO_makeReady 31 = some (.getfield 15, 3) := rfl
theorem i_LO_makeReady_34 : i_LO_makeReady 34 = some (.iload_n 2, 1) := rfl
theorem i_LO_makeReady_35 : i_LO_makeReady 35 = some (.iaload, 1) := rfl
theorem i_LO_makeReady_36 : i_LO_makeReady 36 = some (.iadd, 1) := rfl
theorem i_LO_makeReady_37 : i_LO_makeReady 37 = some (.iastore, 1) := rfl
theorem i_LO_makeReady_38 : i_LO_makeReady 38 = some (.aload_n 0, 1) := rfl
theorem i_LO_makeReady_39 : i_LO_makeReady 39 = some (.getfield 21, 3) := rfl
theorem i_LO_makeReady_42 : i_LO_makeReady 42 = some (.iload_n 2, 1) := rfl
theorem i_LO_makeReady_43 : i_LO_makeReady 43 = some (.iload_n 1, 1) := rfl
theorem i_LO_makeReady_44 : i_LO_makeReady 44 = some (.aload_n 0, 1) := rfl
theorem i_LO_makeReady_45 : i_LO_makeReady 45 = some (.getfield 24, 3) := rfl
theorem i_LO_makeReady_48 : i_LO_makeReady 48 = some (.getfield 50, 3) := rfl
theorem i_LO_makeReady_51 : i_LO_makeReady 51 = some (.iload_n 2, 1) := rfl
theorem i_LO_makeReady_52 : i_LO_makeReady 52 = some (.iaload, 1) := rfl
theorem i_LO_makeReady_53 : i_LO_makeReady 53 = some (.iadd, 1) := rfl
theorem i_LO_makeReady_54 : i_LO_makeReady 54 = some (.iastore, 1) := rfl
theorem i_LO_makeReady_55 : i_LO_makeReady 55 = some (.aload_n 0, 1) := rfl
theorem i_LO_makeReady_56 : i_LO_makeReady 56 = some (.getfield 9, 3) := rfl
theorem i_LO_makeReady_59 : i_LO_makeReady 59 = some (.iload_n 2, 1) := rfl
theorem i_LO_makeReady_60 : i_LO_makeReady 60 = some (.iload_n 1, 1) := rfl
theorem i_LO_makeReady_61 : i_LO_makeReady 61 = some (.aload_n 0, 1) := rfl
theorem i_LO_makeReady_62 : i_LO_makeReady 62 = some (.getfield 24, 3) := rfl
theorem i_LO_makeReady_65 : i_LO_makeReady 65 = some (.getfield 53, 3) := rfl
theorem i_LO_makeReady_68 : i_LO_makeReady 68 = some (.iload_n 2, 1) := rfl
theorem i_LO_makeReady_69 : i_LO_makeReady 69 = some (.iaload, 1) := rfl
theorem i_LO_makeReady_70 : i_LO_makeReady 70 = some (.iadd, 1) := rfl
theorem i_LO_makeReady_71 : i_LO_makeReady 71 = some (.iastore, 1) := rfl
theorem i_LO_makeReady_72 : i_LO_makeReady 72 = some (.aload_n 0, 1) := rfl
theorem i_LO_makeReady_73 : i_LO_makeReady 73 = some (.getfield 15, 3) := rfl
theorem i_LO_makeReady_76 : i_LO_makeReady 76 = some (.iload_n 2, 1) := rfl
theorem i_LO_makeReady_77 : i_LO_makeReady 77 = some (.aload_n 0, 1) := rfl
theorem i_LO_makeReady_78 : i_LO_makeReady 78 = some (.getfield 24, 3) := rfl
theorem i_LO_makeReady_81 : i_LO_makeReady 81 = some (.getfield 37, 3) := rfl
theorem i_LO_makeReady_84 : i_LO_makeReady 84 = some (.iload_n 2, 1) := rfl
theorem i_LO_makeReady_85 : i_LO_makeReady 85 = some (.iaload, 1) := rfl
theorem i_LO_makeReady_86 : i_LO_makeReady 86 = some (.iastore, 1) := rfl
theorem i_LO_makeReady_87 : i_LO_makeReady 87 = some (.iinc 2 1, 3) := rfl
theorem i_LO_makeReady_90 : i_LO_makeReady 90 = some (.goto (-88), 3) := rfl
theorem i_LO_makeReady_93 : i_LO_makeReady 93 = some (.return_, 1) := rfl
abbrev w_LO_makeReady : List Jvm.Cond := Jvm.Cond.code y_LO_makeReady b_LO_makeReady 3 none :: vw_W
theorem c_LO_makeReady : Jvm.Cond.code y_LO_makeReady b_LO_makeReady 3 none ∈ vw_W := vw_t 579 (by decide +kernel) (by decide +kernel)
abbrev r_LO_makeReady : Room := { frames := 0, cells := 0, slots := 0, locals := 0 }
abbrev b_CO_runOne : ByteArray := prog_3_method_4_code
abbrev y_CO_runOne : MethodName := ⟨"ServerDesk$Course", "runOne", "(I)I"⟩
def q_CO_runOne : List (Nat × Instr × Nat) := [(0, .aload_n 0, 1), (1, .getfield 31, 3), (4, .invokevirtual 72, 3), (7, .istore_n 2, 1), (8, .iload_n 2, 1), (9, .aload_n 0, 1), (10, .getfield 18, 3), (13, .getfield 76, 3), (16, .if_icmp .lt 7, 3), (19, .iconst 1, 1), (20, .goto 4, 3), (23, .iconst 0, 1), (24, .istore_n 3, 1), (25, .aload_n 0, 1), (26, .getfield 40, 3), (29, .invokevirtual 81, 3), (32, .istore 4, 2), (34, .iload 4, 2), (36, .iconst (-1), 1), (37, .if_icmp .eq 64, 3), (40, .iload_n 3, 1), (41, .ifCond .ne 37, 3), (44, .aload_n 0, 1), (45, .getfield 47, 3), (48, .getfield 84, 3), (51, .ifCond .gt 27, 3), (54, .aload_n 0, 1), (55, .getfield 9, 3), (58, .iconst 3, 1), (59, .if_icmp .ne 42, 3), (62, .aload_n 0, 1), (63, .getfield 22, 3), (66, .aload_n 0, 1), (67, .getfield 31, 3), (70, .iload_n 1, 1), (71, .iconst 1, 1), (72, .invokevirtual 87, 3), (75, .ifCond .le 26, 3), (78, .aload_n 0, 1), (79, .getfield 47, 3), (82, .iload_n 1, 1), (83, .invokevirtual 93, 3), (86, .aload_n 0, 1), (87, .getfield 40, 3), (90, .iload 4, 2), (92, .iload_n 1, 1), (93, .invokevirtual 96, 3), (96, .iconst (-1), 1), (97, .iload 4, 2), (99, .isub, 1), (100, .ireturn, 1), (101, .iload_n 3, 1), (102, .ifCond .eq 5, 3), (105, .iconst 0, 1), (106, .ireturn, 1), (107, .aload_n 0, 1), (108, .getfield 31, 3), (111, .iload_n 2, 1), (112, .invokevirtual 100, 3), (115, .aload_n 0, 1), (116, .getfield 18, 3), (119, .getfield 103, 3), (122, .iload_n 2, 1), (123, .iaload, 1), (124, .iconst 1, 1), (125, .iadd, 1), (126, .ireturn, 1)]
def i_CO_runOne : Nat → Option (Instr × Nat) := am_find q_CO_runOne
theorem d_CO_runOne_0 : decode b_CO_runOne 0 = .ok (.aload_n 0, 1) := by decide +kernel
theorem d_CO_runOne_1 : decode b_CO_runOne 1 = .ok (.getfield 31, 3) := by decide +kernel
theorem d_CO_runOne_4 : decode b_CO_runOne 4 = .ok (.invokevirtual 72, 3) := by decide +kernel
theorem d_CO_runOne_7 : decode b_CO_runOne 7 = .ok (.istore_n 2, 1) := by decide +kernel
theorem d_CO_runOne_8 : decode b_CO_runOne 8 = .ok (.iload_n 2, 1) := by decide +kernel
theorem d_CO_runOne_9 : decode b_CO_runOne 9 = .ok (.aload_n 0, 1) := by decide +kernel
theorem d_CO_runOne_10 : decode b_CO_runOne 10 = .ok (.getfield 18, 3) := by decide +kernel
theorem d_CO_runOne_13 : decode b_CO_runOne 13 = .ok (.getfield 76, 3) := by decide +kernel
theorem d_CO_runOne_16 : decode b_CO_runOne 16 = .ok (.if_icmp .lt 7, 3) := by decide +kernel
theorem d_CO_runOne_19 : decode b_CO_runOne 19 = .ok (.iconst 1, 1) := by decide +kernel
theorem d_CO_runOne_20 : decode b_CO_runOne 20 = .ok (.goto 4, 3) := by decide +kernel
theorem d_CO_runOne_23 : decode b_CO_runOne 23 = .ok (.iconst 0, 1) := by decide +kernel
theorem d_CO_runOne_24 : decode b_CO_runOne 24 = .ok (.istore_n 3, 1) := by decide +kernel
theorem d_CO_runOne_25 : decode b_CO_runOne 25 = .ok (.aload_n 0, 1) := by decide +kernel
theorem d_CO_runOne_26 : decode b_CO_runOne 26 = .ok (.getfield 40, 3) := by decide +kernel
theorem d_CO_runOne_29 : decode b_CO_runOne 29 = .ok (.invokevirtual 81, 3) := by decide +kernel
theorem d_CO_runOne_32 : decode b_CO_runOne 32 = .ok (.istore 4, 2) := by decide +kernel
theorem d_CO_runOne_34 : decode b_CO_runOne 34 = .ok (.iload 4, 2) := by decide +kernel
theorem d_CO_runOne_36 : decode b_CO_runOne 36 = .ok (.iconst (-1), 1) := by decide +kernel
theorem d_CO_runOne_37 : decode b_CO_runOne 37 = .ok (.if_icmp .eq 64, 3) := by decide +kernel
theorem d_CO_runOne_40 : decode b_CO_runOne 40 = .ok (.iload_n 3, 1) := by decide +kernel
theorem d_CO_runOne_41 : decode b_CO_runOne 41 = .ok (.ifCond .ne 37, 3) := by decide +kernel
theorem d_CO_runOne_44 : decode b_CO_runOne 44 = .ok (.aload_n 0, 1) := by decide +kernel
theorem d_CO_runOne_45 : decode b_CO_runOne 45 = .ok (.getfield 47, 3) := by decide +kernel
theorem d_CO_runOne_48 : decode b_CO_runOne 48 = .ok (.getfield 84, 3) := by decide +kernel
theorem d_CO_runOne_51 : decode b_CO_runOne 51 = .ok (.ifCond .gt 27, 3) := by decide +kernel
theorem d_CO_runOne_54 : decode b_CO_runOne 54 = .ok (.aload_n 0, 1) := by decide +kernel
theorem d_CO_runOne_55 : decode b_CO_runOne 55 = .ok (.getfield 9, 3) := by decide +kernel
theorem d_CO_runOne_58 : decode b_CO_runOne 58 = .ok (.iconst 3, 1) := by decide +kernel
theorem d_CO_runOne_59 : decode b_CO_runOne 59 = .ok (.if_icmp .ne 42, 3) := by decide +kernel
theorem d_CO_runOne_62 : decode b_CO_runOne 62 = .ok (.aload_n 0, 1) := by decide +kernel
theorem d_CO_runOne_63 : decode b_CO_runOne 63 = .ok (.getfield 22, 3) := by decide +kernel
theorem d_CO_runOne_66 : decode b_CO_runOne 66 = .ok (.aload_n 0, 1) := by decide +kernel
theorem d_CO_runOne_67 : decode b_CO_runOne 67 = .ok (.getfield 31, 3) := by decide +kernel
theorem d_CO_runOne_70 : decode b_CO_runOne 70 = .ok (.iload_n 1, 1) := by decide +kernel
theorem d_CO_runOne_71 : decode b_CO_runOne 71 = .ok (.iconst 1, 1) := by decide +kernel
theorem d_CO_runOne_72 : decode b_CO_runOne 72 = .ok (.invokevirtual 87, 3) := by decide +kernel
theorem d_CO_runOne_75 : decode b_CO_runOne 75 = .ok (.ifCond .le 26, 3) := by decide +kernel
theorem d_CO_runOne_78 : decode b_CO_runOne 78 = .ok (.aload_n 0, 1) := by decide +kernel
theorem d_CO_runOne_79 : decode b_CO_runOne 79 = .ok (.getfield 47, 3) := by decide +kernel
theorem d_CO_runOne_82 : decode b_CO_runOne 82 = .ok (.iload_n 1, 1) := by decide +kernel
theorem d_CO_runOne_83 : decode b_CO_runOne 83 = .ok (.invokevirtual 93, 3) := by decide +kernel
theorem d_CO_runOne_86 : decode b_CO_runOne 86 = .ok (.aload_n 0, 1) := by decide +kernel
theorem d_CO_runOne_87 : decode b_CO_runOne 87 = .ok (.getfield 40, 3) := by decide +kernel
theorem d_CO_runOne_90 : decode b_CO_runOne 90 = .ok (.iload 4, 2) := by decide +kernel
theorem d_CO_runOne_92 : decode b_CO_runOne 92 = .ok (.iload_n 1, 1) := by decide +kernel
theorem d_CO_runOne_93 : decode b_CO_runOne 93 = .ok (.invokevirtual 96, 3) := by decide +kernel
theorem d_CO_runOne_96 : decode b_CO_runOne 96 = .ok (.iconst (-1), 1) := by decide +kernel
theorem d_CO_runOne_97 : decode b_CO_runOne 97 = .ok (.iload 4, 2) := by decide +kernel
theorem d_CO_runOne_99 : decode b_CO_runOne 99 = .ok (.isub, 1) := by decide +kernel
theorem d_CO_runOne_100 : decode b_CO_runOne 100 = .ok (.ireturn, 1) := by decide +kernel
theorem d_CO_runOne_101 : decode b_CO_runOne 101 = .ok (.iload_n 3, 1) := by decide +kernel
theorem d_CO_runOne_102 : decode b_CO_runOne 102 = .ok (.ifCond .eq 5, 3) := by decide +kernel
theorem d_CO_runOne_105 : decode b_CO_runOne 105 = .ok (.iconst 0, 1) := by decide +kernel
theorem d_CO_runOne_106 : decode b_CO_runOne 106 = .ok (.ireturn, 1) := by decide +kernel
theorem d_CO_runOne_107 : decode b_CO_runOne 107 = .ok (.aload_n 0, 1) := by decide +kernel
theorem d_CO_runOne_108 : decode b_CO_runOne 108 = .ok (.getfield 31, 3) := by decide +kernel
theorem d_CO_runOne_111 : decode b_CO_runOne 111 = .ok (.iload_n 2, 1) := by decide +kernel
theorem d_CO_runOne_112 : decode b_CO_runOne 112 = .ok (.invokevirtual 100, 3) := by decide +kernel
theorem d_CO_runOne_115 : decode b_CO_runOne 115 = .ok (.aload_n 0, 1) := by decide +kernel
theorem d_CO_runOne_116 : decode b_CO_runOne 116 = .ok (.getfield 18, 3) := by decide +kernel
theorem d_CO_runOne_119 : decode b_CO_runOne 119 = .ok (.getfield 103, 3) := by decide +kernel
theorem d_CO_runOne_122 : decode b_CO_runOne 122 = .ok (.iload_n 2, 1) := by decide +kernel
theorem d_CO_runOne_123 : decode b_CO_runOne 123 = .ok (.iaload, 1) := by decide +kernel
theorem d_CO_runOne_124 : decode b_CO_runOne 124 = .ok (.iconst 1, 1) := by decide +kernel
theorem d_CO_runOne_125 : decode b_CO_runOne 125 = .ok (.iadd, 1) := by decide +kernel
theorem d_CO_runOne_126 : decode b_CO_runOne 126 = .ok (.ireturn, 1) := by decide +kernel
theorem d_CO_runOne : ∀ z ∈ q_CO_runOne, decode b_CO_runOne z.1 = .ok z.2 := List.forall_mem_cons.mpr ⟨d_CO_runOne_0, List.forall_mem_cons.mpr ⟨d_CO_runOne_1, List.forall_mem_cons.mpr ⟨d_CO_runOne_4, List.forall_mem_cons.mpr ⟨d_CO_runOne_7, List.forall_mem_cons.mpr ⟨d_CO_runOne_8, List.forall_mem_cons.mpr ⟨d_CO_runOne_9, List.forall_mem_cons.mpr ⟨d_CO_runOne_10, List.forall_mem_cons.mpr ⟨d_CO_runOne_13, List.forall_mem_cons.mpr ⟨d_CO_runOne_16, List.forall_mem_cons.mpr ⟨d_CO_runOne_19, List.forall_mem_cons.mpr ⟨d_CO_runOne_20, List.forall_mem_cons.mpr ⟨d_CO_runOne_23, List.forall_mem_cons.mpr ⟨d_CO_runOne_24, List.forall_mem_cons.mpr ⟨d_CO_runOne_25, List.forall_mem_cons.mpr ⟨d_CO_runOne_26, List.forall_mem_cons.mpr ⟨d_CO_runOne_29, List.forall_mem_cons.mpr ⟨d_CO_runOne_32, List.forall_mem_cons.mpr ⟨d_CO_runOne_34, List.forall_mem_cons.mpr ⟨d_CO_runOne_36, List.forall_mem_cons.mpr ⟨d_CO_runOne_37, List.forall_mem_cons.mpr ⟨d_CO_runOne_40, List.forall_mem_cons.mpr ⟨d_CO_runOne_41, List.forall_mem_cons.mpr ⟨d_CO_runOne_44, List.forall_mem_cons.mpr ⟨d_CO_runOne_45, List.forall_mem_cons.mpr ⟨d_CO_runOne_48, List.forall_mem_cons.mpr ⟨d_CO_runOne_51, List.forall_mem_cons.mpr ⟨d_CO_runOne_54, List.forall_mem_cons.mpr ⟨d_CO_runOne_55, List.forall_mem_cons.mpr ⟨d_CO_runOne_58, List.forall_mem_cons.mpr ⟨d_CO_runOne_59, List.forall_mem_cons.mpr ⟨d_CO_runOne_62, List.forall_mem_cons.mpr ⟨d_CO_runOne_63, List.forall_mem_cons.mpr ⟨d_CO_runOne_66, List.forall_mem_cons.mpr ⟨d_CO_runOne_67, List.forall_mem_cons.mpr ⟨d_CO_runOne_70, List.forall_mem_cons.mpr ⟨d_CO_runOne_71, List.forall_mem_cons.mpr ⟨d_CO_runOne_72, List.forall_mem_cons.mpr ⟨d_CO_runOne_75, List.forall_mem_cons.mpr ⟨d_CO_runOne_78, List.forall_mem_cons.mpr ⟨d_CO_runOne_79, List.forall_mem_cons.mpr ⟨d_CO_runOne_82, List.forall_mem_cons.mpr ⟨d_CO_runOne_83, List.forall_mem_cons.mpr ⟨d_CO_runOne_86, List.forall_mem_cons.mpr ⟨d_CO_runOne_87, List.forall_mem_cons.mpr ⟨d_CO_runOne_90, List.forall_mem_cons.mpr ⟨d_CO_runOne_92, List.forall_mem_cons.mpr ⟨d_CO_runOne_93, List.forall_mem_cons.mpr ⟨d_CO_runOne_96, List.forall_mem_cons.mpr ⟨d_CO_runOne_97, List.forall_mem_cons.mpr ⟨d_CO_runOne_99, List.forall_mem_cons.mpr ⟨d_CO_runOne_100, List.forall_mem_cons.mpr ⟨d_CO_runOne_101, List.forall_mem_cons.mpr ⟨d_CO_runOne_102, List.forall_mem_cons.mpr ⟨d_CO_runOne_105, List.forall_mem_cons.mpr ⟨d_CO_runOne_106, List.forall_mem_cons.mpr ⟨d_CO_runOne_107, List.forall_mem_cons.mpr ⟨d_CO_runOne_108, List.forall_mem_cons.mpr ⟨d_CO_runOne_111, List.forall_mem_cons.mpr ⟨d_CO_runOne_112, List.forall_mem_cons.mpr ⟨d_CO_runOne_115, List.forall_mem_cons.mpr ⟨d_CO_runOne_116, List.forall_mem_cons.mpr ⟨d_CO_runOne_119, List.forall_mem_cons.mpr ⟨d_CO_runOne_122, List.forall_mem_cons.mpr ⟨d_CO_runOne_123, List.forall_mem_cons.mpr ⟨d_CO_runOne_124, List.forall_mem_cons.mpr ⟨d_CO_runOne_125, List.forall_mem_cons.mpr ⟨d_CO_runOne_126, fun _ h => absurd h List.not_mem_nil⟩⟩⟩⟩⟩⟩⟩⟩⟩⟩⟩⟩⟩⟩⟩⟩⟩⟩⟩⟩⟩⟩⟩⟩⟩⟩⟩⟩⟩⟩⟩⟩⟩⟩⟩⟩⟩⟩⟩⟩⟩⟩⟩⟩⟩⟩⟩⟩⟩⟩⟩⟩⟩⟩⟩⟩⟩⟩⟩⟩⟩⟩⟩⟩⟩⟩⟩
theorem i_CO_runOne_ok : ∀ pc i n, i_CO_runOne pc = some (i, n) → decode b_CO_runOne pc = .ok (i, n) := fun pc i n h => d_CO_runOne (pc, i, n) (am_find_mem h)
theorem i_CO_runOne_0 : i_CO_runOne 0 = some (.aload_n 0, 1) := rfl
theorem i_CO_runOne_1 : i_CO_runOne 1 = some (.getfield 31, 3) := rfl
theorem i_CO_runOne_4 : i_CO_runOne 4 = some (.invokevirtual 72, 3) := rfl
theorem i_CO_runOne_7 : i_CO_runOne 7 = some (.istore_n 2, 1) := rfl
theorem i_CO_runOne_8 : i_CO_runOne 8 = some (.iload_n 2, 1) := rfl
theorem i_CO_runOne_9 : i_CO_runOne 9 = some (.aload_n 0, 1) := rfl
theorem i_CO_runOne_10 : i_CO_runOne 10 = some (.getfield 18, 3) := rfl
theorem i_CO_runOne_13 : i_CO_runOne 13 = some (.getfield 76, 3) := rfl
theorem i_CO_runOne_16 : i_CO_runOne 16 = some (.if_icmp .lt 7, 3) := rfl
theorem i_CO_runOne_19 : i_CO_runOne 19 = some (.iconst 1, 1) := rfl
theorem i_CO_runOne_20 : i_CO_runOne 20 = some (.goto 4, 3) := rfl
theorem i_CO_runOne_23 : i_CO_runOne 23 = some (.iconst 0, 1) := rfl
theorem i_CO_runOne_24 : i_CO_runOne 24 = some (.istore_n 3, 1) := rfl
theorem i_CO_runOne_25 : i_CO_runOne 25 = some (.aload_n 0, 1) := rfl
theorem i_CO_runOne_26 : i_CO_runOne 26 = some (.getfield 40, 3) := rfl
theorem i_CO_runOne_29 : i_CO_runOne 29 = some (.invokevirtual 81, 3) := rfl
theorem i_CO_runOne_32 : i_CO_runOne 32 = some (.istore 4, 2) := rfl
theorem i_CO_runOne_34 : i_CO_runOne 34 = some (.iload 4, 2) := rfl
theorem i_CO_runOne_36 : i_CO_runOne 36 = some (.iconst (-1), 1) := rfl
theorem i_CO_runOne_37 : i_CO_runOne 37 = some (.if_icmp .eq 64, 3) := rfl
theorem i_CO_runOne_40 : i_CO_runOne 40 = some (.iload_n 3, 1) := rfl
theorem i_CO_runOne_41 : i_CO_runOne 41 = some (.ifCond .ne 37, 3) := rfl
theorem i_CO_runOne_44 : i_CO_runOne 44 = some (.aload_n 0, 1) := rfl
theorem i_CO_runOne_45 : i_CO_runOne 45 = some (.getfield 47, 3) := rfl
theorem i_CO_runOne_48 : i_CO_runOne 48 = some (.getfield 84, 3) := rfl
theorem i_CO_runOne_51 : i_CO_runOne 51 = some (.ifCond .gt 27, 3) := rfl
theorem i_CO_runOne_54 : i_CO_runOne 54 = some (.aload_n 0, 1) := rfl
theorem i_CO_runOne_55 : i_CO_runOne 55 = some (.getfield 9, 3) := rfl
theorem i_CO_runOne_58 : i_CO_runOne 58 = some (.iconst 3, 1) := rfl
theorem i_CO_runOne_59 : i_CO_runOne 59 = some (.if_icmp .ne 42, 3) := rfl
theorem i_CO_runOne_62 : i_CO_runOne 62 = some (.aload_n 0, 1) := rfl
theorem i_CO_runOne_63 : i_CO_runOne 63 = some (.getfield 22, 3) := rfl
theorem i_CO_runOne_66 : i_CO_runOne 66 = some (.aload_n 0, 1) := rfl
theorem i_CO_runOne_67 : i_CO_runOne 67 = some (.getfield 31, 3) := rfl
theorem i_CO_runOne_70 : i_CO_runOne 70 = some (.iload_n 1, 1) := rfl
theorem i_CO_runOne_71 : i_CO_runOne 71 = some (.iconst 1, 1) := rfl
theorem i_CO_runOne_72 : i_CO_runOne 72 = some (.invokevirtual 87, 3) := rfl
theorem i_CO_runOne_75 : i_CO_runOne 75 = some (.ifCond .le 26, 3) := rfl
theorem i_CO_runOne_78 : i_CO_runOne 78 = some (.aload_n 0, 1) := rfl
theorem i_CO_runOne_79 : i_CO_runOne 79 = some (.getfield 47, 3) := rfl
theorem i_CO_runOne_82 : i_CO_runOne 82 = some (.iload_n 1, 1) := rfl
theorem i_CO_runOne_83 : i_CO_runOne 83 = some (.invokevirtual 93, 3) := rfl
theorem i_CO_runOne_86 : i_CO_runOne 86 = some (.aload_n 0, 1) := rfl
theorem i_CO_runOne_87 : i_CO_runOne 87 = some (.getfield 40, 3) := rfl
theorem i_CO_runOne_90 : i_CO_runOne 90 = some (.iload 4, 2) := rfl
theorem i_CO_runOne_92 : i_CO_runOne 92 = some (.iload_n 1, 1) := rfl
theorem i_CO_runOne_93 : i_CO_runOne 93 = some (.invokevirtual 96, 3) := rfl
theorem i_CO_runOne_96 : i_CO_runOne 96 = some (.iconst (-1), 1) := rfl
theorem i_CO_runOne_97 : i_CO_runOne 97 = some (.iload 4, 2) := rfl
theorem i_CO_runOne_99 : i_CO_runOne 99 = some (.isub, 1) := rfl
theorem i_CO_runOne_100 : i_CO_runOne 100 = some (.ireturn, 1) := rfl
theorem i_CO_runOne_101 : i_CO_runOne 101 = some (.iload_n 3, 1) := rfl
theorem i_CO_runOne_102 : i_CO_runOne 102 = some (.ifCond .eq 5, 3) := rfl
theorem i_CO_runOne_105 : i_CO_runOne 105 = some (.iconst 0, 1) := rfl
theorem i_CO_runOne_106 : i_CO_runOne 106 = some (.ireturn, 1) := rfl
theorem i_CO_runOne_107 : i_CO_runOne 107 = some (.aload_n 0, 1) := rfl
theorem i_CO_runOne_108 : i_CO_runOne 108 = some (.getfield 31, 3) := rfl
theorem i_CO_runOne_111 : i_CO_runOne 111 = some (.iload_n 2, 1) := rfl
theorem i_CO_runOne_112 : i_CO_runOne 112 = some (.invokevirtual 100, 3) := rfl
theorem i_CO_runOne_115 : i_CO_runOne 115 = some (.aload_n 0, 1) := rfl
theorem i_CO_runOne_116 : i_CO_runOne 116 = some (.getfield 18, 3) := rfl
theorem i_CO_runOne_119 : i_CO_runOne 119 = some (.getfield 103, 3) := rfl
theorem i_CO_runOne_122 : i_CO_runOne 122 = some (.iload_n 2, 1) := rfl
theorem i_CO_runOne_123 : i_CO_runOne 123 = some (.iaload, 1) := rfl
theorem i_CO_runOne_124 : i_CO_runOne 124 = some (.iconst 1, 1) := rfl
theorem i_CO_runOne_125 : i_CO_runOne 125 = some (.iadd, 1) := rfl
theorem i_CO_runOne_126 : i_CO_runOne 126 = some (.ireturn, 1) := rfl
abbrev w_CO_runOne : List Jvm.Cond := Jvm.Cond.code y_CO_runOne b_CO_runOne 5 (some .int) :: vw_W
theorem c_CO_runOne : Jvm.Cond.code y_CO_runOne b_CO_runOne 5 (some .int) ∈ vw_W := vw_t 583 (by decide +kernel) (by decide +kernel)
abbrev r_CO_runOne : Room := { frames := 3, cells := 0, slots := 0, locals := 74 }
abbrev b_LO_readyRank : ByteArray := prog_6_method_6_code
abbrev y_LO_readyRank : MethodName := ⟨"ServerDesk$Load", "readyRank", "()I"⟩
def q_LO_readyRank : List (Nat × Instr × Nat) := [(0, .iconst 0, 1), (1, .istore_n 1, 1), (2, .iload_n 1, 1), (3, .aload_n 0, 1), (4, .getfield 24, 3), (7, .getfield 28, 3), (10, .if_icmp .ge 28, 3), (13, .aload_n 0, 1), (14, .getfield 18, 3), (17, .aload_n 0, 1), (18, .getfield 24, 3), (21, .getfield 56, 3), (24, .iload_n 1, 1), (25, .iaload, 1), (26, .iaload, 1), (27, .ifCond .le 5, 3), (30, .iload_n 1, 1), (31, .ireturn, 1), (32, .iinc 1 1, 3), (35, .goto (-33), 3), (38, .aload_n 0, 1), (39, .getfield 24, 3), (42, .getfield 28, 3), (45, .ireturn, 1)]
def i_LO_readyRank : Nat → Option (Instr × Nat) := am_find q_LO_readyRank
theorem d_LO_readyRank_0 : decode b_LO_readyRank 0 = .ok (.iconst 0, 1) := by decide +kernel
theorem d_LO_readyRank_1 : decode b_LO_readyRank 1 = .ok (.istore_n 1, 1) := by decide +kernel
theorem d_LO_readyRank_2 : decode b_LO_readyRank 2 = .ok (.iload_n 1, 1) := by decide +kernel
theorem d_LO_readyRank_3 : decode b_LO_readyRank 3 = .ok (.aload_n 0, 1) := by decide +kernel
theorem d_LO_readyRank_4 : decode b_LO_readyRank 4 = .ok (.getfield 24, 3) := by decide +kernel
theorem d_LO_readyRank_7 : decode b_LO_readyRank 7 = .ok (.getfield 28, 3) := by decide +kernel
theorem d_LO_readyRank_10 : decode b_LO_readyRank 10 = .ok (.if_icmp .ge 28, 3) := by decide +kernel
theorem d_LO_readyRank_13 : decode b_LO_readyRank 13 = .ok (.aload_n 0, 1) := by decide +kernel
theorem d_LO_readyRank_14 : decode b_LO_readyRank 14 = .ok (.getfield 18, 3) := by decide +kernel
theorem d_LO_readyRank_17 : decode b_LO_readyRank 17 = .ok (.aload_n 0, 1) := by decide +kernel
theorem d_LO_readyRank_18 : decode b_LO_readyRank 18 = .ok (.getfield 24, 3) := by decide +kernel
theorem d_LO_readyRank_21 : decode b_LO_readyRank 21 = .ok (.getfield 56, 3) := by decide +kernel
theorem d_LO_readyRank_24 : decode b_LO_readyRank 24 = .ok (.iload_n 1, 1) := by decide +kernel
theorem d_LO_readyRank_25 : decode b_LO_readyRank 25 = .ok (.iaload, 1) := by decide +kernel
theorem d_LO_readyRank_26 : decode b_LO_readyRank 26 = .ok (.iaload, 1) := by decide +kernel
theorem d_LO_readyRank_27 : decode b_LO_readyRank 27 = .ok (.ifCond .le 5, 3) := by decide +kernel
theorem d_LO_readyRank_30 : decode b_LO_readyRank 30 = .ok (.iload_n 1, 1) := by decide +kernel
theorem d_LO_readyRank_31 : decode b_LO_readyRank 31 = .ok (.ireturn, 1) := by decide +kernel
theorem d_LO_readyRank_32 : decode b_LO_readyRank 32 = .ok (.iinc 1 1, 3) := by decide +kernel
theorem d_LO_readyRank_35 : decode b_LO_readyRank 35 = .ok (.goto (-33), 3) := by decide +kernel
theorem d_LO_readyRank_38 : decode b_LO_readyRank 38 = .ok (.aload_n 0, 1) := by decide +kernel
theorem d_LO_readyRank_39 : decode b_LO_readyRank 39 = .ok (.getfield 24, 3) := by decide +kernel
theorem d_LO_readyRank_42 : decode b_LO_readyRank 42 = .ok (.getfield 28, 3) := by decide +kernel
theorem d_LO_readyRank_45 : decode b_LO_readyRank 45 = .ok (.ireturn, 1) := by decide +kernel
theorem d_LO_readyRank : ∀ z ∈ q_LO_readyRank, decode b_LO_readyRank z.1 = .ok z.2 := List.forall_mem_cons.mpr ⟨d_LO_readyRank_0, List.forall_mem_cons.mpr ⟨d_LO_readyRank_1, List.forall_mem_cons.mpr ⟨d_LO_readyRank_2, List.forall_mem_cons.mpr ⟨d_LO_readyRank_3, List.forall_mem_cons.mpr ⟨d_LO_readyRank_4, List.forall_mem_cons.mpr ⟨d_LO_readyRank_7, List.forall_mem_cons.mpr ⟨d_LO_readyRank_10, List.forall_mem_cons.mpr ⟨d_LO_readyRank_13, List.forall_mem_cons.mpr ⟨d_LO_readyRank_14, List.forall_mem_cons.mpr ⟨d_LO_readyRank_17, List.forall_mem_cons.mpr ⟨d_LO_readyRank_18, List.forall_mem_cons.mpr ⟨d_LO_readyRank_21, List.forall_mem_cons.mpr ⟨d_LO_readyRank_24, List.forall_mem_cons.mpr ⟨d_LO_readyRank_25, List.forall_mem_cons.mpr ⟨d_LO_readyRank_26, List.forall_mem_cons.mpr ⟨d_LO_readyRank_27, List.forall_mem_cons.mpr ⟨d_LO_readyRank_30, List.forall_mem_cons.mpr ⟨d_LO_readyRank_31, List.forall_mem_cons.mpr ⟨d_LO_readyRank_32, List.forall_mem_cons.mpr ⟨d_LO_readyRank_35, List.forall_mem_cons.mpr ⟨d_LO_readyRank_38, List.forall_mem_cons.mpr ⟨d_LO_readyRank_39, List.forall_mem_cons.mpr ⟨d_LO_readyRank_42, List.forall_mem_cons.mpr ⟨d_LO_readyRank_45, fun _ h => absurd h List.not_mem_nil⟩⟩⟩⟩⟩⟩⟩⟩⟩⟩⟩⟩⟩⟩⟩⟩⟩⟩⟩⟩⟩⟩⟩⟩
theorem i_LO_readyRank_ok : ∀ pc i n, i_LO_readyRank pc = some (i, n) → decode b_LO_readyRank pc = .ok (i, n) := fun pc i n h => d_LO_readyRank (pc, i, n) (am_find_mem h)
theorem i_LO_readyRank_0 : i_LO_readyRank 0 = some (.iconst 0, 1) := rfl
theorem i_LO_readyRank_1 : i_LO_readyRank 1 = some (.istore_n 1, 1) := rfl
theorem i_LO_readyRank_2 : i_LO_readyRank 2 = some (.iload_n 1, 1) := rfl
theorem i_LO_readyRank_3 : i_LO_readyRank 3 = some (.aload_n 0, 1) := rfl
theorem i_LO_readyRank_4 : i_LO_readyRank 4 = some (.getfield 24, 3) := rfl
theorem i_LO_readyRank_7 : i_LO_readyRank 7 = some (.getfield 28, 3) := rfl
theorem i_LO_readyRank_10 : i_LO_readyRank 10 = some (.if_icmp .ge 28, 3) := rfl
theorem i_LO_readyRank_13 : i_LO_readyRank 13 = some (.aload_n 0, 1) := rfl
theorem i_LO_readyRank_14 : i_LO_readyRank 14 = some (.getfield 18, 3) := rfl
theorem i_LO_readyRank_17 : i_LO_readyRank 17 = some (.aload_n 0, 1) := rfl
theorem i_LO_readyRank_18 : i_LO_readyRank 18 = some (.getfield 24, 3) := rfl
theorem i_LO_readyRank_21 : i_LO_readyRank 21 = some (.getfield 56, 3) := rfl
theorem i_LO_readyRank_24 : i_LO_readyRank 24 = some (.iload_n 1, 1) := rfl
theorem i_LO_readyRank_25 : i_LO_readyRank 25 = some (.iaload, 1) := rfl
theorem i_LO_readyRank_26 : i_LO_readyRank 26 = some (.iaload, 1) := rfl
theorem i_LO_readyRank_27 : i_LO_readyRank 27 = some (.ifCond .le 5, 3) := rfl
theorem i_LO_readyRank_30 : i_LO_readyRank 30 = some (.iload_n 1, 1) := rfl
theorem i_LO_readyRank_31 : i_LO_readyRank 31 = some (.ireturn, 1) := rfl
theorem i_LO_readyRank_32 : i_LO_readyRank 32 = some (.iinc 1 1, 3) := rfl
theorem i_LO_readyRank_35 : i_LO_readyRank 35 = some (.goto (-33), 3) := rfl
theorem i_LO_readyRank_38 : i_LO_readyRank 38 = some (.aload_n 0, 1) := rfl
theorem i_LO_readyRank_39 : i_LO_readyRank 39 = some (.getfield 24, 3) := rfl
theorem i_LO_readyRank_42 : i_LO_readyRank 42 = some (.getfield 28, 3) := rfl
theorem i_LO_readyRank_45 : i_LO_readyRank 45 = some (.ireturn, 1) := rfl
abbrev w_LO_readyRank : List Jvm.Cond := Jvm.Cond.code y_LO_readyRank b_LO_readyRank 2 (some .int) :: vw_W
theorem c_LO_readyRank : Jvm.Cond.code y_LO_readyRank b_LO_readyRank 2 (some .int) ∈ vw_W := vw_t 587 (by decide +kernel) (by decide +kernel)
abbrev r_LO_readyRank : Room := { frames := 0, cells := 0, slots := 0, locals := 0 }
abbrev b_QU_first : ByteArray := prog_7_method_4_code
abbrev y_QU_first : MethodName := ⟨"ServerDesk$Queue", "first", "()I"⟩
def q_QU_first : List (Nat × Instr × Nat) := [(0, .iconst (-1), 1), (1, .istore_n 1, 1), (2, .iconst 0, 1), (3, .istore_n 2, 1), (4, .aload_n 0, 1), (5, .getfield 22, 3), (8, .ifCond .le 56, 3), (11, .iload_n 2, 1), (12, .aload_n 0, 1), (13, .getfield 18, 3), (16, .if_icmp .ge 48, 3), (19, .aload_n 0, 1), (20, .getfield 9, 3), (23, .iload_n 2, 1), (24, .iaload, 1), (25, .ifCond .le 17, 3), (28, .aload_n 0, 1), (29, .getfield 25, 3), (32, .getfield 40, 3), (35, .iload_n 2, 1), (36, .baload, 1), (37, .ifCond .eq 5, 3), (40, .iload_n 2, 1), (41, .ireturn, 1), (42, .aload_n 0, 1), (43, .getfield 9, 3), (46, .iload_n 2, 1), (47, .iaload, 1), (48, .ifCond .le 10, 3), (51, .iload_n 1, 1), (52, .iconst (-1), 1), (53, .if_icmp .ne 5, 3), (56, .iload_n 2, 1), (57, .istore_n 1, 1), (58, .iinc 2 1, 3), (61, .goto (-57), 3), (64, .iload_n 1, 1), (65, .ireturn, 1)]
def i_QU_first : Nat → Option (Instr × Nat) := am_find q_QU_first
theorem d_QU_first_0 : decode b_QU_first 0 = .ok (.iconst (-1), 1) := by decide +kernel
theorem d_QU_first_1 : decode b_QU_first 1 = .ok (.istore_n 1, 1) := by decide +kernel
theorem d_QU_first_2 : decode b_QU_first 2 = .ok (.iconst 0, 1) := by decide +kernel
theorem d_QU_first_3 : decode b_QU_first 3 = .ok (.istore_n 2, 1) := by decide +kernel
theorem d_QU_first_4 : decode b_QU_first 4 = .ok (.aload_n 0, 1) := by decide +kernel
theorem d_QU_first_5 : decode b_QU_first 5 = .ok (.getfield 22, 3) := by decide +kernel
theorem d_QU_first_8 : decode b_QU_first 8 = .ok (.ifCond .le 56, 3) := by decide +kernel
theorem d_QU_first_11 : decode b_QU_first 11 = .ok (.iload_n 2, 1) := by decide +kernel
theorem d_QU_first_12 : decode b_QU_first 12 = .ok (.aload_n 0, 1) := by decide +kernel
theorem d_QU_first_13 : decode b_QU_first 13 = .ok (.getfield 18, 3) := by decide +kernel
theorem d_QU_first_16 : decode b_QU_first 16 = .ok (.if_icmp .ge 48, 3) := by decide +kernel
theorem d_QU_first_19 : decode b_QU_first 19 = .ok (.aload_n 0, 1) := by decide +kernel
theorem d_QU_first_20 : decode b_QU_first 20 = .ok (.getfield 9, 3) := by decide +kernel
theorem d_QU_first_23 : decode b_QU_first 23 = .ok (.iload_n 2, 1) := by decide +kernel
theorem d_QU_first_24 : decode b_QU_first 24 = .ok (.iaload, 1) := by decide +kernel
theorem d_QU_first_25 : decode b_QU_first 25 = .ok (.ifCond .le 17, 3) := by decide +kernel
theorem d_QU_first_28 : decode b_QU_first 28 = .ok (.aload_n 0, 1) := by decide +kernel
theorem d_QU_first_29 : decode b_QU_first 29 = .ok (.getfield 25, 3) := by decide +kernel
theorem d_QU_first_32 : decode b_QU_first 32 = .ok (.getfield 40, 3) := by decide +kernel
theorem d_QU_first_35 : decode b_QU_first 35 = .ok (.iload_n 2, 1) := by decide +kernel
theorem d_QU_first_36 : decode b_QU_first 36 = .ok (.baload, 1) := by decide +kernel
theorem d_QU_first_37 : decode b_QU_first 37 = .ok (.ifCond .eq 5, 3) := by decide +kernel
theorem d_QU_first_40 : decode b_QU_first 40 = .ok (.iload_n 2, 1) := by decide +kernel
theorem d_QU_first_41 : decode b_QU_first 41 = .ok (.ireturn, 1) := by decide +kernel
theorem d_QU_first_42 : decode b_QU_first 42 = .ok (.aload_n 0, 1) := by decide +kernel
theorem d_QU_first_43 : decode b_QU_first 43 = .ok (.getfield 9, 3) := by decide +kernel
theorem d_QU_first_46 : decode b_QU_first 46 = .ok (.iload_n 2, 1) := by decide +kernel
theorem d_QU_first_47 : decode b_QU_first 47 = .ok (.iaload, 1) := by decide +kernel
theorem d_QU_first_48 : decode b_QU_first 48 = .ok (.ifCond .le 10, 3) := by decide +kernel
theorem d_QU_first_51 : decode b_QU_first 51 = .ok (.iload_n 1, 1) := by decide +kernel
theorem d_QU_first_52 : decode b_QU_first 52 = .ok (.iconst (-1), 1) := by decide +kernel
theorem d_QU_first_53 : decode b_QU_first 53 = .ok (.if_icmp .ne 5, 3) := by decide +kernel
theorem d_QU_first_56 : decode b_QU_first 56 = .ok (.iload_n 2, 1) := by decide +kernel
theorem d_QU_first_57 : decode b_QU_first 57 = .ok (.istore_n 1, 1) := by decide +kernel
theorem d_QU_first_58 : decode b_QU_first 58 = .ok (.iinc 2 1, 3) := by decide +kernel
theorem d_QU_first_61 : decode b_QU_first 61 = .ok (.goto (-57), 3) := by decide +kernel
theorem d_QU_first_64 : decode b_QU_first 64 = .ok (.iload_n 1, 1) := by decide +kernel
theorem d_QU_first_65 : decode b_QU_first 65 = .ok (.ireturn, 1) := by decide +kernel
theorem d_QU_first : ∀ z ∈ q_QU_first, decode b_QU_first z.1 = .ok z.2 := List.forall_mem_cons.mpr ⟨d_QU_first_0, List.forall_mem_cons.mpr ⟨d_QU_first_1, List.forall_mem_cons.mpr ⟨d_QU_first_2, List.forall_mem_cons.mpr ⟨d_QU_first_3, List.forall_mem_cons.mpr ⟨d_QU_first_4, List.forall_mem_cons.mpr ⟨d_QU_first_5, List.forall_mem_cons.mpr ⟨d_QU_first_8, List.forall_mem_cons.mpr ⟨d_QU_first_11, List.forall_mem_cons.mpr ⟨d_QU_first_12, List.forall_mem_cons.mpr ⟨d_QU_first_13, List.forall_mem_cons.mpr ⟨d_QU_first_16, List.forall_mem_cons.mpr ⟨d_QU_first_19, List.forall_mem_cons.mpr ⟨d_QU_first_20, List.forall_mem_cons.mpr ⟨d_QU_first_23, List.forall_mem_cons.mpr ⟨d_QU_first_24, List.forall_mem_cons.mpr ⟨d_QU_first_25, List.forall_mem_cons.mpr ⟨d_QU_first_28, List.forall_mem_cons.mpr ⟨d_QU_first_29, List.forall_mem_cons.mpr ⟨d_QU_first_32, List.forall_mem_cons.mpr ⟨d_QU_first_35, List.forall_mem_cons.mpr ⟨d_QU_first_36, List.forall_mem_cons.mpr ⟨d_QU_first_37, List.forall_mem_cons.mpr ⟨d_QU_first_40, List.forall_mem_cons.mpr ⟨d_QU_first_41, List.forall_mem_cons.mpr ⟨d_QU_first_42, List.forall_mem_cons.mpr ⟨d_QU_first_43, List.forall_mem_cons.mpr ⟨d_QU_first_46, List.forall_mem_cons.mpr ⟨d_QU_first_47, List.forall_mem_cons.mpr ⟨d_QU_first_48, List.forall_mem_cons.mpr ⟨d_QU_first_51, List.forall_mem_cons.mpr ⟨d_QU_first_52, List.forall_mem_cons.mpr ⟨d_QU_first_53, List.forall_mem_cons.mpr ⟨d_QU_first_56, List.forall_mem_cons.mpr ⟨d_QU_first_57, List.forall_mem_cons.mpr ⟨d_QU_first_58, List.forall_mem_cons.mpr ⟨d_QU_first_61, List.forall_mem_cons.mpr ⟨d_QU_first_64, List.forall_mem_cons.mpr ⟨d_QU_first_65, fun _ h => absurd h List.not_mem_nil⟩⟩⟩⟩⟩⟩⟩⟩⟩⟩⟩⟩⟩⟩⟩⟩⟩⟩⟩⟩⟩⟩⟩⟩⟩⟩⟩⟩⟩⟩⟩⟩⟩⟩⟩⟩⟩⟩
theorem i_QU_first_ok : ∀ pc i n, i_QU_first pc = some (i, n) → decode b_QU_first pc = .ok (i, n) := fun pc i n h => d_QU_first (pc, i, n) (am_find_mem h)
theorem i_QU_first_0 : i_QU_first 0 = some (.iconst (-1), 1) := rfl
theorem i_QU_first_1 : i_QU_first 1 = some (.istore_n 1, 1) := rfl
theorem i_QU_first_2 : i_QU_first 2 = some (.iconst 0, 1) := rfl
theorem i_QU_first_3 : i_QU_first 3 = some (.istore_n 2, 1) := rfl
theorem i_QU_first_4 : i_QU_first 4 = some (.aload_n 0, 1) := rfl
theorem i_QU_first_5 : i_QU_first 5 = some (.getfield 22, 3) := rfl
theorem i_QU_first_8 : i_QU_first 8 = some (.ifCond .le 56, 3) := rfl
theorem i_QU_first_11 : i_QU_first 11 = some (.iload_n 2, 1) := rfl
theorem i_QU_first_12 : i_QU_first 12 = some (.aload_n 0, 1) := rfl
theorem i_QU_first_13 : i_QU_first 13 = some (.getfield 18, 3) := rfl
theorem i_QU_first_16 : i_QU_first 16 = some (.if_icmp .ge 48, 3) := rfl
theorem i_QU_first_19 : i_QU_first 19 = some (.aload_n 0, 1) := rfl
theorem i_QU_first_20 : i_QU_first 20 = some (.getfield 9, 3) := rfl
theorem i_QU_first_23 : i_QU_first 23 = some (.iload_n 2, 1) := rfl
theorem i_QU_first_24 : i_QU_first 24 = some (.iaload, 1) := rfl
theorem i_QU_first_25 : i_QU_first 25 = some (.ifCond .le 17, 3) := rfl
theorem i_QU_first_28 : i_QU_first 28 = some (.aload_n 0, 1) := rfl
theorem i_QU_first_29 : i_QU_first 29 = some (.getfield 25, 3) := rfl
theorem i_QU_first_32 : i_QU_first 32 = some (.getfield 40, 3) := rfl
theorem i_QU_first_35 : i_QU_first 35 = some (.iload_n 2, 1) := rfl
theorem i_QU_first_36 : i_QU_first 36 = some (.baload, 1) := rfl
theorem i_QU_first_37 : i_QU_first 37 = some (.ifCond .eq 5, 3) := rfl
theorem i_QU_first_40 : i_QU_first 40 = some (.iload_n 2, 1) := rfl
theorem i_QU_first_41 : i_QU_first 41 = some (.ireturn, 1) := rfl
theorem i_QU_first_42 : i_QU_first 42 = some (.aload_n 0, 1) := rfl
theorem i_QU_first_43 : i_QU_first 43 = some (.getfield 9, 3) := rfl
theorem i_QU_first_46 : i_QU_first 46 = some (.iload_n 2, 1) := rfl
theorem i_QU_first_47 : i_QU_first 47 = some (.iaload, 1) := rfl
theorem i_QU_first_48 : i_QU_first 48 = some (.ifCond .le 10, 3) := rfl
theorem i_QU_first_51 : i_QU_first 51 = some (.iload_n 1, 1) := rfl
theorem i_QU_first_52 : i_QU_first 52 = some (.iconst (-1), 1) := rfl
theorem i_QU_first_53 : i_QU_first 53 = some (.if_icmp .ne 5, 3) := rfl
theorem i_QU_first_56 : i_QU_first 56 = some (.iload_n 2, 1) := rfl
theorem i_QU_first_57 : i_QU_first 57 = some (.istore_n 1, 1) := rfl
theorem i_QU_first_58 : i_QU_first 58 = some (.iinc 2 1, 3) := rfl
theorem i_QU_first_61 : i_QU_first 61 = some (.goto (-57), 3) := rfl
theorem i_QU_first_64 : i_QU_first 64 = some (.iload_n 1, 1) := rfl
theorem i_QU_first_65 : i_QU_first 65 = some (.ireturn, 1) := rfl
abbrev w_QU_first : List Jvm.Cond := Jvm.Cond.code y_QU_first b_QU_first 3 (some .int) :: vw_W
theorem c_QU_first : Jvm.Cond.code y_QU_first b_QU_first 3 (some .int) ∈ vw_W := vw_t 591 (by decide +kernel) (by decide +kernel)
abbrev r_QU_first : Room := { frames := 0, cells := 0, slots := 0, locals := 0 }
abbrev b_SM_measure : ByteArray := prog_10_method_2_code
abbrev y_SM_measure : MethodName := ⟨"ServerDesk$SlackMeter", "measure", "(LServerDesk$Load;II)I"⟩
def q_SM_measure : List (Nat × Instr × Nat) := [(0, .aload_n 0, 1), (1, .aload_n 1, 1), (2, .iload_n 2, 1), (3, .invokevirtual 31, 3), (6, .istore 4, 2), (8, .iload_n 3, 1), (9, .istore 5, 2), (11, .iload_n 2, 1), (12, .istore 6, 2), (14, .iload 6, 2), (16, .iload 4, 2), (18, .if_icmp .ge 123, 3), (21, .aload_n 0, 1), (22, .iload 5, 2), (24, .iload 6, 2), (26, .invokevirtual 35, 3), (29, .ifCond .ne 112, 3), (32, .aload_n 0, 1), (33, .getfield 27, 3), (36, .iload 6, 2), (38, .invokevirtual 39, 3), (41, .aload_n 0, 1), (42, .getfield 27, 3), (45, .invokevirtual 43, 3), (48, .istore 7, 2), (50, .aload_n 0, 1), (51, .getfield 27, 3), (54, .iload 7, 2), (56, .invokevirtual 47, 3), (59, .iconst 0, 1), (60, .istore 8, 2), (62, .iload 8, 2), (64, .iload 7, 2), (66, .if_icmp .ge 20, 3), (69, .aload_n 0, 1), (70, .getfield 9, 3), (73, .iload 8, 2), (75, .dup2, 1), (76, .iaload, 1), (77, .iconst 1, 1), (78, .iadd, 1), (79, .iastore, 1), (80, .iinc 8 1, 3), (83, .goto (-21), 3), (86, .iconst 0, 1), (87, .istore 8, 2), (89, .iload 8, 2), (91, .aload_n 0, 1), (92, .getfield 18, 3), (95, .getfield 50, 3), (98, .if_icmp .ge 37, 3), (101, .aload_n 0, 1), (102, .getfield 15, 3), (105, .iload 8, 2), (107, .iaload, 1), (108, .iload 6, 2), (110, .iconst 1, 1), (111, .iadd, 1), (112, .if_icmp .ne 17, 3), (115, .iload 5, 2), (117, .aload_n 0, 1), (118, .getfield 9, 3), (121, .iload 8, 2), (123, .iaload, 1), (124, .invokestatic 56, 3), (127, .istore 5, 2), (129, .iinc 8 1, 3), (132, .goto (-43), 3), (135, .iinc 6 1, 3), (138, .goto (-124), 3), (141, .iload 5, 2), (143, .ireturn, 1)]
def i_SM_measure : Nat → Option (Instr × Nat) := am_find q_SM_measure
theorem d_SM_measure_0 : decode b_SM_measure 0 = .ok (.aload_n 0, 1) := by decide +kernel
theorem d_SM_measure_1 : decode b_SM_measure 1 = .ok (.aload_n 1, 1) := by decide +kernel
theorem d_SM_measure_2 : decode b_SM_measure 2 = .ok (.iload_n 2, 1) := by decide +kernel
theorem d_SM_measure_3 : decode b_SM_measure 3 = .ok (.invokevirtual 31, 3) := by decide +kernel
theorem d_SM_measure_6 : decode b_SM_measure 6 = .ok (.istore 4, 2) := by decide +kernel
theorem d_SM_measure_8 : decode b_SM_measure 8 = .ok (.iload_n 3, 1) := by decide +kernel
theorem d_SM_measure_9 : decode b_SM_measure 9 = .ok (.istore 5, 2) := by decide +kernel
theorem d_SM_measure_11 : decode b_SM_measure 11 = .ok (.iload_n 2, 1) := by decide +kernel
theorem d_SM_measure_12 : decode b_SM_measure 12 = .ok (.istore 6, 2) := by decide +kernel
theorem d_SM_measure_14 : decode b_SM_measure 14 = .ok (.iload 6, 2) := by decide +kernel
theorem d_SM_measure_16 : decode b_SM_measure 16 = .ok (.iload 4, 2) := by decide +kernel
theorem d_SM_measure_18 : decode b_SM_measure 18 = .ok (.if_icmp .ge 123, 3) := by decide +kernel
theorem d_SM_measure_21 : decode b_SM_measure 21 = .ok (.aload_n 0, 1) := by decide +kernel
theorem d_SM_measure_22 : decode b_SM_measure 22 = .ok (.iload 5, 2) := by decide +kernel
theorem d_SM_measure_24 : decode b_SM_measure 24 = .ok (.iload 6, 2) := by decide +kernel
theorem d_SM_measure_26 : decode b_SM_measure 26 = .ok (.invokevirtual 35, 3) := by decide +kernel
theorem d_SM_measure_29 : decode b_SM_measure 29 = .ok (.ifCond .ne 112, 3) := by decide +kernel
theorem d_SM_measure_32 : decode b_SM_measure 32 = .ok (.aload_n 0, 1) := by decide +kernel
theorem d_SM_measure_33 : decode b_SM_measure 33 = .ok (.getfield 27, 3) := by decide +kernel
theorem d_SM_measure_36 : decode b_SM_measure 36 = .ok (.iload 6, 2) := by decide +kernel
theorem d_SM_measure_38 : decode b_SM_measure 38 = .ok (.invokevirtual 39, 3) := by decide +kernel
theorem d_SM_measure_41 : decode b_SM_measure 41 = .ok (.aload_n 0, 1) := by decide +kernel
theorem d_SM_measure_42 : decode b_SM_measure 42 = .ok (.getfield 27, 3) := by decide +kernel
theorem d_SM_measure_45 : decode b_SM_measure 45 = .ok (.invokevirtual 43, 3) := by decide +kernel
theorem d_SM_measure_48 : decode b_SM_measure 48 = .ok (.istore 7, 2) := by decide +kernel
theorem d_SM_measure_50 : decode b_SM_measure 50 = .ok (.aload_n 0, 1) := by decide +kernel
theorem d_SM_measure_51 : decode b_SM_measure 51 = .ok (.getfield 27, 3) := by decide +kernel
theorem d_SM_measure_54 : decode b_SM_measure 54 = .ok (.iload 7, 2) := by decide +kernel
theorem d_SM_measure_56 : decode b_SM_measure 56 = .ok (.invokevirtual 47, 3) := by decide +kernel
theorem d_SM_measure_59 : decode b_SM_measure 59 = .ok (.iconst 0, 1) := by decide +kernel
theorem d_SM_measure_60 : decode b_SM_measure 60 = .ok (.istore 8, 2) := by decide +kernel
theorem d_SM_measure_62 : decode b_SM_measure 62 = .ok (.iload 8, 2) := by decide +kernel
theorem d_SM_measure_64 : decode b_SM_measure 64 = .ok (.iload 7, 2) := by decide +kernel
theorem d_SM_measure_66 : decode b_SM_measure 66 = .ok (.if_icmp .ge 20, 3) := by decide +kernel
theorem d_SM_measure_69 : decode b_SM_measure 69 = .ok (.aload_n 0, 1) := by decide +kernel
theorem d_SM_measure_70 : decode b_SM_measure 70 = .ok (.getfield 9, 3) := by decide +kernel
theorem d_SM_measure_73 : decode b_SM_measure 73 = .ok (.iload 8, 2) := by decide +kernel
theorem d_SM_measure_75 : decode b_SM_measure 75 = .ok (.dup2, 1) := by decide +kernel
theorem d_SM_measure_76 : decode b_SM_measure 76 = .ok (.iaload, 1) := by decide +kernel
theorem d_SM_measure_77 : decode b_SM_measure 77 = .ok (.iconst 1, 1) := by decide +kernel
theorem d_SM_measure_78 : decode b_SM_measure 78 = .ok (.iadd, 1) := by decide +kernel
theorem d_SM_measure_79 : decode b_SM_measure 79 = .ok (.iastore, 1) := by decide +kernel
theorem d_SM_measure_80 : decode b_SM_measure 80 = .ok (.iinc 8 1, 3) := by decide +kernel
theorem d_SM_measure_83 : decode b_SM_measure 83 = .ok (.goto (-21), 3) := by decide +kernel
theorem d_SM_measure_86 : decode b_SM_measure 86 = .ok (.iconst 0, 1) := by decide +kernel
theorem d_SM_measure_87 : decode b_SM_measure 87 = .ok (.istore 8, 2) := by decide +kernel
theorem d_SM_measure_89 : decode b_SM_measure 89 = .ok (.iload 8, 2) := by decide +kernel
theorem d_SM_measure_91 : decode b_SM_measure 91 = .ok (.aload_n 0, 1) := by decide +kernel
theorem d_SM_measure_92 : decode b_SM_measure 92 = .ok (.getfield 18, 3) := by decide +kernel
theorem d_SM_measure_95 : decode b_SM_measure 95 = .ok (.getfield 50, 3) := by decide +kernel
theorem d_SM_measure_98 : decode b_SM_measure 98 = .ok (.if_icmp .ge 37, 3) := by decide +kernel
theorem d_SM_measure_101 : decode b_SM_measure 101 = .ok (.aload_n 0, 1) := by decide +kernel
theorem d_SM_measure_102 : decode b_SM_measure 102 = .ok (.getfield 15, 3) := by decide +kernel
theorem d_SM_measure_105 : decode b_SM_measure 105 = .ok (.iload 8, 2) := by decide +kernel
theorem d_SM_measure_107 : decode b_SM_measure 107 = .ok (.iaload, 1) := by decide +kernel
theorem d_SM_measure_108 : decode b_SM_measure 108 = .ok (.iload 6, 2) := by decide +kernel
theorem d_SM_measure_110 : decode b_SM_measure 110 = .ok (.iconst 1, 1) := by decide +kernel
theorem d_SM_measure_111 : decode b_SM_measure 111 = .ok (.iadd, 1) := by decide +kernel
theorem d_SM_measure_112 : decode b_SM_measure 112 = .ok (.if_icmp .ne 17, 3) := by decide +kernel
theorem d_SM_measure_115 : decode b_SM_measure 115 = .ok (.iload 5, 2) := by decide +kernel
theorem d_SM_measure_117 : decode b_SM_measure 117 = .ok (.aload_n 0, 1) := by decide +kernel
theorem d_SM_measure_118 : decode b_SM_measure 118 = .ok (.getfield 9, 3) := by decide +kernel
theorem d_SM_measure_121 : decode b_SM_measure 121 = .ok (.iload 8, 2) := by decide +kernel
theorem d_SM_measure_123 : decode b_SM_measure 123 = .ok (.iaload, 1) := by decide +kernel
theorem d_SM_measure_124 : decode b_SM_measure 124 = .ok (.invokestatic 56, 3) := by decide +kernel
theorem d_SM_measure_127 : decode b_SM_measure 127 = .ok (.istore 5, 2) := by decide +kernel
theorem d_SM_measure_129 : decode b_SM_measure 129 = .ok (.iinc 8 1, 3) := by decide +kernel
theorem d_SM_measure_132 : decode b_SM_measure 132 = .ok (.goto (-43), 3) := by decide +kernel
theorem d_SM_measure_135 : decode b_SM_measure 135 = .ok (.iinc 6 1, 3) := by decide +kernel
theorem d_SM_measure_138 : decode b_SM_measure 138 = .ok (.goto (-124), 3) := by decide +kernel
theorem d_SM_measure_141 : decode b_SM_measure 141 = .ok (.iload 5, 2) := by decide +kernel
theorem d_SM_measure_143 : decode b_SM_measure 143 = .ok (.ireturn, 1) := by decide +kernel
theorem d_SM_measure : ∀ z ∈ q_SM_measure, decode b_SM_measure z.1 = .ok z.2 := List.forall_mem_cons.mpr ⟨d_SM_measure_0, List.forall_mem_cons.mpr ⟨d_SM_measure_1, List.forall_mem_cons.mpr ⟨d_SM_measure_2, List.forall_mem_cons.mpr ⟨d_SM_measure_3, List.forall_mem_cons.mpr ⟨d_SM_measure_6, List.forall_mem_cons.mpr ⟨d_SM_measure_8, List.forall_mem_cons.mpr ⟨d_SM_measure_9, List.forall_mem_cons.mpr ⟨d_SM_measure_11, List.forall_mem_cons.mpr ⟨d_SM_measure_12, List.forall_mem_cons.mpr ⟨d_SM_measure_14, List.forall_mem_cons.mpr ⟨d_SM_measure_16, List.forall_mem_cons.mpr ⟨d_SM_measure_18, List.forall_mem_cons.mpr ⟨d_SM_measure_21, List.forall_mem_cons.mpr ⟨d_SM_measure_22, List.forall_mem_cons.mpr ⟨d_SM_measure_24, List.forall_mem_cons.mpr ⟨d_SM_measure_26, List.forall_mem_cons.mpr ⟨d_SM_measure_29, List.forall_mem_cons.mpr ⟨d_SM_measure_32, List.forall_mem_cons.mpr ⟨d_SM_measure_33, List.forall_mem_cons.mpr ⟨d_SM_measure_36, List.forall_mem_cons.mpr ⟨d_SM_measure_38, List.forall_mem_cons.mpr ⟨d_SM_measure_41, List.forall_mem_cons.mpr ⟨d_SM_measure_42, List.forall_mem_cons.mpr ⟨d_SM_measure_45, List.forall_mem_cons.mpr ⟨d_SM_measure_48, List.forall_mem_cons.mpr ⟨d_SM_measure_50, List.forall_mem_cons.mpr ⟨d_SM_measure_51, List.forall_mem_cons.mpr ⟨d_SM_measure_54, List.forall_mem_cons.mpr ⟨d_SM_measure_56, List.forall_mem_cons.mpr ⟨d_SM_measure_59, List.forall_mem_cons.mpr ⟨d_SM_measure_60, List.forall_mem_cons.mpr ⟨d_SM_measure_62, List.forall_mem_cons.mpr ⟨d_SM_measure_64, List.forall_mem_cons.mpr ⟨d_SM_measure_66, List.forall_mem_cons.mpr ⟨d_SM_measure_69, List.forall_mem_cons.mpr ⟨d_SM_measure_70, List.forall_mem_cons.mpr ⟨d_SM_measure_73, List.forall_mem_cons.mpr ⟨d_SM_measure_75, List.forall_mem_cons.mpr ⟨d_SM_measure_76, List.forall_mem_cons.mpr ⟨d_SM_measure_77, List.forall_mem_cons.mpr ⟨d_SM_measure_78, List.forall_mem_cons.mpr ⟨d_SM_measure_79, List.forall_mem_cons.mpr ⟨d_SM_measure_80, List.forall_mem_cons.mpr ⟨d_SM_measure_83, List.forall_mem_cons.mpr ⟨d_SM_measure_86, List.forall_mem_cons.mpr ⟨d_SM_measure_87, List.forall_mem_cons.mpr ⟨d_SM_measure_89, List.forall_mem_cons.mpr ⟨d_SM_measure_91, List.forall_mem_cons.mpr ⟨d_SM_measure_92, List.forall_mem_cons.mpr ⟨d_SM_measure_95, List.forall_mem_cons.mpr ⟨d_SM_measure_98, List.forall_mem_cons.mpr ⟨d_SM_measure_101, List.forall_mem_cons.mpr ⟨d_SM_measure_102, List.forall_mem_cons.mpr ⟨d_SM_measure_105, List.forall_mem_cons.mpr ⟨d_SM_measure_107, List.forall_mem_cons.mpr ⟨d_SM_measure_108, List.forall_mem_cons.mpr ⟨d_SM_measure_110, List.forall_mem_cons.mpr ⟨d_SM_measure_111, List.forall_mem_cons.mpr ⟨d_SM_measure_112, List.forall_mem_cons.mpr ⟨d_SM_measure_115, List.forall_mem_cons.mpr ⟨d_SM_measure_117, List.forall_mem_cons.mpr ⟨d_SM_measure_118, List.forall_mem_cons.mpr ⟨d_SM_measure_121, List.forall_mem_cons.mpr ⟨d_SM_measure_123, List.forall_mem_cons.mpr ⟨d_SM_measure_124, List.forall_mem_cons.mpr ⟨d_SM_measure_127, List.forall_mem_cons.mpr ⟨d_SM_measure_129, List.forall_mem_cons.mpr ⟨d_SM_measure_132, List.forall_mem_cons.mpr ⟨d_SM_measure_135, List.forall_mem_cons.mpr ⟨d_SM_measure_138, List.forall_mem_cons.mpr ⟨d_SM_measure_141, List.forall_mem_cons.mpr ⟨d_SM_measure_143, fun _ h => absurd h List.not_mem_nil⟩⟩⟩⟩⟩⟩⟩⟩⟩⟩⟩⟩⟩⟩⟩⟩⟩⟩⟩⟩⟩⟩⟩⟩⟩⟩⟩⟩⟩⟩⟩⟩⟩⟩⟩⟩⟩⟩⟩⟩⟩⟩⟩⟩⟩⟩⟩⟩⟩⟩⟩⟩⟩⟩⟩⟩⟩⟩⟩⟩⟩⟩⟩⟩⟩⟩⟩⟩⟩⟩⟩⟩
theorem i_SM_measure_ok : ∀ pc i n, i_SM_measure pc = some (i, n) → decode b_SM_measure pc = .ok (i, n) := fun pc i n h => d_SM_measure (pc, i, n) (am_find_mem h)
theorem i_SM_measure_0 : i_SM_measure 0 = some (.aload_n 0, 1) := rfl
theorem i_SM_measure_1 : i_SM_measure 1 = some (.aload_n 1, 1) := rfl
theorem i_SM_measure_2 : i_SM_measure 2 = some (.iload_n 2, 1) := rfl
theorem i_SM_measure_3 : i_SM_measure 3 = some (.invokevirtual 31, 3) := rfl
theorem i_SM_measure_6 : i_SM_measure 6 = some (.istore 4, 2) := rfl
theorem i_SM_measure_8 : i_SM_measure 8 = some (.iload_n 3, 1) := rfl
theorem i_SM_measure_9 : i_SM_measure 9 = some (.istore 5, 2) := rfl
theorem i_SM_measure_11 : i_SM_measure 11 = some (.iload_n 2, 1) := rfl
theorem i_SM_measure_12 : i_SM_measure 12 = some (.istore 6, 2) := rfl
theorem i_SM_measure_14 : i_SM_measure 14 = some (.iload 6, 2) := rfl
theorem i_SM_measure_16 : i_SM_measure 16 = some (.iload 4, 2) := rfl
theorem i_SM_measure_18 : i_SM_measure 18 = some (.if_icmp .ge 123, 3) := rfl
theorem i_SM_measure_21 : i_SM_measure 21 = some (.aload_n 0, 1) := rfl
theorem i_SM_measure_22 : i_SM_measure 22 = some (.iload 5, 2) := rfl
theorem i_SM_measure_24 : i_SM_measure 24 = some (.iload 6, 2) := rfl
theorem i_SM_measure_26 : i_SM_measure 26 = some (.invokevirtual 35, 3) := rfl
theorem i_SM_measure_29 : i_SM_measure 29 = some (.ifCond .ne 112, 3) := rfl
theorem i_SM_measure_32 : i_SM_measure 32 = some (.aload_n 0, 1) := rfl
theorem i_SM_measure_33 : i_SM_measure 33 = some (.getfield 27, 3) := rfl
theorem i_SM_measure_36 : i_SM_measure 36 = some (.iload 6, 2) := rfl
theorem i_SM_measure_38 : i_SM_measure 38 = some (.invokevirtual 39, 3) := rfl
theorem i_SM_measure_41 : i_SM_measure 41 = some (.aload_n 0, 1) := rfl
theorem i_SM_measure_42 : i_SM_measure 42 = some (.getfield 27, 3) := rfl
theorem i_SM_measure_45 : i_SM_measure 45 = some (.invokevirtual 43, 3) := rfl
theorem i_SM_measure_48 : i_SM_measure 48 = some (.istore 7, 2) := rfl
theorem i_SM_measure_50 : i_SM_measure 50 = some (.aload_n 0, 1) := rfl
theorem i_SM_measure_51 : i_SM_measure 51 = some (.getfield 27, 3) := rfl
theorem i_SM_measure_54 : i_SM_measure 54 = some (.iload 7, 2) := rfl
theorem i_SM_measure_56 : i_SM_measure 56 = some (.invokevirtual 47, 3) := rfl
theorem i_SM_measure_59 : i_SM_measure 59 = some (.iconst 0, 1) := rfl
theorem i_SM_measure_60 : i_SM_measure 60 = some (.istore 8, 2) := rfl
theorem i_SM_measure_62 : i_SM_measure 62 = some (.iload 8, 2) := rfl
theorem i_SM_measure_64 : i_SM_measure 64 = some (.iload 7, 2) := rfl
theorem i_SM_measure_66 : i_SM_measure 66 = some (.if_icmp .ge 20, 3) := rfl
theorem i_SM_measure_69 : i_SM_measure 69 = some (.aload_n 0, 1) := rfl
theorem i_SM_measure_70 : i_SM_measure 70 = some (.getfield 9, 3) := rfl
theorem i_SM_measure_73 : i_SM_measure 73 = some (.iload 8, 2) := rfl
theorem i_SM_measure_75 : i_SM_measure 75 = some (.dup2, 1) := rfl
theorem i_SM_measure_76 : i_SM_measure 76 = some (.iaload, 1) := rfl
theorem i_SM_measure_77 : i_SM_measure 77 = some (.iconst 1, 1) := rfl
theorem i_SM_measure_78 : i_SM_measure 78 = some (.iadd, 1) := rfl
theorem i_SM_measure_79 : i_SM_measure 79 = some (.iastore, 1) := rfl
theorem i_SM_measure_80 : i_SM_measure 80 = some (.iinc 8 1, 3) := rfl
theorem i_SM_measure_83 : i_SM_measure 83 = some (.goto (-21), 3) := rfl
theorem i_SM_measure_86 : i_SM_measure 86 = some (.iconst 0, 1) := rfl
theorem i_SM_measure_87 : i_SM_measure 87 = some (.istore 8, 2) := rfl
theorem i_SM_measure_89 : i_SM_measure 89 = some (.iload 8, 2) := rfl
theorem i_SM_measure_91 : i_SM_measure 91 = some (.aload_n 0, 1) := rfl
theorem i_SM_measure_92 : i_SM_measure 92 = some (.getfield 18, 3) := rfl
theorem i_SM_measure_95 : i_SM_measure 95 = some (.getfield 50, 3) := rfl
theorem i_SM_measure_98 : i_SM_measure 98 = some (.if_icmp .ge 37, 3) := rfl
theorem i_SM_measure_101 : i_SM_measure 101 = some (.aload_n 0, 1) := rfl
theorem i_SM_measure_102 : i_SM_measure 102 = some (.getfield 15, 3) := rfl
theorem i_SM_measure_105 : i_SM_measure 105 = some (.iload 8, 2) := rfl
theorem i_SM_measure_107 : i_SM_measure 107 = some (.iaload, 1) := rfl
theorem i_SM_measure_108 : i_SM_measure 108 = some (.iload 6, 2) := rfl
theorem i_SM_measure_110 : i_SM_measure 110 = some (.iconst 1, 1) := rfl
theorem i_SM_measure_111 : i_SM_measure 111 = some (.iadd, 1) := rfl
theorem i_SM_measure_112 : i_SM_measure 112 = some (.if_icmp .ne 17, 3) := rfl
theorem i_SM_measure_115 : i_SM_measure 115 = some (.iload 5, 2) := rfl
theorem i_SM_measure_117 : i_SM_measure 117 = some (.aload_n 0, 1) := rfl
theorem i_SM_measure_118 : i_SM_measure 118 = some (.getfield 9, 3) := rfl
theorem i_SM_measure_121 : i_SM_measure 121 = some (.iload 8, 2) := rfl
theorem i_SM_measure_123 : i_SM_measure 123 = some (.iaload, 1) := rfl
theorem i_SM_measure_124 : i_SM_measure 124 = some (.invokestatic 56, 3) := rfl
theorem i_SM_measure_127 : i_SM_measure 127 = some (.istore 5, 2) := rfl
theorem i_SM_measure_129 : i_SM_measure 129 = some (.iinc 8 1, 3) := rfl
theorem i_SM_measure_132 : i_SM_measure 132 = some (.goto (-43), 3) := rfl
theorem i_SM_measure_135 : i_SM_measure 135 = some (.iinc 6 1, 3) := rfl
theorem i_SM_measure_138 : i_SM_measure 138 = some (.goto (-124), 3) := rfl
theorem i_SM_measure_141 : i_SM_measure 141 = some (.iload 5, 2) := rfl
theorem i_SM_measure_143 : i_SM_measure 143 = some (.ireturn, 1) := rfl
abbrev w_SM_measure : List Jvm.Cond := Jvm.Cond.code y_SM_measure b_SM_measure 9 (some .int) :: vw_W
theorem c_SM_measure : Jvm.Cond.code y_SM_measure b_SM_measure 9 (some .int) ∈ vw_W := vw_t 595 (by decide +kernel) (by decide +kernel)
abbrev r_SM_measure : Room := { frames := 2, cells := 0, slots := 0, locals := 46 }
abbrev b_SM_prepare : ByteArray := prog_10_method_3_code
abbrev y_SM_prepare : MethodName := ⟨"ServerDesk$SlackMeter", "prepare", "(LServerDesk$Load;I)I"⟩
def q_SM_prepare : List (Nat × Instr × Nat) := [(0, .aload_n 0, 1), (1, .getfield 27, 3), (4, .aload_n 1, 1), (5, .invokevirtual 62, 3), (8, .iload_n 2, 1), (9, .istore_n 3, 1), (10, .iconst 0, 1), (11, .istore 4, 2), (13, .iload 4, 2), (15, .aload_n 0, 1), (16, .getfield 18, 3), (19, .getfield 50, 3), (22, .if_icmp .ge 50, 3), (25, .aload_n 0, 1), (26, .getfield 9, 3), (29, .iload 4, 2), (31, .iconst 0, 1), (32, .iastore, 1), (33, .aload_n 0, 1), (34, .getfield 15, 3), (37, .iload 4, 2), (39, .aload_n 1, 1), (40, .aload_n 0, 1), (41, .getfield 18, 3), (44, .getfield 66, 3), (47, .iload 4, 2), (49, .iaload, 1), (50, .invokevirtual 69, 3), (53, .iastore, 1), (54, .iload_n 3, 1), (55, .aload_n 0, 1), (56, .getfield 15, 3), (59, .iload 4, 2), (61, .iaload, 1), (62, .invokestatic 73, 3), (65, .istore_n 3, 1), (66, .iinc 4 1, 3), (69, .goto (-56), 3), (72, .iload_n 3, 1), (73, .ireturn, 1)]
def i_SM_prepare : Nat → Option (Instr × Nat) := am_find q_SM_prepare
theorem d_SM_prepare_0 : decode b_SM_prepare 0 = .ok (.aload_n 0, 1) := by decide +kernel
theorem d_SM_prepare_1 : decode b_SM_prepare 1 = .ok (.getfield 27, 3) := by decide +kernel
theorem d_SM_prepare_4 : decode b_SM_prepare 4 = .ok (.aload_n 1, 1) := by decide +kernel
theorem d_SM_prepare_5 : decode b_SM_prepare 5 = .ok (.invokevirtual 62, 3) := by decide +kernel
theorem d_SM_prepare_8 : decode b_SM_prepare 8 = .ok (.iload_n 2, 1) := by decide +kernel
theorem d_SM_prepare_9 : decode b_SM_prepare 9 = .ok (.istore_n 3, 1) := by decide +kernel
theorem d_SM_prepare_10 : decode b_SM_prepare 10 = .ok (.iconst 0, 1) := by decide +kernel
theorem d_SM_prepare_11 : decode b_SM_prepare 11 = .ok (.istore 4, 2) := by decide +kernel
theorem d_SM_prepare_13 : decode b_SM_prepare 13 = .ok (.iload 4, 2) := by decide +kernel
theorem d_SM_prepare_15 : decode b_SM_prepare 15 = .ok (.aload_n 0, 1) := by decide +kernel
theorem d_SM_prepare_16 : decode b_SM_prepare 16 = .ok (.getfield 18, 3) := by decide +kernel
theorem d_SM_prepare_19 : decode b_SM_prepare 19 = .ok (.getfield 50, 3) := by decide +kernel
theorem d_SM_prepare_22 : decode b_SM_prepare 22 = .ok (.if_icmp .ge 50, 3) := by decide +kernel
theorem d_SM_prepare_25 : decode b_SM_prepare 25 = .ok (.aload_n 0, 1) := by decide +kernel
theorem d_SM_prepare_26 : decode b_SM_prepare 26 = .ok (.getfield 9, 3) := by decide +kernel
theorem d_SM_prepare_29 : decode b_SM_prepare 29 = .ok (.iload 4, 2) := by decide +kernel
theorem d_SM_prepare_31 : decode b_SM_prepare 31 = .ok (.iconst 0, 1) := by decide +kernel
theorem d_SM_prepare_32 : decode b_SM_prepare 32 = .ok (.iastore, 1) := by decide +kernel
theorem d_SM_prepare_33 : decode b_SM_prepare 33 = .ok (.aload_n 0, 1) := by decide +kernel
theorem d_SM_prepare_34 : decode b_SM_prepare 34 = .ok (.getfield 15, 3) := by decide +kernel
theorem d_SM_prepare_37 : decode b_SM_prepare 37 = .ok (.iload 4, 2) := by decide +kernel
theorem d_SM_prepare_39 : decode b_SM_prepare 39 = .ok (.aload_n 1, 1) := by decide +kernel
theorem d_SM_prepare_40 : decode b_SM_prepare 40 = .ok (.aload_n 0, 1) := by decide +kernel
theorem d_SM_prepare_41 : decode b_SM_prepare 41 = .ok (.getfield 18, 3) := by decide +kernel
theorem d_SM_prepare_44 : decode b_SM_prepare 44 = .ok (.getfield 66, 3) := by decide +kernel
theorem d_SM_prepare_47 : decode b_SM_prepare 47 = .ok (.iload 4, 2) := by decide +kernel
theorem d_SM_prepare_49 : decode b_SM_prepare 49 = .ok (.iaload, 1) := by decide +kernel
theorem d_SM_prepare_50 : decode b_SM_prepare 50 = .ok (.invokevirtual 69, 3) := by decide +kernel
theorem d_SM_prepare_53 : decode b_SM_prepare 53 = .ok (.iastore, 1) := by decide +kernel
theorem d_SM_prepare_54 : decode b_SM_prepare 54 = .ok (.iload_n 3, 1) := by decide +kernel
theorem d_SM_prepare_55 : decode b_SM_prepare 55 = .ok (.aload_n 0, 1) := by decide +kernel
theorem d_SM_prepare_56 : decode b_SM_prepare 56 = .ok (.getfield 15, 3) := by decide +kernel
theorem d_SM_prepare_59 : decode b_SM_prepare 59 = .ok (.iload 4, 2) := by decide +kernel
theorem d_SM_prepare_61 : decode b_SM_prepare 61 = .ok (.iaload, 1) := by decide +kernel
theorem d_SM_prepare_62 : decode b_SM_prepare 62 = .ok (.invokestatic 73, 3) := by decide +kernel
theorem d_SM_prepare_65 : decode b_SM_prepare 65 = .ok (.istore_n 3, 1) := by decide +kernel
theorem d_SM_prepare_66 : decode b_SM_prepare 66 = .ok (.iinc 4 1, 3) := by decide +kernel
theorem d_SM_prepare_69 : decode b_SM_prepare 69 = .ok (.goto (-56), 3) := by decide +kernel
theorem d_SM_prepare_72 : decode b_SM_prepare 72 = .ok (.iload_n 3, 1) := by decide +kernel
theorem d_SM_prepare_73 : decode b_SM_prepare 73 = .ok (.ireturn, 1) := by decide +kernel
theorem d_SM_prepare : ∀ z ∈ q_SM_prepare, decode b_SM_prepare z.1 = .ok z.2 := List.forall_mem_cons.mpr ⟨d_SM_prepare_0, List.forall_mem_cons.mpr ⟨d_SM_prepare_1, List.forall_mem_cons.mpr ⟨d_SM_prepare_4, List.forall_mem_cons.mpr ⟨d_SM_prepare_5, List.forall_mem_cons.mpr ⟨d_SM_prepare_8, List.forall_mem_cons.mpr ⟨d_SM_prepare_9, List.forall_mem_cons.mpr ⟨d_SM_prepare_10, List.forall_mem_cons.mpr ⟨d_SM_prepare_11, List.forall_mem_cons.mpr ⟨d_SM_prepare_13, List.forall_mem_cons.mpr ⟨d_SM_prepare_15, List.forall_mem_cons.mpr ⟨d_SM_prepare_16, List.forall_mem_cons.mpr ⟨d_SM_prepare_19, List.forall_mem_cons.mpr ⟨d_SM_prepare_22, List.forall_mem_cons.mpr ⟨d_SM_prepare_25, List.forall_mem_cons.mpr ⟨d_SM_prepare_26, List.forall_mem_cons.mpr ⟨d_SM_prepare_29, List.forall_mem_cons.mpr ⟨d_SM_prepare_31, List.forall_mem_cons.mpr ⟨d_SM_prepare_32, List.forall_mem_cons.mpr ⟨d_SM_prepare_33, List.forall_mem_cons.mpr ⟨d_SM_prepare_34, List.forall_mem_cons.mpr ⟨d_SM_prepare_37, List.forall_mem_cons.mpr ⟨d_SM_prepare_39, List.forall_mem_cons.mpr ⟨d_SM_prepare_40, List.forall_mem_cons.mpr ⟨d_SM_prepare_41, List.forall_mem_cons.mpr ⟨d_SM_prepare_44, List.forall_mem_cons.mpr ⟨d_SM_prepare_47, List.forall_mem_cons.mpr ⟨d_SM_prepare_49, List.forall_mem_cons.mpr ⟨d_SM_prepare_50, List.forall_mem_cons.mpr ⟨d_SM_prepare_53, List.forall_mem_cons.mpr ⟨d_SM_prepare_54, List.forall_mem_cons.mpr ⟨d_SM_prepare_55, List.forall_mem_cons.mpr ⟨d_SM_prepare_56, List.forall_mem_cons.mpr ⟨d_SM_prepare_59, List.forall_mem_cons.mpr ⟨d_SM_prepare_61, List.forall_mem_cons.mpr ⟨d_SM_prepare_62, List.forall_mem_cons.mpr ⟨d_SM_prepare_65, List.forall_mem_cons.mpr ⟨d_SM_prepare_66, List.forall_mem_cons.mpr ⟨d_SM_prepare_69, List.forall_mem_cons.mpr ⟨d_SM_prepare_72, List.forall_mem_cons.mpr ⟨d_SM_prepare_73, fun _ h => absurd h List.not_mem_nil⟩⟩⟩⟩⟩⟩⟩⟩⟩⟩⟩⟩⟩⟩⟩⟩⟩⟩⟩⟩⟩⟩⟩⟩⟩⟩⟩⟩⟩⟩⟩⟩⟩⟩⟩⟩⟩⟩⟩⟩
theorem i_SM_prepare_ok : ∀ pc i n, i_SM_prepare pc = some (i, n) → decode b_SM_prepare pc = .ok (i, n) := fun pc i n h => d_SM_prepare (pc, i, n) (am_find_mem h)
theorem i_SM_prepare_0 : i_SM_prepare 0 = some (.aload_n 0, 1) := rfl
theorem i_SM_prepare_1 : i_SM_prepare 1 = some (.getfield 27, 3) := rfl
theorem i_SM_prepare_4 : i_SM_prepare 4 = some (.aload_n 1, 1) := rfl
theorem i_SM_prepare_5 : i_SM_prepare 5 = some (.invokevirtual 62, 3) := rfl
theorem i_SM_prepare_8 : i_SM_prepare 8 = some (.iload_n 2, 1) := rfl
theorem i_SM_prepare_9 : i_SM_prepare 9 = some (.istore_n 3, 1) := rfl
theorem i_SM_prepare_10 : i_SM_prepare 10 = some (.iconst 0, 1) := rfl
theorem i_SM_prepare_11 : i_SM_prepare 11 = some (.istore 4, 2) := rfl
theorem i_SM_prepare_13 : i_SM_prepare 13 = some (.iload 4, 2) := rfl
theorem i_SM_prepare_15 : i_SM_prepare 15 = some (.aload_n 0, 1) := rfl
theorem i_SM_prepare_16 : i_SM_prepare 16 = some (.getfield 18, 3) := rfl
theorem i_SM_prepare_19 : i_SM_prepare 19 = some (.getfield 50, 3) := rfl
theorem i_SM_prepare_22 : i_SM_prepare 22 = some (.if_icmp .ge 50, 3) := rfl
theorem i_SM_prepare_25 : i_SM_prepare 25 = some (.aload_n 0, 1) := rfl
theorem i_SM_prepare_26 : i_SM_prepare 26 = some (.getfield 9, 3) := rfl
theorem i_SM_prepare_29 : i_SM_prepare 29 = some (.iload 4, 2) := rfl
theorem i_SM_prepare_31 : i_SM_prepare 31 = some (.iconst 0, 1) := rfl
theorem i_SM_prepare_32 : i_SM_prepare 32 = some (.iastore, 1) := rfl
theorem i_SM_prepare_33 : i_SM_prepare 33 = some (.aload_n 0, 1) := rfl
theorem i_SM_prepare_34 : i_SM_prepare 34 = some (.getfield 15, 3) := rfl
theorem i_SM_prepare_37 : i_SM_prepare 37 = some (.iload 4, 2) := rfl
theorem i_SM_prepare_39 : i_SM_prepare 39 = some (.aload_n 1, 1) := rfl
theorem i_SM_prepare_40 : i_SM_prepare 40 = some (.aload_n 0, 1) := rfl
theorem i_SM_prepare_41 : i_SM_prepare 41 = some (.getfield 18, 3) := rfl
theorem i_SM_prepare_44 : i_SM_prepare 44 = some (.getfield 66, 3) := rfl
theorem i_SM_prepare_47 : i_SM_prepare 47 = some (.iload 4, 2) := rfl
theorem i_SM_prepare_49 : i_SM_prepare 49 = some (.iaload, 1) := rfl
theorem i_SM_prepare_50 : i_SM_prepare 50 = some (.invokevirtual 69, 3) := rfl
theorem i_SM_prepare_53 : i_SM_prepare 53 = some (.iastore, 1) := rfl
theorem i_SM_prepare_54 : i_SM_prepare 54 = some (.iload_n 3, 1) := rfl
theorem i_SM_prepare_55 : i_SM_prepare 55 = some (.aload_n 0, 1) := rfl
theorem i_SM_prepare_56 : i_SM_prepare 56 = some (.getfield 15, 3) := rfl
theorem i_SM_prepare_59 : i_SM_prepare 59 = some (.iload 4, 2) := rfl
theorem i_SM_prepare_61 : i_SM_prepare 61 = some (.iaload, 1) := rfl
theorem i_SM_prepare_62 : i_SM_prepare 62 = some (.invokestatic 73, 3) := rfl
theorem i_SM_prepare_65 : i_SM_prepare 65 = some (.istore_n 3, 1) := rfl
theorem i_SM_prepare_66 : i_SM_prepare 66 = some (.iinc 4 1, 3) := rfl
theorem i_SM_prepare_69 : i_SM_prepare 69 = some (.goto (-56), 3) := rfl
theorem i_SM_prepare_72 : i_SM_prepare 72 = some (.iload_n 3, 1) := rfl
theorem i_SM_prepare_73 : i_SM_prepare 73 = some (.ireturn, 1) := rfl
abbrev w_SM_prepare : List Jvm.Cond := Jvm.Cond.code y_SM_prepare b_SM_prepare 5 (some .int) :: vw_W
theorem c_SM_prepare : Jvm.Cond.code y_SM_prepare b_SM_prepare 5 (some .int) ∈ vw_W := vw_t 599 (by decide +kernel) (by decide +kernel)
abbrev r_SM_prepare : Room := { frames := 1, cells := 0, slots := 0, locals := 22 }
abbrev b_LO_copy : ByteArray := prog_6_method_3_code
abbrev y_LO_copy : MethodName := ⟨"ServerDesk$Load", "copy", "(LServerDesk$Load;)V"⟩
def q_LO_copy : List (Nat × Instr × Nat) := [(0, .iconst 0, 1), (1, .istore_n 2, 1), (2, .iload_n 2, 1), (3, .aload_n 0, 1), (4, .getfield 24, 3), (7, .getfield 28, 3), (10, .if_icmp .ge 57, 3), (13, .aload_n 0, 1), (14, .getfield 9, 3), (17, .iload_n 2, 1), (18, .aload_n 1, 1), (19, .getfield 9, 3), (22, .iload_n 2, 1), (23, .iaload, 1), (24, .iastore, 1), (25, .aload_n 0, 1), (26, .getfield 15, 3), (29, .iload_n 2, 1), (30, .aload_n 1, 1), (31, .getfield 15, 3), (34, .iload_n 2, 1), (35, .iaload, 1), (36, .iastore, 1), (37, .aload_n 0, 1), (38, .getfield 18, 3), (41, .iload_n 2, 1), (42, .aload_n 1, 1), (43, .getfield 18, 3), (46, .iload_n 2, 1), (47, .iaload, 1), (48, .iastore, 1), (49, .aload_n 0, 1), (50, .getfield 21, 3), (53, .iload_n 2, 1), (54, .aload_n 1, 1), (55, .getfield 21, 3), (58, .iload_n 2, 1), (59, .iaload, 1), (60, .iastore, 1), (61, .iinc 2 1, 3), (64, .goto (-62), 3), (67, .return_, 1)]
def i_LO_copy : Nat → Option (Instr × Nat) := am_find q_LO_copy
theorem d_LO_copy_0 : decode b_LO_copy 0 = .ok (.iconst 0, 1) := by decide +kernel
theorem d_LO_copy_1 : decode b_LO_copy 1 = .ok (.istore_n 2, 1) := by decide +kernel
theorem d_LO_copy_2 : decode b_LO_copy 2 = .ok (.iload_n 2, 1) := by decide +kernel
theorem d_LO_copy_3 : decode b_LO_copy 3 = .ok (.aload_n 0, 1) := by decide +kernel
theorem d_LO_copy_4 : decode b_LO_copy 4 = .ok (.getfield 24, 3) := by decide +kernel
theorem d_LO_copy_7 : decode b_LO_copy 7 = .ok (.getfield 28, 3) := by decide +kernel
theorem d_LO_copy_10 : decode b_LO_copy 10 = .ok (.if_icmp .ge 57, 3) := by decide +kernel
theorem d_LO_copy_13 : decode b_LO_copy 13 = .ok (.aload_n 0, 1) := by decide +kernel
theorem d_LO_copy_14 : decode b_LO_copy 14 = .ok (.getfield 9, 3) := by decide +kernel
theorem d_LO_copy_17 : decode b_LO_copy 17 = .ok (.iload_n 2, 1) := by decide +kernel
theorem d_LO_copy_18 : decode b_LO_copy 18 = .ok (.aload_n 1, 1) := by decide +kernel
theorem d_LO_copy_19 : decode b_LO_copy 19 = .ok (.getfield 9, 3) := by decide +kernel
theorem d_LO_copy_22 : decode b_LO_copy 22 = .ok (.iload_n 2, 1) := by decide +kernel
theorem d_LO_copy_23 : decode b_LO_copy 23 = .ok (.iaload, 1) := by decide +kernel
theorem d_LO_copy_24 : decode b_LO_copy 24 = .ok (.iastore, 1) := by decide +kernel
theorem d_LO_copy_25 : decode b_LO_copy 25 = .ok (.aload_n 0, 1) := by decide +kernel
theorem d_LO_copy_26 : decode b_LO_copy 26 = .ok (.getfield 15, 3) := by decide +kernel
theorem d_LO_copy_29 : decode b_LO_copy 29 = .ok (.iload_n 2, 1) := by decide +kernel
theorem d_LO_copy_30 : decode b_LO_copy 30 = .ok (.aload_n 1, 1) := by decide +kernel
theorem d_LO_copy_31 : decode b_LO_copy 31 = .ok (.getfield 15, 3) := by decide +kernel
theorem d_LO_copy_34 : decode b_LO_copy 34 = .ok (.iload_n 2, 1) := by decide +kernel
theorem d_LO_copy_35 : decode b_LO_copy 35 = .ok (.iaload, 1) := by decide +kernel
theorem d_LO_copy_36 : decode b_LO_copy 36 = .ok (.iastore, 1) := by decide +kernel
theorem d_LO_copy_37 : decode b_LO_copy 37 = .ok (.aload_n 0, 1) := by decide +kernel
theorem d_LO_copy_38 : decode b_LO_copy 38 = .ok (.getfield 18, 3) := by decide +kernel
theorem d_LO_copy_41 : decode b_LO_copy 41 = .ok (.iload_n 2, 1) := by decide +kernel
theorem d_LO_copy_42 : decode b_LO_copy 42 = .ok (.aload_n 1, 1) := by decide +kernel
theorem d_LO_copy_43 : decode b_LO_copy 43 = .ok (.getfield 18, 3) := by decide +kernel
theorem d_LO_copy_46 : decode b_LO_copy 46 = .ok (.iload_n 2, 1) := by decide +kernel
theorem d_LO_copy_47 : decode b_LO_copy 47 = .ok (.iaload, 1) := by decide +kernel
theorem d_LO_copy_48 : decode b_LO_copy 48 = .ok (.iastore, 1) := by decide +kernel
theorem d_LO_copy_49 : decode b_LO_copy 49 = .ok (.aload_n 0, 1) := by decide +kernel
theorem d_LO_copy_50 : decode b_LO_copy 50 = .ok (.getfield 21, 3) := by decide +kernel
theorem d_LO_copy_53 : decode b_LO_copy 53 = .ok (.iload_n 2, 1) := by decide +kernel
theorem d_LO_copy_54 : decode b_LO_copy 54 = .ok (.aload_n 1, 1) := by decide +kernel
theorem d_LO_copy_55 : decode b_LO_copy 55 = .ok (.getfield 21, 3) := by decide +kernel
theorem d_LO_copy_58 : decode b_LO_copy 58 = .ok (.iload_n 2, 1) := by decide +kernel
theorem d_LO_copy_59 : decode b_LO_copy 59 = .ok (.iaload, 1) := by decide +kernel
theorem d_LO_copy_60 : decode b_LO_copy 60 = .ok (.iastore, 1) := by decide +kernel
theorem d_LO_copy_61 : decode b_LO_copy 61 = .ok (.iinc 2 1, 3) := by decide +kernel
theorem d_LO_copy_64 : decode b_LO_copy 64 = .ok (.goto (-62), 3) := by decide +kernel
theorem d_LO_copy_67 : decode b_LO_copy 67 = .ok (.return_, 1) := by decide +kernel
theorem d_LO_copy : ∀ z ∈ q_LO_copy, decode b_LO_copy z.1 = .ok z.2 := List.forall_mem_cons.mpr ⟨d_LO_copy_0, List.forall_mem_cons.mpr ⟨d_LO_copy_1, List.forall_mem_cons.mpr ⟨d_LO_copy_2, List.forall_mem_cons.mpr ⟨d_LO_copy_3, List.forall_mem_cons.mpr ⟨d_LO_copy_4, List.forall_mem_cons.mpr ⟨d_LO_copy_7, List.forall_mem_cons.mpr ⟨d_LO_copy_10, List.forall_mem_cons.mpr ⟨d_LO_copy_13, List.forall_mem_cons.mpr ⟨d_LO_copy_14, List.forall_mem_cons.mpr ⟨d_LO_copy_17, List.forall_mem_cons.mpr ⟨d_LO_copy_18, List.forall_mem_cons.mpr ⟨d_LO_copy_19, List.forall_mem_cons.mpr ⟨d_LO_copy_22, List.forall_mem_cons.mpr ⟨d_LO_copy_23, List.forall_mem_cons.mpr ⟨d_LO_copy_24, List.forall_mem_cons.mpr ⟨d_LO_copy_25, List.forall_mem_cons.mpr ⟨d_LO_copy_26, List.forall_mem_cons.mpr ⟨d_LO_copy_29, List.forall_mem_cons.mpr ⟨d_LO_copy_30, List.forall_mem_cons.mpr ⟨d_LO_copy_31, List.forall_mem_cons.mpr ⟨d_LO_copy_34, List.forall_mem_cons.mpr ⟨d_LO_copy_35, List.forall_mem_cons.mpr ⟨d_LO_copy_36, List.forall_mem_cons.mpr ⟨d_LO_copy_37, List.forall_mem_cons.mpr ⟨d_LO_copy_38, List.forall_mem_cons.mpr ⟨d_LO_copy_41, List.forall_mem_cons.mpr ⟨d_LO_copy_42, List.forall_mem_cons.mpr ⟨d_LO_copy_43, List.forall_mem_cons.mpr ⟨d_LO_copy_46, List.forall_mem_cons.mpr ⟨d_LO_copy_47, List.forall_mem_cons.mpr ⟨d_LO_copy_48, List.forall_mem_cons.mpr ⟨d_LO_copy_49, List.forall_mem_cons.mpr ⟨d_LO_copy_50, List.forall_mem_cons.mpr ⟨d_LO_copy_53, List.forall_mem_cons.mpr ⟨d_LO_copy_54, List.forall_mem_cons.mpr ⟨d_LO_copy_55, List.forall_mem_cons.mpr ⟨d_LO_copy_58, List.forall_mem_cons.mpr ⟨d_LO_copy_59, List.forall_mem_cons.mpr ⟨d_LO_copy_60, List.forall_mem_cons.mpr ⟨d_LO_copy_61, List.forall_mem_cons.mpr ⟨d_LO_copy_64, List.forall_mem_cons.mpr ⟨d_LO_copy_67, fun _ h => absurd h List.not_mem_nil⟩⟩⟩⟩⟩⟩⟩⟩⟩⟩⟩⟩⟩⟩⟩⟩⟩⟩⟩⟩⟩⟩⟩⟩⟩⟩⟩⟩⟩⟩⟩⟩⟩⟩⟩⟩⟩⟩⟩⟩⟩⟩
theorem i_LO_copy_ok : ∀ pc i n, i_LO_copy pc = some (i, n) → decode b_LO_copy pc = .ok (i, n) := fun pc i n h => d_LO_copy (pc, i, n) (am_find_mem h)
theorem i_LO_copy_0 : i_LO_copy 0 = some (.iconst 0, 1) := rfl
theorem i_LO_copy_1 : i_LO_copy 1 = some (.istore_n 2, 1) := rfl
theorem i_LO_copy_2 : i_LO_copy 2 = some (.iload_n 2, 1) := rfl
theorem i_LO_copy_3 : i_LO_copy 3 = some (.aload_n 0, 1) := rfl
theorem i_LO_copy_4 : i_LO_copy 4 = some (.getfield 24, 3) := rfl
theorem i_LO_copy_7 : i_LO_copy 7 = some (.getfield 28, 3) := rfl
theorem i_LO_copy_10 : i_LO_copy 10 = some (.if_icmp .ge 57, 3) := rfl
theorem i_LO_copy_13 : i_LO_copy 13 = some (.aload_n 0, 1) := rfl
theorem i_LO_copy_14 : i_LO_copy 14 = some (.getfield 9, 3) := rfl
theorem i_LO_copy_17 : i_LO_copy 17 = some (.iload_n 2, 1) := rfl
theorem i_LO_copy_18 : i_LO_copy 18 = some (.aload_n 1, 1) := rfl
theorem i_LO_copy_19 : i_LO_copy 19 = some (.getfield 9, 3) := rfl
theorem i_LO_copy_22 : i_LO_copy 22 = some (.iload_n 2, 1) := rfl
theorem i_LO_copy_23 : i_LO_copy 23 = some (.iaload, 1) := rfl
theorem i_LO_copy_24 : i_LO_copy 24 = some (.iastore, 1) := rfl
theorem i_LO_copy_25 : i_LO_copy 25 = some (.aload_n 0, 1) := rfl
theorem i_LO_copy_26 : i_LO_copy 26 = some (.getfield 15, 3) := rfl
theorem i_LO_copy_29 : i_LO_copy 29 = some (.iload_n 2, 1) := rfl
theorem i_LO_copy_30 : i_LO_copy 30 = some (.aload_n 1, 1) := rfl
theorem i_LO_copy_31 : i_LO_copy 31 = some (.getfield 15, 3) := rfl
theorem i_LO_copy_34 : i_LO_copy 34 = some (.iload_n 2, 1) := rfl
theorem i_LO_copy_35 : i_LO_copy 35 = some (.iaload, 1) := rfl
theorem i_LO_copy_36 : i_LO_copy 36 = some (.iastore, 1) := rfl
theorem i_LO_copy_37 : i_LO_copy 37 = some (.aload_n 0, 1) := rfl
theorem i_LO_copy_38 : i_LO_copy 38 = some (.getfield 18, 3) := rfl
theorem i_LO_copy_41 : i_LO_copy 41 = some (.iload_n 2, 1) := rfl
theorem i_LO_copy_42 : i_LO_copy 42 = some (.aload_n 1, 1) := rfl
theorem i_LO_copy_43 : i_LO_copy 43 = some (.getfield 18, 3) := rfl
theorem i_LO_copy_46 : i_LO_copy 46 = some (.iload_n 2, 1) := rfl
theorem i_LO_copy_47 : i_LO_copy 47 = some (.iaload, 1) := rfl
theorem i_LO_copy_48 : i_LO_copy 48 = some (.iastore, 1) := rfl
theorem i_LO_copy_49 : i_LO_copy 49 = some (.aload_n 0, 1) := rfl
theorem i_LO_copy_50 : i_LO_copy 50 = some (.getfield 21, 3) := rfl
theorem i_LO_copy_53 : i_LO_copy 53 = some (.iload_n 2, 1) := rfl
theorem i_LO_copy_54 : i_LO_copy 54 = some (.aload_n 1, 1) := rfl
theorem i_LO_copy_55 : i_LO_copy 55 = some (.getfield 21, 3) := rfl
theorem i_LO_copy_58 : i_LO_copy 58 = some (.iload_n 2, 1) := rfl
theorem i_LO_copy_59 : i_LO_copy 59 = some (.iaload, 1) := rfl
theorem i_LO_copy_60 : i_LO_copy 60 = some (.iastore, 1) := rfl
theorem i_LO_copy_61 : i_LO_copy 61 = some (.iinc 2 1, 3) := rfl
theorem i_LO_copy_64 : i_LO_copy 64 = some (.goto (-62), 3) := rfl
theorem i_LO_copy_67 : i_LO_copy 67 = some (.return_, 1) := rfl
abbrev w_LO_copy : List Jvm.Cond := Jvm.Cond.code y_LO_copy b_LO_copy 3 none :: vw_W
theorem c_LO_copy : Jvm.Cond.code y_LO_copy b_LO_copy 3 none ∈ vw_W := vw_t 603 (by decide +kernel) (by decide +kernel)
abbrev r_LO_copy : Room := { frames := 0, cells := 0, slots := 0, locals := 0 }
abbrev b_LO_firstDue : ByteArray := prog_6_method_8_code
abbrev y_LO_firstDue : MethodName := ⟨"ServerDesk$Load", "firstDue", "(I)I"⟩
def q_LO_firstDue : List (Nat × Instr × Nat) := [(0, .aload_n 0, 1), (1, .getfield 18, 3), (4, .iload_n 1, 1), (5, .iaload, 1), (6, .ifCond .le 12, 3), (9, .aload_n 0, 1), (10, .getfield 21, 3), (13, .iload_n 1, 1), (14, .iaload, 1), (15, .goto 19, 3), (18, .aload_n 0, 1), (19, .getfield 9, 3), (22, .iload_n 1, 1), (23, .iaload, 1), (24, .aload_n 0, 1), (25, .getfield 24, 3), (28, .getfield 50, 3), (31, .iload_n 1, 1), (32, .iaload, 1), (33, .iadd, 1), (34, .ireturn, 1)]
def i_LO_firstDue : Nat → Option (Instr × Nat) := am_find q_LO_firstDue
theorem d_LO_firstDue_0 : decode b_LO_firstDue 0 = .ok (.aload_n 0, 1) := by decide +kernel
theorem d_LO_firstDue_1 : decode b_LO_firstDue 1 = .ok (.getfield 18, 3) := by decide +kernel
theorem d_LO_firstDue_4 : decode b_LO_firstDue 4 = .ok (.iload_n 1, 1) := by decide +kernel
theorem d_LO_firstDue_5 : decode b_LO_firstDue 5 = .ok (.iaload, 1) := by decide +kernel
theorem d_LO_firstDue_6 : decode b_LO_firstDue 6 = .ok (.ifCond .le 12, 3) := by decide +kernel
theorem d_LO_firstDue_9 : decode b_LO_firstDue 9 = .ok (.aload_n 0, 1) := by decide +kernel
theorem d_LO_firstDue_10 : decode b_LO_firstDue 10 = .ok (.getfield 21, 3) := by decide +kernel
theorem d_LO_firstDue_13 : decode b_LO_firstDue 13 = .ok (.iload_n 1, 1) := by decide +kernel
theorem d_LO_firstDue_14 : decode b_LO_firstDue 14 = .ok (.iaload, 1) := by decide +kernel
theorem d_LO_firstDue_15 : decode b_LO_firstDue 15 = .ok (.goto 19, 3) := by decide +kernel
theorem d_LO_firstDue_18 : decode b_LO_firstDue 18 = .ok (.aload_n 0, 1) := by decide +kernel
theorem d_LO_firstDue_19 : decode b_LO_firstDue 19 = .ok (.getfield 9, 3) := by decide +kernel
theorem d_LO_firstDue_22 : decode b_LO_firstDue 22 = .ok (.iload_n 1, 1) := by decide +kernel
theorem d_LO_firstDue_23 : decode b_LO_firstDue 23 = .ok (.iaload, 1) := by decide +kernel
theorem d_LO_firstDue_24 : decode b_LO_firstDue 24 = .ok (.aload_n 0, 1) := by decide +kernel
theorem d_LO_firstDue_25 : decode b_LO_firstDue 25 = .ok (.getfield 24, 3) := by decide +kernel
theorem d_LO_firstDue_28 : decode b_LO_firstDue 28 = .ok (.getfield 50, 3) := by decide +kernel
theorem d_LO_firstDue_31 : decode b_LO_firstDue 31 = .ok (.iload_n 1, 1) := by decide +kernel
theorem d_LO_firstDue_32 : decode b_LO_firstDue 32 = .ok (.iaload, 1) := by decide +kernel
theorem d_LO_firstDue_33 : decode b_LO_firstDue 33 = .ok (.iadd, 1) := by decide +kernel
theorem d_LO_firstDue_34 : decode b_LO_firstDue 34 = .ok (.ireturn, 1) := by decide +kernel
theorem d_LO_firstDue : ∀ z ∈ q_LO_firstDue, decode b_LO_firstDue z.1 = .ok z.2 := List.forall_mem_cons.mpr ⟨d_LO_firstDue_0, List.forall_mem_cons.mpr ⟨d_LO_firstDue_1, List.forall_mem_cons.mpr ⟨d_LO_firstDue_4, List.forall_mem_cons.mpr ⟨d_LO_firstDue_5, List.forall_mem_cons.mpr ⟨d_LO_firstDue_6, List.forall_mem_cons.mpr ⟨d_LO_firstDue_9, List.forall_mem_cons.mpr ⟨d_LO_firstDue_10, List.forall_mem_cons.mpr ⟨d_LO_firstDue_13, List.forall_mem_cons.mpr ⟨d_LO_firstDue_14, List.forall_mem_cons.mpr ⟨d_LO_firstDue_15, List.forall_mem_cons.mpr ⟨d_LO_firstDue_18, List.forall_mem_cons.mpr ⟨d_LO_firstDue_19, List.forall_mem_cons.mpr ⟨d_LO_firstDue_22, List.forall_mem_cons.mpr ⟨d_LO_firstDue_23, List.forall_mem_cons.mpr ⟨d_LO_firstDue_24, List.forall_mem_cons.mpr ⟨d_LO_firstDue_25, List.forall_mem_cons.mpr ⟨d_LO_firstDue_28, List.forall_mem_cons.mpr ⟨d_LO_firstDue_31, List.forall_mem_cons.mpr ⟨d_LO_firstDue_32, List.forall_mem_cons.mpr ⟨d_LO_firstDue_33, List.forall_mem_cons.mpr ⟨d_LO_firstDue_34, fun _ h => absurd h List.not_mem_nil⟩⟩⟩⟩⟩⟩⟩⟩⟩⟩⟩⟩⟩⟩⟩⟩⟩⟩⟩⟩⟩
theorem i_LO_firstDue_ok : ∀ pc i n, i_LO_firstDue pc = some (i, n) → decode b_LO_firstDue pc = .ok (i, n) := fun pc i n h => d_LO_firstDue (pc, i, n) (am_find_mem h)
theorem i_LO_firstDue_0 : i_LO_firstDue 0 = some (.aload_n 0, 1) := rfl
theorem i_LO_firstDue_1 : i_LO_firstDue 1 = some (.getfield 18, 3) := rfl
theorem i_LO_firstDue_4 : i_LO_firstDue 4 = some (.iload_n 1, 1) := rfl
theorem i_LO_firstDue_5 : i_LO_firstDue 5 = some (.iaload, 1) := rfl
theorem i_LO_firstDue_6 : i_LO_firstDue 6 = some (.ifCond .le 12, 3) := rfl
theorem i_LO_firstDue_9 : i_LO_firstDue 9 = some (.aload_n 0, 1) := rfl
theorem i_LO_firstDue_10 : i_LO_firstDue 10 = some (.getfield 21, 3) := rfl
theorem i_LO_firstDue_13 : i_LO_firstDue 13 = some (.iload_n 1, 1) := rfl
theorem i_LO_firstDue_14 : i_LO_firstDue 14 = some (.iaload, 1) := rfl
theorem i_LO_firstDue_15 : i_LO_firstDue 15 = some (.goto 19, 3) := rfl
theorem i_LO_firstDue_18 : i_LO_firstDue 18 = some (.aload_n 0, 1) := rfl
theorem i_LO_firstDue_19 : i_LO_firstDue 19 = some (.getfield 9, 3) := rfl
theorem i_LO_firstDue_22 : i_LO_firstDue 22 = some (.iload_n 1, 1) := rfl
theorem i_LO_firstDue_23 : i_LO_firstDue 23 = some (.iaload, 1) := rfl
theorem i_LO_firstDue_24 : i_LO_firstDue 24 = some (.aload_n 0, 1) := rfl
theorem i_LO_firstDue_25 : i_LO_firstDue 25 = some (.getfield 24, 3) := rfl
theorem i_LO_firstDue_28 : i_LO_firstDue 28 = some (.getfield 50, 3) := rfl
theorem i_LO_firstDue_31 : i_LO_firstDue 31 = some (.iload_n 1, 1) := rfl
theorem i_LO_firstDue_32 : i_LO_firstDue 32 = some (.iaload, 1) := rfl
theorem i_LO_firstDue_33 : i_LO_firstDue 33 = some (.iadd, 1) := rfl
theorem i_LO_firstDue_34 : i_LO_firstDue 34 = some (.ireturn, 1) := rfl
abbrev w_LO_firstDue : List Jvm.Cond := Jvm.Cond.code y_LO_firstDue b_LO_firstDue 2 (some .int) :: vw_W
theorem c_LO_firstDue : Jvm.Cond.code y_LO_firstDue b_LO_firstDue 2 (some .int) ∈ vw_W := vw_t 607 (by decide +kernel) (by decide +kernel)
abbrev r_LO_firstDue : Room := { frames := 0, cells := 0, slots := 0, locals := 0 }
abbrev b_SM_isSettled : ByteArray := prog_10_method_4_code
abbrev y_SM_isSettled : MethodName := ⟨"ServerDesk$SlackMeter", "isSettled", "(II)Z"⟩
def q_SM_isSettled : List (Nat × Instr × Nat) := [(0, .iconst 0, 1), (1, .istore_n 3, 1), (2, .iload_n 3, 1), (3, .aload_n 0, 1), (4, .getfield 18, 3), (7, .getfield 50, 3), (10, .if_icmp .ge 31, 3), (13, .aload_n 0, 1), (14, .getfield 15, 3), (17, .iload_n 3, 1), (18, .iaload, 1), (19, .iload_n 2, 1), (20, .if_icmp .le 15, 3), (23, .aload_n 0, 1), (24, .getfield 9, 3), (27, .iload_n 3, 1), (28, .iaload, 1), (29, .iload_n 1, 1), (30, .if_icmp .ge 5, 3), (33, .iconst 0, 1), (34, .ireturn, 1), (35, .iinc 3 1, 3), (38, .goto (-36), 3), (41, .iconst 1, 1), (42, .ireturn, 1)]
def i_SM_isSettled : Nat → Option (Instr × Nat) := am_find q_SM_isSettled
theorem d_SM_isSettled_0 : decode b_SM_isSettled 0 = .ok (.iconst 0, 1) := by decide +kernel
theorem d_SM_isSettled_1 : decode b_SM_isSettled 1 = .ok (.istore_n 3, 1) := by decide +kernel
theorem d_SM_isSettled_2 : decode b_SM_isSettled 2 = .ok (.iload_n 3, 1) := by decide +kernel
theorem d_SM_isSettled_3 : decode b_SM_isSettled 3 = .ok (.aload_n 0, 1) := by decide +kernel
theorem d_SM_isSettled_4 : decode b_SM_isSettled 4 = .ok (.getfield 18, 3) := by decide +kernel
theorem d_SM_isSettled_7 : decode b_SM_isSettled 7 = .ok (.getfield 50, 3) := by decide +kernel
theorem d_SM_isSettled_10 : decode b_SM_isSettled 10 = .ok (.if_icmp .ge 31, 3) := by decide +kernel
theorem d_SM_isSettled_13 : decode b_SM_isSettled 13 = .ok (.aload_n 0, 1) := by decide +kernel
theorem d_SM_isSettled_14 : decode b_SM_isSettled 14 = .ok (.getfield 15, 3) := by decide +kernel
theorem d_SM_isSettled_17 : decode b_SM_isSettled 17 = .ok (.iload_n 3, 1) := by decide +kernel
theorem d_SM_isSettled_18 : decode b_SM_isSettled 18 = .ok (.iaload, 1) := by decide +kernel
theorem d_SM_isSettled_19 : decode b_SM_isSettled 19 = .ok (.iload_n 2, 1) := by decide +kernel
theorem d_SM_isSettled_20 : decode b_SM_isSettled 20 = .ok (.if_icmp .le 15, 3) := by decide +kernel
theorem d_SM_isSettled_23 : decode b_SM_isSettled 23 = .ok (.aload_n 0, 1) := by decide +kernel
theorem d_SM_isSettled_24 : decode b_SM_isSettled 24 = .ok (.getfield 9, 3) := by decide +kernel
theorem d_SM_isSettled_27 : decode b_SM_isSettled 27 = .ok (.iload_n 3, 1) := by decide +kernel
theorem d_SM_isSettled_28 : decode b_SM_isSettled 28 = .ok (.iaload, 1) := by decide +kernel
theorem d_SM_isSettled_29 : decode b_SM_isSettled 29 = .ok (.iload_n 1, 1) := by decide +kernel
theorem d_SM_isSettled_30 : decode b_SM_isSettled 30 = .ok (.if_icmp .ge 5, 3) := by decide +kernel
theorem d_SM_isSettled_33 : decode b_SM_isSettled 33 = .ok (.iconst 0, 1) := by decide +kernel
theorem d_SM_isSettled_34 : decode b_SM_isSettled 34 = .ok (.ireturn, 1) := by decide +kernel
theorem d_SM_isSettled_35 : decode b_SM_isSettled 35 = .ok (.iinc 3 1, 3) := by decide +kernel
theorem d_SM_isSettled_38 : decode b_SM_isSettled 38 = .ok (.goto (-36), 3) := by decide +kernel
theorem d_SM_isSettled_41 : decode b_SM_isSettled 41 = .ok (.iconst 1, 1) := by decide +kernel
theorem d_SM_isSettled_42 : decode b_SM_isSettled 42 = .ok (.ireturn, 1) := by decide +kernel
theorem d_SM_isSettled : ∀ z ∈ q_SM_isSettled, decode b_SM_isSettled z.1 = .ok z.2 := List.forall_mem_cons.mpr ⟨d_SM_isSettled_0, List.forall_mem_cons.mpr ⟨d_SM_isSettled_1, List.forall_mem_cons.mpr ⟨d_SM_isSettled_2, List.forall_mem_cons.mpr ⟨d_SM_isSettled_3, List.forall_mem_cons.mpr ⟨d_SM_isSettled_4, List.forall_mem_cons.mpr ⟨d_SM_isSettled_7, List.forall_mem_cons.mpr ⟨d_SM_isSettled_10, List.forall_mem_cons.mpr ⟨d_SM_isSettled_13, List.forall_mem_cons.mpr ⟨d_SM_isSettled_14, List.forall_mem_cons.mpr ⟨d_SM_isSettled_17, List.forall_mem_cons.mpr ⟨d_SM_isSettled_18, List.forall_mem_cons.mpr ⟨d_SM_isSettled_19, List.forall_mem_cons.mpr ⟨d_SM_isSettled_20, List.forall_mem_cons.mpr ⟨d_SM_isSettled_23, List.forall_mem_cons.mpr ⟨d_SM_isSettled_24, List.forall_mem_cons.mpr ⟨d_SM_isSettled_27, List.forall_mem_cons.mpr ⟨d_SM_isSettled_28, List.forall_mem_cons.mpr ⟨d_SM_isSettled_29, List.forall_mem_cons.mpr ⟨d_SM_isSettled_30, List.forall_mem_cons.mpr ⟨d_SM_isSettled_33, List.forall_mem_cons.mpr ⟨d_SM_isSettled_34, List.forall_mem_cons.mpr ⟨d_SM_isSettled_35, List.forall_mem_cons.mpr ⟨d_SM_isSettled_38, List.forall_mem_cons.mpr ⟨d_SM_isSettled_41, List.forall_mem_cons.mpr ⟨d_SM_isSettled_42, fun _ h => absurd h List.not_mem_nil⟩⟩⟩⟩⟩⟩⟩⟩⟩⟩⟩⟩⟩⟩⟩⟩⟩⟩⟩⟩⟩⟩⟩⟩⟩
theorem i_SM_isSettled_ok : ∀ pc i n, i_SM_isSettled pc = some (i, n) → decode b_SM_isSettled pc = .ok (i, n) := fun pc i n h => d_SM_isSettled (pc, i, n) (am_find_mem h)
theorem i_SM_isSettled_0 : i_SM_isSettled 0 = some (.iconst 0, 1) := rfl
theorem i_SM_isSettled_1 : i_SM_isSettled 1 = some (.istore_n 3, 1) := rfl
theorem i_SM_isSettled_2 : i_SM_isSettled 2 = some (.iload_n 3, 1) := rfl
theorem i_SM_isSettled_3 : i_SM_isSettled 3 = some (.aload_n 0, 1) := rfl
theorem i_SM_isSettled_4 : i_SM_isSettled 4 = some (.getfield 18, 3) := rfl
theorem i_SM_isSettled_7 : i_SM_isSettled 7 = some (.getfield 50, 3) := rfl
theorem i_SM_isSettled_10 : i_SM_isSettled 10 = some (.if_icmp .ge 31, 3) := rfl
theorem i_SM_isSettled_13 : i_SM_isSettled 13 = some (.aload_n 0, 1) := rfl
theorem i_SM_isSettled_14 : i_SM_isSettled 14 = some (.getfield 15, 3) := rfl
theorem i_SM_isSettled_17 : i_SM_isSettled 17 = some (.iload_n 3, 1) := rfl
theorem i_SM_isSettled_18 : i_SM_isSettled 18 = some (.iaload, 1) := rfl
theorem i_SM_isSettled_19 : i_SM_isSettled 19 = some (.iload_n 2, 1) := rfl
theorem i_SM_isSettled_20 : i_SM_isSettled 20 = some (.if_icmp .le 15, 3) := rfl
theorem i_SM_isSettled_23 : i_SM_isSettled 23 = some (.aload_n 0, 1) := rfl
theorem i_SM_isSettled_24 : i_SM_isSettled 24 = some (.getfield 9, 3) := rfl
theorem i_SM_isSettled_27 : i_SM_isSettled 27 = some (.iload_n 3, 1) := rfl
theorem i_SM_isSettled_28 : i_SM_isSettled 28 = some (.iaload, 1) := rfl
theorem i_SM_isSettled_29 : i_SM_isSettled 29 = some (.iload_n 1, 1) := rfl
theorem i_SM_isSettled_30 : i_SM_isSettled 30 = some (.if_icmp .ge 5, 3) := rfl
theorem i_SM_isSettled_33 : i_SM_isSettled 33 = some (.iconst 0, 1) := rfl
theorem i_SM_isSettled_34 : i_SM_isSettled 34 = some (.ireturn, 1) := rfl
theorem i_SM_isSettled_35 : i_SM_isSettled 35 = some (.iinc 3 1, 3) := rfl
theorem i_SM_isSettled_38 : i_SM_isSettled 38 = some (.goto (-36), 3) := rfl
theorem i_SM_isSettled_41 : i_SM_isSettled 41 = some (.iconst 1, 1) := rfl
theorem i_SM_isSettled_42 : i_SM_isSettled 42 = some (.ireturn, 1) := rfl
abbrev w_SM_isSettled : List Jvm.Cond := Jvm.Cond.code y_SM_isSettled b_SM_isSettled 4 (some .boolean) :: vw_W
theorem c_SM_isSettled : Jvm.Cond.code y_SM_isSettled b_SM_isSettled 4 (some .boolean) ∈ vw_W := vw_t 612 (by decide +kernel) (by decide +kernel)
abbrev r_SM_isSettled : Room := { frames := 0, cells := 0, slots := 0, locals := 0 }
abbrev b_LO_run : ByteArray := prog_6_method_7_code
abbrev y_LO_run : MethodName := ⟨"ServerDesk$Load", "run", "(I)V"⟩
def q_LO_run : List (Nat × Instr × Nat) := [(0, .iload_n 1, 1), (1, .iconst 0, 1), (2, .aload_n 0, 1), (3, .getfield 24, 3), (6, .getfield 28, 3), (9, .iconst 1, 1), (10, .isub, 1), (11, .invokestatic 40, 3), (14, .ifCond .eq 21, 3), (17, .aload_n 0, 1), (18, .getfield 18, 3), (21, .aload_n 0, 1), (22, .getfield 24, 3), (25, .getfield 56, 3), (28, .iload_n 1, 1), (29, .iaload, 1), (30, .dup2, 1), (31, .iaload, 1), (32, .iconst 1, 1), (33, .isub, 1), (34, .iastore, 1), (35, .return_, 1)]
def i_LO_run : Nat → Option (Instr × Nat) := am_find q_LO_run
theorem d_LO_run_0 : decode b_LO_run 0 = .ok (.iload_n 1, 1) := by decide +kernel
theorem d_LO_run_1 : decode b_LO_run 1 = .ok (.iconst 0, 1) := by decide +kernel
theorem d_LO_run_2 : decode b_LO_run 2 = .ok (.aload_n 0, 1) := by decide +kernel
theorem d_LO_run_3 : decode b_LO_run 3 = .ok (.getfield 24, 3) := by decide +kernel
theorem d_LO_run_6 : decode b_LO_run 6 = .ok (.getfield 28, 3) := by decide +kernel
theorem d_LO_run_9 : decode b_LO_run 9 = .ok (.iconst 1, 1) := by decide +kernel
theorem d_LO_run_10 : decode b_LO_run 10 = .ok (.isub, 1) := by decide +kernel
theorem d_LO_run_11 : decode b_LO_run 11 = .ok (.invokestatic 40, 3) := by decide +kernel
theorem d_LO_run_14 : decode b_LO_run 14 = .ok (.ifCond .eq 21, 3) := by decide +kernel
theorem d_LO_run_17 : decode b_LO_run 17 = .ok (.aload_n 0, 1) := by decide +kernel
theorem d_LO_run_18 : decode b_LO_run 18 = .ok (.getfield 18, 3) := by decide +kernel
theorem d_LO_run_21 : decode b_LO_run 21 = .ok (.aload_n 0, 1) := by decide +kernel
theorem d_LO_run_22 : decode b_LO_run 22 = .ok (.getfield 24, 3) := by decide +kernel
theorem d_LO_run_25 : decode b_LO_run 25 = .ok (.getfield 56, 3) := by decide +kernel
theorem d_LO_run_28 : decode b_LO_run 28 = .ok (.iload_n 1, 1) := by decide +kernel
theorem d_LO_run_29 : decode b_LO_run 29 = .ok (.iaload, 1) := by decide +kernel
theorem d_LO_run_30 : decode b_LO_run 30 = .ok (.dup2, 1) := by decide +kernel
theorem d_LO_run_31 : decode b_LO_run 31 = .ok (.iaload, 1) := by decide +kernel
theorem d_LO_run_32 : decode b_LO_run 32 = .ok (.iconst 1, 1) := by decide +kernel
theorem d_LO_run_33 : decode b_LO_run 33 = .ok (.isub, 1) := by decide +kernel
theorem d_LO_run_34 : decode b_LO_run 34 = .ok (.iastore, 1) := by decide +kernel
theorem d_LO_run_35 : decode b_LO_run 35 = .ok (.return_, 1) := by decide +kernel
theorem d_LO_run : ∀ z ∈ q_LO_run, decode b_LO_run z.1 = .ok z.2 := List.forall_mem_cons.mpr ⟨d_LO_run_0, List.forall_mem_cons.mpr ⟨d_LO_run_1, List.forall_mem_cons.mpr ⟨d_LO_run_2, List.forall_mem_cons.mpr ⟨d_LO_run_3, List.forall_mem_cons.mpr ⟨d_LO_run_6, List.forall_mem_cons.mpr ⟨d_LO_run_9, List.forall_mem_cons.mpr ⟨d_LO_run_10, List.forall_mem_cons.mpr ⟨d_LO_run_11, List.forall_mem_cons.mpr ⟨d_LO_run_14, List.forall_mem_cons.mpr ⟨d_LO_run_17, List.forall_mem_cons.mpr ⟨d_LO_run_18, List.forall_mem_cons.mpr ⟨d_LO_run_21, List.forall_mem_cons.mpr ⟨d_LO_run_22, List.forall_mem_cons.mpr ⟨d_LO_run_25, List.forall_mem_cons.mpr ⟨d_LO_run_28, List.forall_mem_cons.mpr ⟨d_LO_run_29, List.forall_mem_cons.mpr ⟨d_LO_run_30, List.forall_mem_cons.mpr ⟨d_LO_run_31, List.forall_mem_cons.mpr ⟨d_LO_run_32, List.forall_mem_cons.mpr ⟨d_LO_run_33, List.forall_mem_cons.mpr ⟨d_LO_run_34, List.forall_mem_cons.mpr ⟨d_LO_run_35, fun _ h => absurd h List.not_mem_nil⟩⟩⟩⟩⟩⟩⟩⟩⟩⟩⟩⟩⟩⟩⟩⟩⟩⟩⟩⟩⟩⟩
theorem i_LO_run_ok : ∀ pc i n, i_LO_run pc = some (i, n) → decode b_LO_run pc = .ok (i, n) := fun pc i n h => d_LO_run (pc, i, n) (am_find_mem h)
theorem i_LO_run_0 : i_LO_run 0 = some (.iload_n 1, 1) := rfl
theorem i_LO_run_1 : i_LO_run 1 = some (.iconst 0, 1) := rfl
theorem i_LO_run_2 : i_LO_run 2 = some (.aload_n 0, 1) := rfl
theorem i_LO_run_3 : i_LO_run 3 = some (.getfield 24, 3) := rfl
theorem i_LO_run_6 : i_LO_run 6 = some (.getfield 28, 3) := rfl
theorem i_LO_run_9 : i_LO_run 9 = some (.iconst 1, 1) := rfl
theorem i_LO_run_10 : i_LO_run 10 = some (.isub, 1) := rfl
theorem i_LO_run_11 : i_LO_run 11 = some (.invokestatic 40, 3) := rfl
theorem i_LO_run_14 : i_LO_run 14 = some (.ifCond .eq 21, 3) := rfl
theorem i_LO_run_17 : i_LO_run 17 = some (.aload_n 0, 1) := rfl
theorem i_LO_run_18 : i_LO_run 18 = some (.getfield 18, 3) := rfl
theorem i_LO_run_21 : i_LO_run 21 = some (.aload_n 0, 1) := rfl
theorem i_LO_run_22 : i_LO_run 22 = some (.getfield 24, 3) := rfl
theorem i_LO_run_25 : i_LO_run 25 = some (.getfield 56, 3) := rfl
theorem i_LO_run_28 : i_LO_run 28 = some (.iload_n 1, 1) := rfl
theorem i_LO_run_29 : i_LO_run 29 = some (.iaload, 1) := rfl
theorem i_LO_run_30 : i_LO_run 30 = some (.dup2, 1) := rfl
theorem i_LO_run_31 : i_LO_run 31 = some (.iaload, 1) := rfl
theorem i_LO_run_32 : i_LO_run 32 = some (.iconst 1, 1) := rfl
theorem i_LO_run_33 : i_LO_run 33 = some (.isub, 1) := rfl
theorem i_LO_run_34 : i_LO_run 34 = some (.iastore, 1) := rfl
theorem i_LO_run_35 : i_LO_run 35 = some (.return_, 1) := rfl
abbrev w_LO_run : List Jvm.Cond := Jvm.Cond.code y_LO_run b_LO_run 2 none :: vw_W
theorem c_LO_run : Jvm.Cond.code y_LO_run b_LO_run 2 none ∈ vw_W := vw_t 618 (by decide +kernel) (by decide +kernel)
abbrev r_LO_run : Room := { frames := 1, cells := 0, slots := 0, locals := 22 }
abbrev b_JM_min : ByteArray := prog_18_method_69_code
abbrev y_JM_min : MethodName := ⟨"java/lang/Math", "min", "(II)I"⟩
def q_JM_min : List (Nat × Instr × Nat) := [(0, .iload_n 0, 1), (1, .iload_n 1, 1), (2, .if_icmp .gt 7, 3), (5, .iload_n 0, 1), (6, .goto 4, 3), (9, .iload_n 1, 1), (10, .ireturn, 1)]
def i_JM_min : Nat → Option (Instr × Nat) := am_find q_JM_min
theorem d_JM_min_0 : decode b_JM_min 0 = .ok (.iload_n 0, 1) := by decide +kernel
theorem d_JM_min_1 : decode b_JM_min 1 = .ok (.iload_n 1, 1) := by decide +kernel
theorem d_JM_min_2 : decode b_JM_min 2 = .ok (.if_icmp .gt 7, 3) := by decide +kernel
theorem d_JM_min_5 : decode b_JM_min 5 = .ok (.iload_n 0, 1) := by decide +kernel
theorem d_JM_min_6 : decode b_JM_min 6 = .ok (.goto 4, 3) := by decide +kernel
theorem d_JM_min_9 : decode b_JM_min 9 = .ok (.iload_n 1, 1) := by decide +kernel
theorem d_JM_min_10 : decode b_JM_min 10 = .ok (.ireturn, 1) := by decide +kernel
theorem d_JM_min : ∀ z ∈ q_JM_min, decode b_JM_min z.1 = .ok z.2 := List.forall_mem_cons.mpr ⟨d_JM_min_0, List.forall_mem_cons.mpr ⟨d_JM_min_1, List.forall_mem_cons.mpr ⟨d_JM_min_2, List.forall_mem_cons.mpr ⟨d_JM_min_5, List.forall_mem_cons.mpr ⟨d_JM_min_6, List.forall_mem_cons.mpr ⟨d_JM_min_9, List.forall_mem_cons.mpr ⟨d_JM_min_10, fun _ h => absurd h List.not_mem_nil⟩⟩⟩⟩⟩⟩⟩
theorem i_JM_min_ok : ∀ pc i n, i_JM_min pc = some (i, n) → decode b_JM_min pc = .ok (i, n) := fun pc i n h => d_JM_min (pc, i, n) (am_find_mem h)
theorem i_JM_min_0 : i_JM_min 0 = some (.iload_n 0, 1) := rfl
theorem i_JM_min_1 : i_JM_min 1 = some (.iload_n 1, 1) := rfl
theorem i_JM_min_2 : i_JM_min 2 = some (.if_icmp .gt 7, 3) := rfl
theorem i_JM_min_5 : i_JM_min 5 = some (.iload_n 0, 1) := rfl
theorem i_JM_min_6 : i_JM_min 6 = some (.goto 4, 3) := rfl
theorem i_JM_min_9 : i_JM_min 9 = some (.iload_n 1, 1) := rfl
theorem i_JM_min_10 : i_JM_min 10 = some (.ireturn, 1) := rfl
abbrev w_JM_min : List Jvm.Cond := Jvm.Cond.code y_JM_min b_JM_min 2 (some .int) :: vw_W
theorem c_JM_min : Jvm.Cond.code y_JM_min b_JM_min 2 (some .int) ∈ vw_W := vw_t 622 (by decide +kernel) (by decide +kernel)
abbrev r_JM_min : Room := { frames := 0, cells := 0, slots := 0, locals := 0 }
abbrev b_BU_take : ByteArray := prog_2_method_4_code
abbrev y_BU_take : MethodName := ⟨"ServerDesk$Budget", "take", "(I)V"⟩
def q_BU_take : List (Nat × Instr × Nat) := [(0, .aload_n 0, 1), (1, .getfield 25, 3), (4, .ifCond .le 27, 3), (7, .aload_n 0, 1), (8, .dup, 1), (9, .getfield 25, 3), (12, .iconst 1, 1), (13, .isub, 1), (14, .putfield 25, 3), (17, .aload_n 0, 1), (18, .getfield 9, 3), (21, .aload_n 0, 1), (22, .iload_n 1, 1), (23, .invokevirtual 45, 3), (26, .dup2, 1), (27, .iaload, 1), (28, .iconst 1, 1), (29, .iadd, 1), (30, .iastore, 1), (31, .return_, 1)]
def i_BU_take : Nat → Option (Instr × Nat) := am_find q_BU_take
theorem d_BU_take_0 : decode b_BU_take 0 = .ok (.aload_n 0, 1) := by decide +kernel
theorem d_BU_take_1 : decode b_BU_take 1 = .ok (.getfield 25, 3) := by decide +kernel
theorem d_BU_take_4 : decode b_BU_take 4 = .ok (.ifCond .le 27, 3) := by decide +kernel
theorem d_BU_take_7 : decode b_BU_take 7 = .ok (.aload_n 0, 1) := by decide +kernel
theorem d_BU_take_8 : decode b_BU_take 8 = .ok (.dup, 1) := by decide +kernel
theorem d_BU_take_9 : decode b_BU_take 9 = .ok (.getfield 25, 3) := by decide +kernel
theorem d_BU_take_12 : decode b_BU_take 12 = .ok (.iconst 1, 1) := by decide +kernel
theorem d_BU_take_13 : decode b_BU_take 13 = .ok (.isub, 1) := by decide +kernel
theorem d_BU_take_14 : decode b_BU_take 14 = .ok (.putfield 25, 3) := by decide +kernel
theorem d_BU_take_17 : decode b_BU_take 17 = .ok (.aload_n 0, 1) := by decide +kernel
theorem d_BU_take_18 : decode b_BU_take 18 = .ok (.getfield 9, 3) := by decide +kernel
theorem d_BU_take_21 : decode b_BU_take 21 = .ok (.aload_n 0, 1) := by decide +kernel
theorem d_BU_take_22 : decode b_BU_take 22 = .ok (.iload_n 1, 1) := by decide +kernel
theorem d_BU_take_23 : decode b_BU_take 23 = .ok (.invokevirtual 45, 3) := by decide +kernel
theorem d_BU_take_26 : decode b_BU_take 26 = .ok (.dup2, 1) := by decide +kernel
theorem d_BU_take_27 : decode b_BU_take 27 = .ok (.iaload, 1) := by decide +kernel
theorem d_BU_take_28 : decode b_BU_take 28 = .ok (.iconst 1, 1) := by decide +kernel
theorem d_BU_take_29 : decode b_BU_take 29 = .ok (.iadd, 1) := by decide +kernel
theorem d_BU_take_30 : decode b_BU_take 30 = .ok (.iastore, 1) := by decide +kernel
theorem d_BU_take_31 : decode b_BU_take 31 = .ok (.return_, 1) := by decide +kernel
theorem d_BU_take : ∀ z ∈ q_BU_take, decode b_BU_take z.1 = .ok z.2 := List.forall_mem_cons.mpr ⟨d_BU_take_0, List.forall_mem_cons.mpr ⟨d_BU_take_1, List.forall_mem_cons.mpr ⟨d_BU_take_4, List.forall_mem_cons.mpr ⟨d_BU_take_7, List.forall_mem_cons.mpr ⟨d_BU_take_8, List.forall_mem_cons.mpr ⟨d_BU_take_9, List.forall_mem_cons.mpr ⟨d_BU_take_12, List.forall_mem_cons.mpr ⟨d_BU_take_13, List.forall_mem_cons.mpr ⟨d_BU_take_14, List.forall_mem_cons.mpr ⟨d_BU_take_17, List.forall_mem_cons.mpr ⟨d_BU_take_18, List.forall_mem_cons.mpr ⟨d_BU_take_21, List.forall_mem_cons.mpr ⟨d_BU_take_22, List.forall_mem_cons.mpr ⟨d_BU_take_23, List.forall_mem_cons.mpr ⟨d_BU_take_26, List.forall_mem_cons.mpr ⟨d_BU_take_27, List.forall_mem_cons.mpr ⟨d_BU_take_28, List.forall_mem_cons.mpr ⟨d_BU_take_29, List.forall_mem_cons.mpr ⟨d_BU_take_30, List.forall_mem_cons.mpr ⟨d_BU_take_31, fun _ h => absurd h List.not_mem_nil⟩⟩⟩⟩⟩⟩⟩⟩⟩⟩⟩⟩⟩⟩⟩⟩⟩⟩⟩⟩
theorem i_BU_take_ok : ∀ pc i n, i_BU_take pc = some (i, n) → decode b_BU_take pc = .ok (i, n) := fun pc i n h => d_BU_take (pc, i, n) (am_find_mem h)
theorem i_BU_take_0 : i_BU_take 0 = some (.aload_n 0, 1) := rfl
theorem i_BU_take_1 : i_BU_take 1 = some (.getfield 25, 3) := rfl
theorem i_BU_take_4 : i_BU_take 4 = some (.ifCond .le 27, 3) := rfl
theorem i_BU_take_7 : i_BU_take 7 = some (.aload_n 0, 1) := rfl
theorem i_BU_take_8 : i_BU_take 8 = some (.dup, 1) := rfl
theorem i_BU_take_9 : i_BU_take 9 = some (.getfield 25, 3) := rfl
theorem i_BU_take_12 : i_BU_take 12 = some (.iconst 1, 1) := rfl
theorem i_BU_take_13 : i_BU_take 13 = some (.isub, 1) := rfl
theorem i_BU_take_14 : i_BU_take 14 = some (.putfield 25, 3) := rfl
theorem i_BU_take_17 : i_BU_take 17 = some (.aload_n 0, 1) := rfl
theorem i_BU_take_18 : i_BU_take 18 = some (.getfield 9, 3) := rfl
theorem i_BU_take_21 : i_BU_take 21 = some (.aload_n 0, 1) := rfl
theorem i_BU_take_22 : i_BU_take 22 = some (.iload_n 1, 1) := rfl
theorem i_BU_take_23 : i_BU_take 23 = some (.invokevirtual 45, 3) := rfl
theorem i_BU_take_26 : i_BU_take 26 = some (.dup2, 1) := rfl
theorem i_BU_take_27 : i_BU_take 27 = some (.iaload, 1) := rfl
theorem i_BU_take_28 : i_BU_take 28 = some (.iconst 1, 1) := rfl
theorem i_BU_take_29 : i_BU_take 29 = some (.iadd, 1) := rfl
theorem i_BU_take_30 : i_BU_take 30 = some (.iastore, 1) := rfl
theorem i_BU_take_31 : i_BU_take 31 = some (.return_, 1) := rfl
abbrev w_BU_take : List Jvm.Cond := Jvm.Cond.code y_BU_take b_BU_take 2 none :: vw_W
theorem c_BU_take : Jvm.Cond.code y_BU_take b_BU_take 2 none ∈ vw_W := vw_t 626 (by decide +kernel) (by decide +kernel)
abbrev r_BU_take : Room := { frames := 2, cells := 0, slots := 0, locals := 43 }
abbrev b_QU_serve : ByteArray := prog_7_method_6_code
abbrev y_QU_serve : MethodName := ⟨"ServerDesk$Queue", "serve", "(II)V"⟩
def q_QU_serve : List (Nat × Instr × Nat) := [(0, .iload_n 1, 1), (1, .iconst 0, 1), (2, .aload_n 0, 1), (3, .getfield 18, 3), (6, .iconst 1, 1), (7, .isub, 1), (8, .invokestatic 44, 3), (11, .ifCond .eq 41, 3), (14, .aload_n 0, 1), (15, .getfield 9, 3), (18, .iload_n 1, 1), (19, .dup2, 1), (20, .iaload, 1), (21, .iconst 1, 1), (22, .isub, 1), (23, .iastore, 1), (24, .aload_n 0, 1), (25, .getfield 9, 3), (28, .iload_n 1, 1), (29, .iaload, 1), (30, .ifCond .ne 22, 3), (33, .aload_n 0, 1), (34, .getfield 15, 3), (37, .iload_n 1, 1), (38, .iload_n 2, 1), (39, .iconst 1, 1), (40, .iadd, 1), (41, .iastore, 1), (42, .aload_n 0, 1), (43, .dup, 1), (44, .getfield 22, 3), (47, .iconst 1, 1), (48, .isub, 1), (49, .putfield 22, 3), (52, .return_, 1)]
def i_QU_serve : Nat → Option (Instr × Nat) := am_find q_QU_serve
theorem d_QU_serve_0 : decode b_QU_serve 0 = .ok (.iload_n 1, 1) := by decide +kernel
theorem d_QU_serve_1 : decode b_QU_serve 1 = .ok (.iconst 0, 1) := by decide +kernel
theorem d_QU_serve_2 : decode b_QU_serve 2 = .ok (.aload_n 0, 1) := by decide +kernel
theorem d_QU_serve_3 : decode b_QU_serve 3 = .ok (.getfield 18, 3) := by decide +kernel
theorem d_QU_serve_6 : decode b_QU_serve 6 = .ok (.iconst 1, 1) := by decide +kernel
theorem d_QU_serve_7 : decode b_QU_serve 7 = .ok (.isub, 1) := by decide +kernel
theorem d_QU_serve_8 : decode b_QU_serve 8 = .ok (.invokestatic 44, 3) := by decide +kernel
theorem d_QU_serve_11 : decode b_QU_serve 11 = .ok (.ifCond .eq 41, 3) := by decide +kernel
theorem d_QU_serve_14 : decode b_QU_serve 14 = .ok (.aload_n 0, 1) := by decide +kernel
theorem d_QU_serve_15 : decode b_QU_serve 15 = .ok (.getfield 9, 3) := by decide +kernel
theorem d_QU_serve_18 : decode b_QU_serve 18 = .ok (.iload_n 1, 1) := by decide +kernel
theorem d_QU_serve_19 : decode b_QU_serve 19 = .ok (.dup2, 1) := by decide +kernel
theorem d_QU_serve_20 : decode b_QU_serve 20 = .ok (.iaload, 1) := by decide +kernel
theorem d_QU_serve_21 : decode b_QU_serve 21 = .ok (.iconst 1, 1) := by decide +kernel
theorem d_QU_serve_22 : decode b_QU_serve 22 = .ok (.isub, 1) := by decide +kernel
theorem d_QU_serve_23 : decode b_QU_serve 23 = .ok (.iastore, 1) := by decide +kernel
theorem d_QU_serve_24 : decode b_QU_serve 24 = .ok (.aload_n 0, 1) := by decide +kernel
theorem d_QU_serve_25 : decode b_QU_serve 25 = .ok (.getfield 9, 3) := by decide +kernel
theorem d_QU_serve_28 : decode b_QU_serve 28 = .ok (.iload_n 1, 1) := by decide +kernel
theorem d_QU_serve_29 : decode b_QU_serve 29 = .ok (.iaload, 1) := by decide +kernel
theorem d_QU_serve_30 : decode b_QU_serve 30 = .ok (.ifCond .ne 22, 3) := by decide +kernel
theorem d_QU_serve_33 : decode b_QU_serve 33 = .ok (.aload_n 0, 1) := by decide +kernel
theorem d_QU_serve_34 : decode b_QU_serve 34 = .ok (.getfield 15, 3) := by decide +kernel
theorem d_QU_serve_37 : decode b_QU_serve 37 = .ok (.iload_n 1, 1) := by decide +kernel
theorem d_QU_serve_38 : decode b_QU_serve 38 = .ok (.iload_n 2, 1) := by decide +kernel
theorem d_QU_serve_39 : decode b_QU_serve 39 = .ok (.iconst 1, 1) := by decide +kernel
theorem d_QU_serve_40 : decode b_QU_serve 40 = .ok (.iadd, 1) := by decide +kernel
theorem d_QU_serve_41 : decode b_QU_serve 41 = .ok (.iastore, 1) := by decide +kernel
theorem d_QU_serve_42 : decode b_QU_serve 42 = .ok (.aload_n 0, 1) := by decide +kernel
theorem d_QU_serve_43 : decode b_QU_serve 43 = .ok (.dup, 1) := by decide +kernel
theorem d_QU_serve_44 : decode b_QU_serve 44 = .ok (.getfield 22, 3) := by decide +kernel
theorem d_QU_serve_47 : decode b_QU_serve 47 = .ok (.iconst 1, 1) := by decide +kernel
theorem d_QU_serve_48 : decode b_QU_serve 48 = .ok (.isub, 1) := by decide +kernel
theorem d_QU_serve_49 : decode b_QU_serve 49 = .ok (.putfield 22, 3) := by decide +kernel
theorem d_QU_serve_52 : decode b_QU_serve 52 = .ok (.return_, 1) := by decide +kernel
theorem d_QU_serve : ∀ z ∈ q_QU_serve, decode b_QU_serve z.1 = .ok z.2 := List.forall_mem_cons.mpr ⟨d_QU_serve_0, List.forall_mem_cons.mpr ⟨d_QU_serve_1, List.forall_mem_cons.mpr ⟨d_QU_serve_2, List.forall_mem_cons.mpr ⟨d_QU_serve_3, List.forall_mem_cons.mpr ⟨d_QU_serve_6, List.forall_mem_cons.mpr ⟨d_QU_serve_7, List.forall_mem_cons.mpr ⟨d_QU_serve_8, List.forall_mem_cons.mpr ⟨d_QU_serve_11, List.forall_mem_cons.mpr ⟨d_QU_serve_14, List.forall_mem_cons.mpr ⟨d_QU_serve_15, List.forall_mem_cons.mpr ⟨d_QU_serve_18, List.forall_mem_cons.mpr ⟨d_QU_serve_19, List.forall_mem_cons.mpr ⟨d_QU_serve_20, List.forall_mem_cons.mpr ⟨d_QU_serve_21, List.forall_mem_cons.mpr ⟨d_QU_serve_22, List.forall_mem_cons.mpr ⟨d_QU_serve_23, List.forall_mem_cons.mpr ⟨d_QU_serve_24, List.forall_mem_cons.mpr ⟨d_QU_serve_25, List.forall_mem_cons.mpr ⟨d_QU_serve_28, List.forall_mem_cons.mpr ⟨d_QU_serve_29, List.forall_mem_cons.mpr ⟨d_QU_serve_30, List.forall_mem_cons.mpr ⟨d_QU_serve_33, List.forall_mem_cons.mpr ⟨d_QU_serve_34, List.forall_mem_cons.mpr ⟨d_QU_serve_37, List.forall_mem_cons.mpr ⟨d_QU_serve_38, List.forall_mem_cons.mpr ⟨d_QU_serve_39, List.forall_mem_cons.mpr ⟨d_QU_serve_40, List.forall_mem_cons.mpr ⟨d_QU_serve_41, List.forall_mem_cons.mpr ⟨d_QU_serve_42, List.forall_mem_cons.mpr ⟨d_QU_serve_43, List.forall_mem_cons.mpr ⟨d_QU_serve_44, List.forall_mem_cons.mpr ⟨d_QU_serve_47, List.forall_mem_cons.mpr ⟨d_QU_serve_48, List.forall_mem_cons.mpr ⟨d_QU_serve_49, List.forall_mem_cons.mpr ⟨d_QU_serve_52, fun _ h => absurd h List.not_mem_nil⟩⟩⟩⟩⟩⟩⟩⟩⟩⟩⟩⟩⟩⟩⟩⟩⟩⟩⟩⟩⟩⟩⟩⟩⟩⟩⟩⟩⟩⟩⟩⟩⟩⟩⟩
theorem i_QU_serve_ok : ∀ pc i n, i_QU_serve pc = some (i, n) → decode b_QU_serve pc = .ok (i, n) := fun pc i n h => d_QU_serve (pc, i, n) (am_find_mem h)
theorem i_QU_serve_0 : i_QU_serve 0 = some (.iload_n 1, 1) := rfl
theorem i_QU_serve_1 : i_QU_serve 1 = some (.iconst 0, 1) := rfl
theorem i_QU_serve_2 : i_QU_serve 2 = some (.aload_n 0, 1) := rfl
theorem i_QU_serve_3 : i_QU_serve 3 = some (.getfield 18, 3) := rfl
theorem i_QU_serve_6 : i_QU_serve 6 = some (.iconst 1, 1) := rfl
theorem i_QU_serve_7 : i_QU_serve 7 = some (.isub, 1) := rfl
theorem i_QU_serve_8 : i_QU_serve 8 = some (.invokestatic 44, 3) := rfl
theorem i_QU_serve_11 : i_QU_serve 11 = some (.ifCond .eq 41, 3) := rfl
theorem i_QU_serve_14 : i_QU_serve 14 = some (.aload_n 0, 1) := rfl
theorem i_QU_serve_15 : i_QU_serve 15 = some (.getfield 9, 3) := rfl
theorem i_QU_serve_18 : i_QU_serve 18 = some (.iload_n 1, 1) := rfl
theorem i_QU_serve_19 : i_QU_serve 19 = some (.dup2, 1) := rfl
theorem i_QU_serve_20 : i_QU_serve 20 = some (.iaload, 1) := rfl
theorem i_QU_serve_21 : i_QU_serve 21 = some (.iconst 1, 1) := rfl
theorem i_QU_serve_22 : i_QU_serve 22 = some (.isub, 1) := rfl
theorem i_QU_serve_23 : i_QU_serve 23 = some (.iastore, 1) := rfl
theorem i_QU_serve_24 : i_QU_serve 24 = some (.aload_n 0, 1) := rfl
theorem i_QU_serve_25 : i_QU_serve 25 = some (.getfield 9, 3) := rfl
theorem i_QU_serve_28 : i_QU_serve 28 = some (.iload_n 1, 1) := rfl
theorem i_QU_serve_29 : i_QU_serve 29 = some (.iaload, 1) := rfl
theorem i_QU_serve_30 : i_QU_serve 30 = some (.ifCond .ne 22, 3) := rfl
theorem i_QU_serve_33 : i_QU_serve 33 = some (.aload_n 0, 1) := rfl
theorem i_QU_serve_34 : i_QU_serve 34 = some (.getfield 15, 3) := rfl
theorem i_QU_serve_37 : i_QU_serve 37 = some (.iload_n 1, 1) := rfl
theorem i_QU_serve_38 : i_QU_serve 38 = some (.iload_n 2, 1) := rfl
theorem i_QU_serve_39 : i_QU_serve 39 = some (.iconst 1, 1) := rfl
theorem i_QU_serve_40 : i_QU_serve 40 = some (.iadd, 1) := rfl
theorem i_QU_serve_41 : i_QU_serve 41 = some (.iastore, 1) := rfl
theorem i_QU_serve_42 : i_QU_serve 42 = some (.aload_n 0, 1) := rfl
theorem i_QU_serve_43 : i_QU_serve 43 = some (.dup, 1) := rfl
theorem i_QU_serve_44 : i_QU_serve 44 = some (.getfield 22, 3) := rfl
theorem i_QU_serve_47 : i_QU_serve 47 = some (.iconst 1, 1) := rfl
theorem i_QU_serve_48 : i_QU_serve 48 = some (.isub, 1) := rfl
theorem i_QU_serve_49 : i_QU_serve 49 = some (.putfield 22, 3) := rfl
theorem i_QU_serve_52 : i_QU_serve 52 = some (.return_, 1) := rfl
abbrev w_QU_serve : List Jvm.Cond := Jvm.Cond.code y_QU_serve b_QU_serve 3 none :: vw_W
theorem c_QU_serve : Jvm.Cond.code y_QU_serve b_QU_serve 3 none ∈ vw_W := vw_t 630 (by decide +kernel) (by decide +kernel)
abbrev r_QU_serve : Room := { frames := 1, cells := 0, slots := 0, locals := 22 }
abbrev b_LO_lateAt : ByteArray := prog_6_method_9_code
abbrev y_LO_lateAt : MethodName := ⟨"ServerDesk$Load", "lateAt", "(I)I"⟩
def q_LO_lateAt : List (Nat × Instr × Nat) := [(0, .iconst 0, 1), (1, .istore_n 2, 1), (2, .iconst 0, 1), (3, .istore_n 3, 1), (4, .iload_n 3, 1), (5, .aload_n 0, 1), (6, .getfield 24, 3), (9, .getfield 28, 3), (12, .if_icmp .ge 31, 3), (15, .aload_n 0, 1), (16, .getfield 18, 3), (19, .iload_n 3, 1), (20, .iaload, 1), (21, .ifCond .le 16, 3), (24, .aload_n 0, 1), (25, .getfield 21, 3), (28, .iload_n 3, 1), (29, .iaload, 1), (30, .iload_n 1, 1), (31, .if_icmp .ne 6, 3), (34, .iinc 2 1, 3), (37, .iinc 3 1, 3), (40, .goto (-36), 3), (43, .iload_n 2, 1), (44, .ireturn, 1)]
def i_LO_lateAt : Nat → Option (Instr × Nat) := am_find q_LO_lateAt
theorem d_LO_lateAt_0 : decode b_LO_lateAt 0 = .ok (.iconst 0, 1) := by decide +kernel
theorem d_LO_lateAt_1 : decode b_LO_lateAt 1 = .ok (.istore_n 2, 1) := by decide +kernel
theorem d_LO_lateAt_2 : decode b_LO_lateAt 2 = .ok (.iconst 0, 1) := by decide +kernel
theorem d_LO_lateAt_3 : decode b_LO_lateAt 3 = .ok (.istore_n 3, 1) := by decide +kernel
theorem d_LO_lateAt_4 : decode b_LO_lateAt 4 = .ok (.iload_n 3, 1) := by decide +kernel
theorem d_LO_lateAt_5 : decode b_LO_lateAt 5 = .ok (.aload_n 0, 1) := by decide +kernel
theorem d_LO_lateAt_6 : decode b_LO_lateAt 6 = .ok (.getfield 24, 3) := by decide +kernel
theorem d_LO_lateAt_9 : decode b_LO_lateAt 9 = .ok (.getfield 28, 3) := by decide +kernel
theorem d_LO_lateAt_12 : decode b_LO_lateAt 12 = .ok (.if_icmp .ge 31, 3) := by decide +kernel
theorem d_LO_lateAt_15 : decode b_LO_lateAt 15 = .ok (.aload_n 0, 1) := by decide +kernel
theorem d_LO_lateAt_16 : decode b_LO_lateAt 16 = .ok (.getfield 18, 3) := by decide +kernel
theorem d_LO_lateAt_19 : decode b_LO_lateAt 19 = .ok (.iload_n 3, 1) := by decide +kernel
theorem d_LO_lateAt_20 : decode b_LO_lateAt 20 = .ok (.iaload, 1) := by decide +kernel
theorem d_LO_lateAt_21 : decode b_LO_lateAt 21 = .ok (.ifCond .le 16, 3) := by decide +kernel
theorem d_LO_lateAt_24 : decode b_LO_lateAt 24 = .ok (.aload_n 0, 1) := by decide +kernel
theorem d_LO_lateAt_25 : decode b_LO_lateAt 25 = .ok (.getfield 21, 3) := by decide +kernel
theorem d_LO_lateAt_28 : decode b_LO_lateAt 28 = .ok (.iload_n 3, 1) := by decide +kernel
theorem d_LO_lateAt_29 : decode b_LO_lateAt 29 = .ok (.iaload, 1) := by decide +kernel
theorem d_LO_lateAt_30 : decode b_LO_lateAt 30 = .ok (.iload_n 1, 1) := by decide +kernel
theorem d_LO_lateAt_31 : decode b_LO_lateAt 31 = .ok (.if_icmp .ne 6, 3) := by decide +kernel
theorem d_LO_lateAt_34 : decode b_LO_lateAt 34 = .ok (.iinc 2 1, 3) := by decide +kernel
theorem d_LO_lateAt_37 : decode b_LO_lateAt 37 = .ok (.iinc 3 1, 3) := by decide +kernel
theorem d_LO_lateAt_40 : decode b_LO_lateAt 40 = .ok (.goto (-36), 3) := by decide +kernel
theorem d_LO_lateAt_43 : decode b_LO_lateAt 43 = .ok (.iload_n 2, 1) := by decide +kernel
theorem d_LO_lateAt_44 : decode b_LO_lateAt 44 = .ok (.ireturn, 1) := by decide +kernel
theorem d_LO_lateAt : ∀ z ∈ q_LO_lateAt, decode b_LO_lateAt z.1 = .ok z.2 := List.forall_mem_cons.mpr ⟨d_LO_lateAt_0, List.forall_mem_cons.mpr ⟨d_LO_lateAt_1, List.forall_mem_cons.mpr ⟨d_LO_lateAt_2, List.forall_mem_cons.mpr ⟨d_LO_lateAt_3, List.forall_mem_cons.mpr ⟨d_LO_lateAt_4, List.forall_mem_cons.mpr ⟨d_LO_lateAt_5, List.forall_mem_cons.mpr ⟨d_LO_lateAt_6, List.forall_mem_cons.mpr ⟨d_LO_lateAt_9, List.forall_mem_cons.mpr ⟨d_LO_lateAt_12, List.forall_mem_cons.mpr ⟨d_LO_lateAt_15, List.forall_mem_cons.mpr ⟨d_LO_lateAt_16, List.forall_mem_cons.mpr ⟨d_LO_lateAt_19, List.forall_mem_cons.mpr ⟨d_LO_lateAt_20, List.forall_mem_cons.mpr ⟨d_LO_lateAt_21, List.forall_mem_cons.mpr ⟨d_LO_lateAt_24, List.forall_mem_cons.mpr ⟨d_LO_lateAt_25, List.forall_mem_cons.mpr ⟨d_LO_lateAt_28, List.forall_mem_cons.mpr ⟨d_LO_lateAt_29, List.forall_mem_cons.mpr ⟨d_LO_lateAt_30, List.forall_mem_cons.mpr ⟨d_LO_lateAt_31, List.forall_mem_cons.mpr ⟨d_LO_lateAt_34, List.forall_mem_cons.mpr ⟨d_LO_lateAt_37, List.forall_mem_cons.mpr ⟨d_LO_lateAt_40, List.forall_mem_cons.mpr ⟨d_LO_lateAt_43, List.forall_mem_cons.mpr ⟨d_LO_lateAt_44, fun _ h => absurd h List.not_mem_nil⟩⟩⟩⟩⟩⟩⟩⟩⟩⟩⟩⟩⟩⟩⟩⟩⟩⟩⟩⟩⟩⟩⟩⟩⟩
theorem i_LO_lateAt_ok : ∀ pc i n, i_LO_lateAt pc = some (i, n) → decode b_LO_lateAt pc = .ok (i, n) := fun pc i n h => d_LO_lateAt (pc, i, n) (am_find_mem h)
theorem i_LO_lateAt_0 : i_LO_lateAt 0 = some (.iconst 0, 1) := rfl
theorem i_LO_lateAt_1 : i_LO_lateAt 1 = some (.istore_n 2, 1) := rfl
theorem i_LO_lateAt_2 : i_LO_lateAt 2 = some (.iconst 0, 1) := rfl
theorem i_LO_lateAt_3 : i_LO_lateAt 3 = some (.istore_n 3, 1) := rfl
theorem i_LO_lateAt_4 : i_LO_lateAt 4 = some (.iload_n 3, 1) := rfl
theorem i_LO_lateAt_5 : i_LO_lateAt 5 = some (.aload_n 0, 1) := rfl
theorem i_LO_lateAt_6 : i_LO_lateAt 6 = some (.getfield 24, 3) := rfl
theorem i_LO_lateAt_9 : i_LO_lateAt 9 = some (.getfield 28, 3) := rfl
theorem i_LO_lateAt_12 : i_LO_lateAt 12 = some (.if_icmp .ge 31, 3) := rfl
theorem i_LO_lateAt_15 : i_LO_lateAt 15 = some (.aload_n 0, 1) := rfl
theorem i_LO_lateAt_16 : i_LO_lateAt 16 = some (.getfield 18, 3) := rfl
theorem i_LO_lateAt_19 : i_LO_lateAt 19 = some (.iload_n 3, 1) := rfl
theorem i_LO_lateAt_20 : i_LO_lateAt 20 = some (.iaload, 1) := rfl
theorem i_LO_lateAt_21 : i_LO_lateAt 21 = some (.ifCond .le 16, 3) := rfl
theorem i_LO_lateAt_24 : i_LO_lateAt 24 = some (.aload_n 0, 1) := rfl
theorem i_LO_lateAt_25 : i_LO_lateAt 25 = some (.getfield 21, 3) := rfl
theorem i_LO_lateAt_28 : i_LO_lateAt 28 = some (.iload_n 3, 1) := rfl
theorem i_LO_lateAt_29 : i_LO_lateAt 29 = some (.iaload, 1) := rfl
theorem i_LO_lateAt_30 : i_LO_lateAt 30 = some (.iload_n 1, 1) := rfl
theorem i_LO_lateAt_31 : i_LO_lateAt 31 = some (.if_icmp .ne 6, 3) := rfl
theorem i_LO_lateAt_34 : i_LO_lateAt 34 = some (.iinc 2 1, 3) := rfl
theorem i_LO_lateAt_37 : i_LO_lateAt 37 = some (.iinc 3 1, 3) := rfl
theorem i_LO_lateAt_40 : i_LO_lateAt 40 = some (.goto (-36), 3) := rfl
theorem i_LO_lateAt_43 : i_LO_lateAt 43 = some (.iload_n 2, 1) := rfl
theorem i_LO_lateAt_44 : i_LO_lateAt 44 = some (.ireturn, 1) := rfl
abbrev w_LO_lateAt : List Jvm.Cond := Jvm.Cond.code y_LO_lateAt b_LO_lateAt 4 (some .int) :: vw_W
theorem c_LO_lateAt : Jvm.Cond.code y_LO_lateAt b_LO_lateAt 4 (some .int) ∈ vw_W := vw_t 636 (by decide +kernel) (by decide +kernel)
abbrev r_LO_lateAt : Room := { frames := 0, cells := 0, slots := 0, locals := 0 }
abbrev b_LW_job : ByteArray := method_7_code
abbrev y_LW_job : MethodName := ⟨"ServerDeskLaw", "job", "(LServerDesk;I[J)I"⟩
def q_LW_job : List (Nat × Instr × Nat) := [(0, .aload_n 2, 1), (1, .iconst 0, 1), (2, .aload_n 0, 1), (3, .iload_n 1, 1), (4, .invokevirtual 30, 3), (7, .i2l, 1), (8, .lastore, 1), (9, .goto 9, 3), (12, .astore_n 3, 1), (13, .iconst 1, 1), (14, .ireturn, 1), (15, .astore_n 3, 1), (16, .iconst 2, 1), (17, .ireturn, 1), (18, .iconst 0, 1), (19, .ireturn, 1)]
def i_LW_job : Nat → Option (Instr × Nat) := am_find q_LW_job
theorem d_LW_job_0 : decode b_LW_job 0 = .ok (.aload_n 2, 1) := by decide +kernel
theorem d_LW_job_1 : decode b_LW_job 1 = .ok (.iconst 0, 1) := by decide +kernel
theorem d_LW_job_2 : decode b_LW_job 2 = .ok (.aload_n 0, 1) := by decide +kernel
theorem d_LW_job_3 : decode b_LW_job 3 = .ok (.iload_n 1, 1) := by decide +kernel
theorem d_LW_job_4 : decode b_LW_job 4 = .ok (.invokevirtual 30, 3) := by decide +kernel
theorem d_LW_job_7 : decode b_LW_job 7 = .ok (.i2l, 1) := by decide +kernel
theorem d_LW_job_8 : decode b_LW_job 8 = .ok (.lastore, 1) := by decide +kernel
theorem d_LW_job_9 : decode b_LW_job 9 = .ok (.goto 9, 3) := by decide +kernel
theorem d_LW_job_12 : decode b_LW_job 12 = .ok (.astore_n 3, 1) := by decide +kernel
theorem d_LW_job_13 : decode b_LW_job 13 = .ok (.iconst 1, 1) := by decide +kernel
theorem d_LW_job_14 : decode b_LW_job 14 = .ok (.ireturn, 1) := by decide +kernel
theorem d_LW_job_15 : decode b_LW_job 15 = .ok (.astore_n 3, 1) := by decide +kernel
theorem d_LW_job_16 : decode b_LW_job 16 = .ok (.iconst 2, 1) := by decide +kernel
theorem d_LW_job_17 : decode b_LW_job 17 = .ok (.ireturn, 1) := by decide +kernel
theorem d_LW_job_18 : decode b_LW_job 18 = .ok (.iconst 0, 1) := by decide +kernel
theorem d_LW_job_19 : decode b_LW_job 19 = .ok (.ireturn, 1) := by decide +kernel
theorem d_LW_job : ∀ z ∈ q_LW_job, decode b_LW_job z.1 = .ok z.2 := List.forall_mem_cons.mpr ⟨d_LW_job_0, List.forall_mem_cons.mpr ⟨d_LW_job_1, List.forall_mem_cons.mpr ⟨d_LW_job_2, List.forall_mem_cons.mpr ⟨d_LW_job_3, List.forall_mem_cons.mpr ⟨d_LW_job_4, List.forall_mem_cons.mpr ⟨d_LW_job_7, List.forall_mem_cons.mpr ⟨d_LW_job_8, List.forall_mem_cons.mpr ⟨d_LW_job_9, List.forall_mem_cons.mpr ⟨d_LW_job_12, List.forall_mem_cons.mpr ⟨d_LW_job_13, List.forall_mem_cons.mpr ⟨d_LW_job_14, List.forall_mem_cons.mpr ⟨d_LW_job_15, List.forall_mem_cons.mpr ⟨d_LW_job_16, List.forall_mem_cons.mpr ⟨d_LW_job_17, List.forall_mem_cons.mpr ⟨d_LW_job_18, List.forall_mem_cons.mpr ⟨d_LW_job_19, fun _ h => absurd h List.not_mem_nil⟩⟩⟩⟩⟩⟩⟩⟩⟩⟩⟩⟩⟩⟩⟩⟩
theorem i_LW_job_ok : ∀ pc i n, i_LW_job pc = some (i, n) → decode b_LW_job pc = .ok (i, n) := fun pc i n h => d_LW_job (pc, i, n) (am_find_mem h)
theorem i_LW_job_0 : i_LW_job 0 = some (.aload_n 2, 1) := rfl
theorem i_LW_job_1 : i_LW_job 1 = some (.iconst 0, 1) := rfl
theorem i_LW_job_2 : i_LW_job 2 = some (.aload_n 0, 1) := rfl
theorem i_LW_job_3 : i_LW_job 3 = some (.iload_n 1, 1) := rfl
theorem i_LW_job_4 : i_LW_job 4 = some (.invokevirtual 30, 3) := rfl
theorem i_LW_job_7 : i_LW_job 7 = some (.i2l, 1) := rfl
theorem i_LW_job_8 : i_LW_job 8 = some (.lastore, 1) := rfl
theorem i_LW_job_9 : i_LW_job 9 = some (.goto 9, 3) := rfl
theorem i_LW_job_12 : i_LW_job 12 = some (.astore_n 3, 1) := rfl
theorem i_LW_job_13 : i_LW_job 13 = some (.iconst 1, 1) := rfl
theorem i_LW_job_14 : i_LW_job 14 = some (.ireturn, 1) := rfl
theorem i_LW_job_15 : i_LW_job 15 = some (.astore_n 3, 1) := rfl
theorem i_LW_job_16 : i_LW_job 16 = some (.iconst 2, 1) := rfl
theorem i_LW_job_17 : i_LW_job 17 = some (.ireturn, 1) := rfl
theorem i_LW_job_18 : i_LW_job 18 = some (.iconst 0, 1) := rfl
theorem i_LW_job_19 : i_LW_job 19 = some (.ireturn, 1) := rfl
abbrev b_SD_job : ByteArray := prog_1_method_6_code
abbrev y_SD_job : MethodName := ⟨"ServerDesk", "job", "(I)I"⟩
def q_SD_job : List (Nat × Instr × Nat) := [(0, .iload_n 1, 1), (1, .iconst 1, 1), (2, .bipush 30, 2), (4, .invokestatic 76, 3), (7, .ifCond .ne 13, 3), (10, .new 80, 3), (13, .dup, 1), (14, .ldc 143, 2), (16, .invokespecial 84, 3), (19, .athrow, 1), (20, .aload_n 0, 1), (21, .getfield 68, 3), (24, .ifCond .eq 15, 3), (27, .aload_n 0, 1), (28, .getfield 26, 3), (31, .getfield 145, 3), (34, .bipush 40, 2), (36, .if_icmp .lt 13, 3), (39, .new 90, 3), (42, .dup, 1), (43, .ldc 146, 2), (45, .invokespecial 94, 3), (48, .athrow, 1), (49, .aload_n 0, 1), (50, .iload_n 1, 1), (51, .iconst 0, 1), (52, .invokevirtual 148, 3), (55, .ireturn, 1)]
def i_SD_job : Nat → Option (Instr × Nat) := am_find q_SD_job
theorem d_SD_job_0 : decode b_SD_job 0 = .ok (.iload_n 1, 1) := by decide +kernel
theorem d_SD_job_1 : decode b_SD_job 1 = .ok (.iconst 1, 1) := by decide +kernel
theorem d_SD_job_2 : decode b_SD_job 2 = .ok (.bipush 30, 2) := by decide +kernel
theorem d_SD_job_4 : decode b_SD_job 4 = .ok (.invokestatic 76, 3) := by decide +kernel
theorem d_SD_job_7 : decode b_SD_job 7 = .ok (.ifCond .ne 13, 3) := by decide +kernel
theorem d_SD_job_10 : decode b_SD_job 10 = .ok (.new 80, 3) := by decide +kernel
theorem d_SD_job_13 : decode b_SD_job 13 = .ok (.dup, 1) := by decide +kernel
theorem d_SD_job_14 : decode b_SD_job 14 = .ok (.ldc 143, 2) := by decide +kernel
theorem d_SD_job_16 : decode b_SD_job 16 = .ok (.invokespecial 84, 3) := by decide +kernel
theorem d_SD_job_19 : decode b_SD_job 19 = .ok (.athrow, 1) := by decide +kernel
theorem d_SD_job_20 : decode b_SD_job 20 = .ok (.aload_n 0, 1) := by decide +kernel
theorem d_SD_job_21 : decode b_SD_job 21 = .ok (.getfield 68, 3) := by decide +kernel
theorem d_SD_job_24 : decode b_SD_job 24 = .ok (.ifCond .eq 15, 3) := by decide +kernel
theorem d_SD_job_27 : decode b_SD_job 27 = .ok (.aload_n 0, 1) := by decide +kernel
theorem d_SD_job_28 : decode b_SD_job 28 = .ok (.getfield 26, 3) := by decide +kernel
theorem d_SD_job_31 : decode b_SD_job 31 = .ok (.getfield 145, 3) := by decide +kernel
theorem d_SD_job_34 : decode b_SD_job 34 = .ok (.bipush 40, 2) := by decide +kernel
theorem d_SD_job_36 : decode b_SD_job 36 = .ok (.if_icmp .lt 13, 3) := by decide +kernel
theorem d_SD_job_39 : decode b_SD_job 39 = .ok (.new 90, 3) := by decide +kernel
theorem d_SD_job_42 : decode b_SD_job 42 = .ok (.dup, 1) := by decide +kernel
theorem d_SD_job_43 : decode b_SD_job 43 = .ok (.ldc 146, 2) := by decide +kernel
theorem d_SD_job_45 : decode b_SD_job 45 = .ok (.invokespecial 94, 3) := by decide +kernel
theorem d_SD_job_48 : decode b_SD_job 48 = .ok (.athrow, 1) := by decide +kernel
theorem d_SD_job_49 : decode b_SD_job 49 = .ok (.aload_n 0, 1) := by decide +kernel
theorem d_SD_job_50 : decode b_SD_job 50 = .ok (.iload_n 1, 1) := by decide +kernel
theorem d_SD_job_51 : decode b_SD_job 51 = .ok (.iconst 0, 1) := by decide +kernel
theorem d_SD_job_52 : decode b_SD_job 52 = .ok (.invokevirtual 148, 3) := by decide +kernel
theorem d_SD_job_55 : decode b_SD_job 55 = .ok (.ireturn, 1) := by decide +kernel
theorem d_SD_job : ∀ z ∈ q_SD_job, decode b_SD_job z.1 = .ok z.2 := List.forall_mem_cons.mpr ⟨d_SD_job_0, List.forall_mem_cons.mpr ⟨d_SD_job_1, List.forall_mem_cons.mpr ⟨d_SD_job_2, List.forall_mem_cons.mpr ⟨d_SD_job_4, List.forall_mem_cons.mpr ⟨d_SD_job_7, List.forall_mem_cons.mpr ⟨d_SD_job_10, List.forall_mem_cons.mpr ⟨d_SD_job_13, List.forall_mem_cons.mpr ⟨d_SD_job_14, List.forall_mem_cons.mpr ⟨d_SD_job_16, List.forall_mem_cons.mpr ⟨d_SD_job_19, List.forall_mem_cons.mpr ⟨d_SD_job_20, List.forall_mem_cons.mpr ⟨d_SD_job_21, List.forall_mem_cons.mpr ⟨d_SD_job_24, List.forall_mem_cons.mpr ⟨d_SD_job_27, List.forall_mem_cons.mpr ⟨d_SD_job_28, List.forall_mem_cons.mpr ⟨d_SD_job_31, List.forall_mem_cons.mpr ⟨d_SD_job_34, List.forall_mem_cons.mpr ⟨d_SD_job_36, List.forall_mem_cons.mpr ⟨d_SD_job_39, List.forall_mem_cons.mpr ⟨d_SD_job_42, List.forall_mem_cons.mpr ⟨d_SD_job_43, List.forall_mem_cons.mpr ⟨d_SD_job_45, List.forall_mem_cons.mpr ⟨d_SD_job_48, List.forall_mem_cons.mpr ⟨d_SD_job_49, List.forall_mem_cons.mpr ⟨d_SD_job_50, List.forall_mem_cons.mpr ⟨d_SD_job_51, List.forall_mem_cons.mpr ⟨d_SD_job_52, List.forall_mem_cons.mpr ⟨d_SD_job_55, fun _ h => absurd h List.not_mem_nil⟩⟩⟩⟩⟩⟩⟩⟩⟩⟩⟩⟩⟩⟩⟩⟩⟩⟩⟩⟩⟩⟩⟩⟩⟩⟩⟩⟩
theorem i_SD_job_ok : ∀ pc i n, i_SD_job pc = some (i, n) → decode b_SD_job pc = .ok (i, n) := fun pc i n h => d_SD_job (pc, i, n) (am_find_mem h)
theorem i_SD_job_0 : i_SD_job 0 = some (.iload_n 1, 1) := rfl
theorem i_SD_job_1 : i_SD_job 1 = some (.iconst 1, 1) := rfl
theorem i_SD_job_2 : i_SD_job 2 = some (.bipush 30, 2) := rfl
theorem i_SD_job_4 : i_SD_job 4 = some (.invokestatic 76, 3) := rfl
theorem i_SD_job_7 : i_SD_job 7 = some (.ifCond .ne 13, 3) := rfl
theorem i_SD_job_10 : i_SD_job 10 = some (.new 80, 3) := rfl
theorem i_SD_job_13 : i_SD_job 13 = some (.dup, 1) := rfl
theorem i_SD_job_14 : i_SD_job 14 = some (.ldc 143, 2) := rfl
theorem i_SD_job_16 : i_SD_job 16 = some (.invokespecial 84, 3) := rfl
theorem i_SD_job_19 : i_SD_job 19 = some (.athrow, 1) := rfl
theorem i_SD_job_20 : i_SD_job 20 = some (.aload_n 0, 1) := rfl
theorem i_SD_job_21 : i_SD_job 21 = some (.getfield 68, 3) := rfl
theorem i_SD_job_24 : i_SD_job 24 = some (.ifCond .eq 15, 3) := rfl
theorem i_SD_job_27 : i_SD_job 27 = some (.aload_n 0, 1) := rfl
theorem i_SD_job_28 : i_SD_job 28 = some (.getfield 26, 3) := rfl
theorem i_SD_job_31 : i_SD_job 31 = some (.getfield 145, 3) := rfl
theorem i_SD_job_34 : i_SD_job 34 = some (.bipush 40, 2) := rfl
theorem i_SD_job_36 : i_SD_job 36 = some (.if_icmp .lt 13, 3) := rfl
theorem i_SD_job_39 : i_SD_job 39 = some (.new 90, 3) := rfl
theorem i_SD_job_42 : i_SD_job 42 = some (.dup, 1) := rfl
theorem i_SD_job_43 : i_SD_job 43 = some (.ldc 146, 2) := rfl
theorem i_SD_job_45 : i_SD_job 45 = some (.invokespecial 94, 3) := rfl
theorem i_SD_job_48 : i_SD_job 48 = some (.athrow, 1) := rfl
theorem i_SD_job_49 : i_SD_job 49 = some (.aload_n 0, 1) := rfl
theorem i_SD_job_50 : i_SD_job 50 = some (.iload_n 1, 1) := rfl
theorem i_SD_job_51 : i_SD_job 51 = some (.iconst 0, 1) := rfl
theorem i_SD_job_52 : i_SD_job 52 = some (.invokevirtual 148, 3) := rfl
theorem i_SD_job_55 : i_SD_job 55 = some (.ireturn, 1) := rfl
abbrev w_SD_job : List Jvm.Cond := Jvm.Cond.code y_SD_job b_SD_job 2 (some .int) :: vw_W
theorem c_SD_job : Jvm.Cond.code y_SD_job b_SD_job 2 (some .int) ∈ vw_W := vw_t 643 (by decide +kernel) (by decide +kernel)
abbrev r_SD_job : Room := { frames := 6, cells := 0, slots := 0, locals := 100 }
abbrev b_SD_takeIn : ByteArray := prog_1_method_16_code
abbrev y_SD_takeIn : MethodName := ⟨"ServerDesk", "takeIn", "(IZ)I"⟩
def q_SD_takeIn : List (Nat × Instr × Nat) := [(0, .aload_n 0, 1), (1, .getfield 26, 3), (4, .aload_n 0, 1), (5, .getfield 72, 3), (8, .iload_n 1, 1), (9, .iload_n 2, 1), (10, .invokevirtual 250, 3), (13, .istore_n 3, 1), (14, .aload_n 0, 1), (15, .getfield 51, 3), (18, .getfield 156, 3), (21, .aload_n 0, 1), (22, .getfield 72, 3), (25, .invokevirtual 253, 3), (28, .iload_n 3, 1), (29, .ireturn, 1)]
def i_SD_takeIn : Nat → Option (Instr × Nat) := am_find q_SD_takeIn
theorem d_SD_takeIn_0 : decode b_SD_takeIn 0 = .ok (.aload_n 0, 1) := by decide +kernel
theorem d_SD_takeIn_1 : decode b_SD_takeIn 1 = .ok (.getfield 26, 3) := by decide +kernel
theorem d_SD_takeIn_4 : decode b_SD_takeIn 4 = .ok (.aload_n 0, 1) := by decide +kernel
theorem d_SD_takeIn_5 : decode b_SD_takeIn 5 = .ok (.getfield 72, 3) := by decide +kernel
theorem d_SD_takeIn_8 : decode b_SD_takeIn 8 = .ok (.iload_n 1, 1) := by decide +kernel
theorem d_SD_takeIn_9 : decode b_SD_takeIn 9 = .ok (.iload_n 2, 1) := by decide +kernel
theorem d_SD_takeIn_10 : decode b_SD_takeIn 10 = .ok (.invokevirtual 250, 3) := by decide +kernel
theorem d_SD_takeIn_13 : decode b_SD_takeIn 13 = .ok (.istore_n 3, 1) := by decide +kernel
theorem d_SD_takeIn_14 : decode b_SD_takeIn 14 = .ok (.aload_n 0, 1) := by decide +kernel
theorem d_SD_takeIn_15 : decode b_SD_takeIn 15 = .ok (.getfield 51, 3) := by decide +kernel
theorem d_SD_takeIn_18 : decode b_SD_takeIn 18 = .ok (.getfield 156, 3) := by decide +kernel
theorem d_SD_takeIn_21 : decode b_SD_takeIn 21 = .ok (.aload_n 0, 1) := by decide +kernel
theorem d_SD_takeIn_22 : decode b_SD_takeIn 22 = .ok (.getfield 72, 3) := by decide +kernel
theorem d_SD_takeIn_25 : decode b_SD_takeIn 25 = .ok (.invokevirtual 253, 3) := by decide +kernel
theorem d_SD_takeIn_28 : decode b_SD_takeIn 28 = .ok (.iload_n 3, 1) := by decide +kernel
theorem d_SD_takeIn_29 : decode b_SD_takeIn 29 = .ok (.ireturn, 1) := by decide +kernel
theorem d_SD_takeIn : ∀ z ∈ q_SD_takeIn, decode b_SD_takeIn z.1 = .ok z.2 := List.forall_mem_cons.mpr ⟨d_SD_takeIn_0, List.forall_mem_cons.mpr ⟨d_SD_takeIn_1, List.forall_mem_cons.mpr ⟨d_SD_takeIn_4, List.forall_mem_cons.mpr ⟨d_SD_takeIn_5, List.forall_mem_cons.mpr ⟨d_SD_takeIn_8, List.forall_mem_cons.mpr ⟨d_SD_takeIn_9, List.forall_mem_cons.mpr ⟨d_SD_takeIn_10, List.forall_mem_cons.mpr ⟨d_SD_takeIn_13, List.forall_mem_cons.mpr ⟨d_SD_takeIn_14, List.forall_mem_cons.mpr ⟨d_SD_takeIn_15, List.forall_mem_cons.mpr ⟨d_SD_takeIn_18, List.forall_mem_cons.mpr ⟨d_SD_takeIn_21, List.forall_mem_cons.mpr ⟨d_SD_takeIn_22, List.forall_mem_cons.mpr ⟨d_SD_takeIn_25, List.forall_mem_cons.mpr ⟨d_SD_takeIn_28, List.forall_mem_cons.mpr ⟨d_SD_takeIn_29, fun _ h => absurd h List.not_mem_nil⟩⟩⟩⟩⟩⟩⟩⟩⟩⟩⟩⟩⟩⟩⟩⟩
theorem i_SD_takeIn_ok : ∀ pc i n, i_SD_takeIn pc = some (i, n) → decode b_SD_takeIn pc = .ok (i, n) := fun pc i n h => d_SD_takeIn (pc, i, n) (am_find_mem h)
theorem i_SD_takeIn_0 : i_SD_takeIn 0 = some (.aload_n 0, 1) := rfl
theorem i_SD_takeIn_1 : i_SD_takeIn 1 = some (.getfield 26, 3) := rfl
theorem i_SD_takeIn_4 : i_SD_takeIn 4 = some (.aload_n 0, 1) := rfl
theorem i_SD_takeIn_5 : i_SD_takeIn 5 = some (.getfield 72, 3) := rfl
theorem i_SD_takeIn_8 : i_SD_takeIn 8 = some (.iload_n 1, 1) := rfl
theorem i_SD_takeIn_9 : i_SD_takeIn 9 = some (.iload_n 2, 1) := rfl
theorem i_SD_takeIn_10 : i_SD_takeIn 10 = some (.invokevirtual 250, 3) := rfl
theorem i_SD_takeIn_13 : i_SD_takeIn 13 = some (.istore_n 3, 1) := rfl
theorem i_SD_takeIn_14 : i_SD_takeIn 14 = some (.aload_n 0, 1) := rfl
theorem i_SD_takeIn_15 : i_SD_takeIn 15 = some (.getfield 51, 3) := rfl
theorem i_SD_takeIn_18 : i_SD_takeIn 18 = some (.getfield 156, 3) := rfl
theorem i_SD_takeIn_21 : i_SD_takeIn 21 = some (.aload_n 0, 1) := rfl
theorem i_SD_takeIn_22 : i_SD_takeIn 22 = some (.getfield 72, 3) := rfl
theorem i_SD_takeIn_25 : i_SD_takeIn 25 = some (.invokevirtual 253, 3) := rfl
theorem i_SD_takeIn_28 : i_SD_takeIn 28 = some (.iload_n 3, 1) := rfl
theorem i_SD_takeIn_29 : i_SD_takeIn 29 = some (.ireturn, 1) := rfl
abbrev w_SD_takeIn : List Jvm.Cond := Jvm.Cond.code y_SD_takeIn b_SD_takeIn 4 (some .int) :: vw_W
theorem c_SD_takeIn : Jvm.Cond.code y_SD_takeIn b_SD_takeIn 4 (some .int) ∈ vw_W := vw_t 649 (by decide +kernel) (by decide +kernel)
abbrev r_SD_takeIn : Room := { frames := 1, cells := 0, slots := 0, locals := 24 }
abbrev b_JL_add : ByteArray := prog_5_method_2_code
abbrev y_JL_add : MethodName := ⟨"ServerDesk$JobLog", "add", "(IIZ)I"⟩
def q_JL_add : List (Nat × Instr × Nat) := [(0, .aload_n 0, 1), (1, .getfield 22, 3), (4, .istore 4, 2), (6, .iload 4, 2), (8, .bipush 40, 2), (10, .if_icmp .lt 5, 3), (13, .iconst (-1), 1), (14, .ireturn, 1), (15, .aload_n 0, 1), (16, .getfield 9, 3), (19, .iload 4, 2), (21, .iload_n 1, 1), (22, .iastore, 1), (23, .aload_n 0, 1), (24, .getfield 15, 3), (27, .iload 4, 2), (29, .iload_n 2, 1), (30, .iastore, 1), (31, .aload_n 0, 1), (32, .getfield 18, 3), (35, .iload 4, 2), (37, .iload_n 3, 1), (38, .bastore, 1), (39, .aload_n 0, 1), (40, .dup, 1), (41, .getfield 22, 3), (44, .iconst 1, 1), (45, .iadd, 1), (46, .putfield 22, 3), (49, .iload 4, 2), (51, .ireturn, 1)]
def i_JL_add : Nat → Option (Instr × Nat) := am_find q_JL_add
theorem d_JL_add_0 : decode b_JL_add 0 = .ok (.aload_n 0, 1) := by decide +kernel
theorem d_JL_add_1 : decode b_JL_add 1 = .ok (.getfield 22, 3) := by decide +kernel
theorem d_JL_add_4 : decode b_JL_add 4 = .ok (.istore 4, 2) := by decide +kernel
theorem d_JL_add_6 : decode b_JL_add 6 = .ok (.iload 4, 2) := by decide +kernel
theorem d_JL_add_8 : decode b_JL_add 8 = .ok (.bipush 40, 2) := by decide +kernel
theorem d_JL_add_10 : decode b_JL_add 10 = .ok (.if_icmp .lt 5, 3) := by decide +kernel
theorem d_JL_add_13 : decode b_JL_add 13 = .ok (.iconst (-1), 1) := by decide +kernel
theorem d_JL_add_14 : decode b_JL_add 14 = .ok (.ireturn, 1) := by decide +kernel
theorem d_JL_add_15 : decode b_JL_add 15 = .ok (.aload_n 0, 1) := by decide +kernel
theorem d_JL_add_16 : decode b_JL_add 16 = .ok (.getfield 9, 3) := by decide +kernel
theorem d_JL_add_19 : decode b_JL_add 19 = .ok (.iload 4, 2) := by decide +kernel
theorem d_JL_add_21 : decode b_JL_add 21 = .ok (.iload_n 1, 1) := by decide +kernel
theorem d_JL_add_22 : decode b_JL_add 22 = .ok (.iastore, 1) := by decide +kernel
theorem d_JL_add_23 : decode b_JL_add 23 = .ok (.aload_n 0, 1) := by decide +kernel
theorem d_JL_add_24 : decode b_JL_add 24 = .ok (.getfield 15, 3) := by decide +kernel
theorem d_JL_add_27 : decode b_JL_add 27 = .ok (.iload 4, 2) := by decide +kernel
theorem d_JL_add_29 : decode b_JL_add 29 = .ok (.iload_n 2, 1) := by decide +kernel
theorem d_JL_add_30 : decode b_JL_add 30 = .ok (.iastore, 1) := by decide +kernel
theorem d_JL_add_31 : decode b_JL_add 31 = .ok (.aload_n 0, 1) := by decide +kernel
theorem d_JL_add_32 : decode b_JL_add 32 = .ok (.getfield 18, 3) := by decide +kernel
theorem d_JL_add_35 : decode b_JL_add 35 = .ok (.iload 4, 2) := by decide +kernel
theorem d_JL_add_37 : decode b_JL_add 37 = .ok (.iload_n 3, 1) := by decide +kernel
theorem d_JL_add_38 : decode b_JL_add 38 = .ok (.bastore, 1) := by decide +kernel
theorem d_JL_add_39 : decode b_JL_add 39 = .ok (.aload_n 0, 1) := by decide +kernel
theorem d_JL_add_40 : decode b_JL_add 40 = .ok (.dup, 1) := by decide +kernel
theorem d_JL_add_41 : decode b_JL_add 41 = .ok (.getfield 22, 3) := by decide +kernel
theorem d_JL_add_44 : decode b_JL_add 44 = .ok (.iconst 1, 1) := by decide +kernel
theorem d_JL_add_45 : decode b_JL_add 45 = .ok (.iadd, 1) := by decide +kernel
theorem d_JL_add_46 : decode b_JL_add 46 = .ok (.putfield 22, 3) := by decide +kernel
theorem d_JL_add_49 : decode b_JL_add 49 = .ok (.iload 4, 2) := by decide +kernel
theorem d_JL_add_51 : decode b_JL_add 51 = .ok (.ireturn, 1) := by decide +kernel
theorem d_JL_add : ∀ z ∈ q_JL_add, decode b_JL_add z.1 = .ok z.2 := List.forall_mem_cons.mpr ⟨d_JL_add_0, List.forall_mem_cons.mpr ⟨d_JL_add_1, List.forall_mem_cons.mpr ⟨d_JL_add_4, List.forall_mem_cons.mpr ⟨d_JL_add_6, List.forall_mem_cons.mpr ⟨d_JL_add_8, List.forall_mem_cons.mpr ⟨d_JL_add_10, List.forall_mem_cons.mpr ⟨d_JL_add_13, List.forall_mem_cons.mpr ⟨d_JL_add_14, List.forall_mem_cons.mpr ⟨d_JL_add_15, List.forall_mem_cons.mpr ⟨d_JL_add_16, List.forall_mem_cons.mpr ⟨d_JL_add_19, List.forall_mem_cons.mpr ⟨d_JL_add_21, List.forall_mem_cons.mpr ⟨d_JL_add_22, List.forall_mem_cons.mpr ⟨d_JL_add_23, List.forall_mem_cons.mpr ⟨d_JL_add_24, List.forall_mem_cons.mpr ⟨d_JL_add_27, List.forall_mem_cons.mpr ⟨d_JL_add_29, List.forall_mem_cons.mpr ⟨d_JL_add_30, List.forall_mem_cons.mpr ⟨d_JL_add_31, List.forall_mem_cons.mpr ⟨d_JL_add_32, List.forall_mem_cons.mpr ⟨d_JL_add_35, List.forall_mem_cons.mpr ⟨d_JL_add_37, List.forall_mem_cons.mpr ⟨d_JL_add_38, List.forall_mem_cons.mpr ⟨d_JL_add_39, List.forall_mem_cons.mpr ⟨d_JL_add_40, List.forall_mem_cons.mpr ⟨d_JL_add_41, List.forall_mem_cons.mpr ⟨d_JL_add_44, List.forall_mem_cons.mpr ⟨d_JL_add_45, List.forall_mem_cons.mpr ⟨d_JL_add_46, List.forall_mem_cons.mpr ⟨d_JL_add_49, List.forall_mem_cons.mpr ⟨d_JL_add_51, fun _ h => absurd h List.not_mem_nil⟩⟩⟩⟩⟩⟩⟩⟩⟩⟩⟩⟩⟩⟩⟩⟩⟩⟩⟩⟩⟩⟩⟩⟩⟩⟩⟩⟩⟩⟩⟩
theorem i_JL_add_ok : ∀ pc i n, i_JL_add pc = some (i, n) → decode b_JL_add pc = .ok (i, n) := fun pc i n h => d_JL_add (pc, i, n) (am_find_mem h)
theorem i_JL_add_0 : i_JL_add 0 = some (.aload_n 0, 1) := rfl
theorem i_JL_add_1 : i_JL_add 1 = some (.getfield 22, 3) := rfl
theorem i_JL_add_4 : i_JL_add 4 = some (.istore 4, 2) := rfl
theorem i_JL_add_6 : i_JL_add 6 = some (.iload 4, 2) := rfl
theorem i_JL_add_8 : i_JL_add 8 = some (.bipush 40, 2) := rfl
theorem i_JL_add_10 : i_JL_add 10 = some (.if_icmp .lt 5, 3) := rfl
theorem i_JL_add_13 : i_JL_add 13 = some (.iconst (-1), 1) := rfl
theorem i_JL_add_14 : i_JL_add 14 = some (.ireturn, 1) := rfl
theorem i_JL_add_15 : i_JL_add 15 = some (.aload_n 0, 1) := rfl
theorem i_JL_add_16 : i_JL_add 16 = some (.getfield 9, 3) := rfl
theorem i_JL_add_19 : i_JL_add 19 = some (.iload 4, 2) := rfl
theorem i_JL_add_21 : i_JL_add 21 = some (.iload_n 1, 1) := rfl
theorem i_JL_add_22 : i_JL_add 22 = some (.iastore, 1) := rfl
theorem i_JL_add_23 : i_JL_add 23 = some (.aload_n 0, 1) := rfl
theorem i_JL_add_24 : i_JL_add 24 = some (.getfield 15, 3) := rfl
theorem i_JL_add_27 : i_JL_add 27 = some (.iload 4, 2) := rfl
theorem i_JL_add_29 : i_JL_add 29 = some (.iload_n 2, 1) := rfl
theorem i_JL_add_30 : i_JL_add 30 = some (.iastore, 1) := rfl
theorem i_JL_add_31 : i_JL_add 31 = some (.aload_n 0, 1) := rfl
theorem i_JL_add_32 : i_JL_add 32 = some (.getfield 18, 3) := rfl
theorem i_JL_add_35 : i_JL_add 35 = some (.iload 4, 2) := rfl
theorem i_JL_add_37 : i_JL_add 37 = some (.iload_n 3, 1) := rfl
theorem i_JL_add_38 : i_JL_add 38 = some (.bastore, 1) := rfl
theorem i_JL_add_39 : i_JL_add 39 = some (.aload_n 0, 1) := rfl
theorem i_JL_add_40 : i_JL_add 40 = some (.dup, 1) := rfl
theorem i_JL_add_41 : i_JL_add 41 = some (.getfield 22, 3) := rfl
theorem i_JL_add_44 : i_JL_add 44 = some (.iconst 1, 1) := rfl
theorem i_JL_add_45 : i_JL_add 45 = some (.iadd, 1) := rfl
theorem i_JL_add_46 : i_JL_add 46 = some (.putfield 22, 3) := rfl
theorem i_JL_add_49 : i_JL_add 49 = some (.iload 4, 2) := rfl
theorem i_JL_add_51 : i_JL_add 51 = some (.ireturn, 1) := rfl
abbrev w_JL_add : List Jvm.Cond := Jvm.Cond.code y_JL_add b_JL_add 5 (some .int) :: vw_W
theorem c_JL_add : Jvm.Cond.code y_JL_add b_JL_add 5 (some .int) ∈ vw_W := vw_t 653 (by decide +kernel) (by decide +kernel)
abbrev r_JL_add : Room := { frames := 0, cells := 0, slots := 0, locals := 0 }
abbrev b_QU_takeUpTo : ByteArray := prog_7_method_3_code
abbrev y_QU_takeUpTo : MethodName := ⟨"ServerDesk$Queue", "takeUpTo", "(I)V"⟩
def q_QU_takeUpTo : List (Nat × Instr × Nat) := [(0, .aload_n 0, 1), (1, .getfield 18, 3), (4, .aload_n 0, 1), (5, .getfield 25, 3), (8, .getfield 29, 3), (11, .if_icmp .ge 73, 3), (14, .aload_n 0, 1), (15, .getfield 25, 3), (18, .getfield 34, 3), (21, .aload_n 0, 1), (22, .getfield 18, 3), (25, .iaload, 1), (26, .iload_n 1, 1), (27, .if_icmp .gt 57, 3), (30, .aload_n 0, 1), (31, .getfield 9, 3), (34, .aload_n 0, 1), (35, .getfield 18, 3), (38, .aload_n 0, 1), (39, .getfield 25, 3), (42, .getfield 37, 3), (45, .aload_n 0, 1), (46, .getfield 18, 3), (49, .iaload, 1), (50, .iastore, 1), (51, .aload_n 0, 1), (52, .getfield 15, 3), (55, .aload_n 0, 1), (56, .getfield 18, 3), (59, .iconst (-1), 1), (60, .iastore, 1), (61, .aload_n 0, 1), (62, .dup, 1), (63, .getfield 18, 3), (66, .iconst 1, 1), (67, .iadd, 1), (68, .putfield 18, 3), (71, .aload_n 0, 1), (72, .dup, 1), (73, .getfield 22, 3), (76, .iconst 1, 1), (77, .iadd, 1), (78, .putfield 22, 3), (81, .goto (-81), 3), (84, .return_, 1)]
def i_QU_takeUpTo : Nat → Option (Instr × Nat) := am_find q_QU_takeUpTo
theorem d_QU_takeUpTo_0 : decode b_QU_takeUpTo 0 = .ok (.aload_n 0, 1) := by decide +kernel
theorem d_QU_takeUpTo_1 : decode b_QU_takeUpTo 1 = .ok (.getfield 18, 3) := by decide +kernel
theorem d_QU_takeUpTo_4 : decode b_QU_takeUpTo 4 = .ok (.aload_n 0, 1) := by decide +kernel
theorem d_QU_takeUpTo_5 : decode b_QU_takeUpTo 5 = .ok (.getfield 25, 3) := by decide +kernel
theorem d_QU_takeUpTo_8 : decode b_QU_takeUpTo 8 = .ok (.getfield 29, 3) := by decide +kernel
theorem d_QU_takeUpTo_11 : decode b_QU_takeUpTo 11 = .ok (.if_icmp .ge 73, 3) := by decide +kernel
theorem d_QU_takeUpTo_14 : decode b_QU_takeUpTo 14 = .ok (.aload_n 0, 1) := by decide +kernel
theorem d_QU_takeUpTo_15 : decode b_QU_takeUpTo 15 = .ok (.getfield 25, 3) := by decide +kernel
theorem d_QU_takeUpTo_18 : decode b_QU_takeUpTo 18 = .ok (.getfield 34, 3) := by decide +kernel
theorem d_QU_takeUpTo_21 : decode b_QU_takeUpTo 21 = .ok (.aload_n 0, 1) := by decide +kernel
theorem d_QU_takeUpTo_22 : decode b_QU_takeUpTo 22 = .ok (.getfield 18, 3) := by decide +kernel
theorem d_QU_takeUpTo_25 : decode b_QU_takeUpTo 25 = .ok (.iaload, 1) := by decide +kernel
theorem d_QU_takeUpTo_26 : decode b_QU_takeUpTo 26 = .ok (.iload_n 1, 1) := by decide +kernel
theorem d_QU_takeUpTo_27 : decode b_QU_takeUpTo 27 = .ok (.if_icmp .gt 57, 3) := by decide +kernel
theorem d_QU_takeUpTo_30 : decode b_QU_takeUpTo 30 = .ok (.aload_n 0, 1) := by decide +kernel
theorem d_QU_takeUpTo_31 : decode b_QU_takeUpTo 31 = .ok (.getfield 9, 3) := by decide +kernel
theorem d_QU_takeUpTo_34 : decode b_QU_takeUpTo 34 = .ok (.aload_n 0, 1) := by decide +kernel
theorem d_QU_takeUpTo_35 : decode b_QU_takeUpTo 35 = .ok (.getfield 18, 3) := by decide +kernel
theorem d_QU_takeUpTo_38 : decode b_QU_takeUpTo 38 = .ok (.aload_n 0, 1) := by decide +kernel
theorem d_QU_takeUpTo_39 : decode b_QU_takeUpTo 39 = .ok (.getfield 25, 3) := by decide +kernel
theorem d_QU_takeUpTo_42 : decode b_QU_takeUpTo 42 = .ok (.getfield 37, 3) := by decide +kernel
theorem d_QU_takeUpTo_45 : decode b_QU_takeUpTo 45 = .ok (.aload_n 0, 1) := by decide +kernel
theorem d_QU_takeUpTo_46 : decode b_QU_takeUpTo 46 = .ok (.getfield 18, 3) := by decide +kernel
theorem d_QU_takeUpTo_49 : decode b_QU_takeUpTo 49 = .ok (.iaload, 1) := by decide +kernel
theorem d_QU_takeUpTo_50 : decode b_QU_takeUpTo 50 = .ok (.iastore, 1) := by decide +kernel
theorem d_QU_takeUpTo_51 : decode b_QU_takeUpTo 51 = .ok (.aload_n 0, 1) := by decide +kernel
theorem d_QU_takeUpTo_52 : decode b_QU_takeUpTo 52 = .ok (.getfield 15, 3) := by decide +kernel
theorem d_QU_takeUpTo_55 : decode b_QU_takeUpTo 55 = .ok (.aload_n 0, 1) := by decide +kernel
theorem d_QU_takeUpTo_56 : decode b_QU_takeUpTo 56 = .ok (.getfield 18, 3) := by decide +kernel
theorem d_QU_takeUpTo_59 : decode b_QU_takeUpTo 59 = .ok (.iconst (-1), 1) := by decide +kernel
theorem d_QU_takeUpTo_60 : decode b_QU_takeUpTo 60 = .ok (.iastore, 1) := by decide +kernel
theorem d_QU_takeUpTo_61 : decode b_QU_takeUpTo 61 = .ok (.aload_n 0, 1) := by decide +kernel
theorem d_QU_takeUpTo_62 : decode b_QU_takeUpTo 62 = .ok (.dup, 1) := by decide +kernel
theorem d_QU_takeUpTo_63 : decode b_QU_takeUpTo 63 = .ok (.getfield 18, 3) := by decide +kernel
theorem d_QU_takeUpTo_66 : decode b_QU_takeUpTo 66 = .ok (.iconst 1, 1) := by decide +kernel
theorem d_QU_takeUpTo_67 : decode b_QU_takeUpTo 67 = .ok (.iadd, 1) := by decide +kernel
theorem d_QU_takeUpTo_68 : decode b_QU_takeUpTo 68 = .ok (.putfield 18, 3) := by decide +kernel
theorem d_QU_takeUpTo_71 : decode b_QU_takeUpTo 71 = .ok (.aload_n 0, 1) := by decide +kernel
theorem d_QU_takeUpTo_72 : decode b_QU_takeUpTo 72 = .ok (.dup, 1) := by decide +kernel
theorem d_QU_takeUpTo_73 : decode b_QU_takeUpTo 73 = .ok (.getfield 22, 3) := by decide +kernel
theorem d_QU_takeUpTo_76 : decode b_QU_takeUpTo 76 = .ok (.iconst 1, 1) := by decide +kernel
theorem d_QU_takeUpTo_77 : decode b_QU_takeUpTo 77 = .ok (.iadd, 1) := by decide +kernel
theorem d_QU_takeUpTo_78 : decode b_QU_takeUpTo 78 = .ok (.putfield 22, 3) := by decide +kernel
theorem d_QU_takeUpTo_81 : decode b_QU_takeUpTo 81 = .ok (.goto (-81), 3) := by decide +kernel
theorem d_QU_takeUpTo_84 : decode b_QU_takeUpTo 84 = .ok (.return_, 1) := by decide +kernel
theorem d_QU_takeUpTo : ∀ z ∈ q_QU_takeUpTo, decode b_QU_takeUpTo z.1 = .ok z.2 := List.forall_mem_cons.mpr ⟨d_QU_takeUpTo_0, List.forall_mem_cons.mpr ⟨d_QU_takeUpTo_1, List.forall_mem_cons.mpr ⟨d_QU_takeUpTo_4, List.forall_mem_cons.mpr ⟨d_QU_takeUpTo_5, List.forall_mem_cons.mpr ⟨d_QU_takeUpTo_8, List.forall_mem_cons.mpr ⟨d_QU_takeUpTo_11, List.forall_mem_cons.mpr ⟨d_QU_takeUpTo_14, List.forall_mem_cons.mpr ⟨d_QU_takeUpTo_15, List.forall_mem_cons.mpr ⟨d_QU_takeUpTo_18, List.forall_mem_cons.mpr ⟨d_QU_takeUpTo_21, List.forall_mem_cons.mpr ⟨d_QU_takeUpTo_22, List.forall_mem_cons.mpr ⟨d_QU_takeUpTo_25, List.forall_mem_cons.mpr ⟨d_QU_takeUpTo_26, List.forall_mem_cons.mpr ⟨d_QU_takeUpTo_27, List.forall_mem_cons.mpr ⟨d_QU_takeUpTo_30, List.forall_mem_cons.mpr ⟨d_QU_takeUpTo_31, List.forall_mem_cons.mpr ⟨d_QU_takeUpTo_34, List.forall_mem_cons.mpr ⟨d_QU_takeUpTo_35, List.forall_mem_cons.mpr ⟨d_QU_takeUpTo_38, List.forall_mem_cons.mpr ⟨d_QU_takeUpTo_39, List.forall_mem_cons.mpr ⟨d_QU_takeUpTo_42, List.forall_mem_cons.mpr ⟨d_QU_takeUpTo_45, List.forall_mem_cons.mpr ⟨d_QU_takeUpTo_46, List.forall_mem_cons.mpr ⟨d_QU_takeUpTo_49, List.forall_mem_cons.mpr ⟨d_QU_takeUpTo_50, List.forall_mem_cons.mpr ⟨d_QU_takeUpTo_51, List.forall_mem_cons.mpr ⟨d_QU_takeUpTo_52, List.forall_mem_cons.mpr ⟨d_QU_takeUpTo_55, List.forall_mem_cons.mpr ⟨d_QU_takeUpTo_56, List.forall_mem_cons.mpr ⟨d_QU_takeUpTo_59, List.forall_mem_cons.mpr ⟨d_QU_takeUpTo_60, List.forall_mem_cons.mpr ⟨d_QU_takeUpTo_61, List.forall_mem_cons.mpr ⟨d_QU_takeUpTo_62, List.forall_mem_cons.mpr ⟨d_QU_takeUpTo_63, List.forall_mem_cons.mpr ⟨d_QU_takeUpTo_66, List.forall_mem_cons.mpr ⟨d_QU_takeUpTo_67, List.forall_mem_cons.mpr ⟨d_QU_takeUpTo_68, List.forall_mem_cons.mpr ⟨d_QU_takeUpTo_71, List.forall_mem_cons.mpr ⟨d_QU_takeUpTo_72, List.forall_mem_cons.mpr ⟨d_QU_takeUpTo_73, List.forall_mem_cons.mpr ⟨d_QU_takeUpTo_76, List.forall_mem_cons.mpr ⟨d_QU_takeUpTo_77, List.forall_mem_cons.mpr ⟨d_QU_takeUpTo_78, List.forall_mem_cons.mpr ⟨d_QU_takeUpTo_81, List.forall_mem_cons.mpr ⟨d_QU_takeUpTo_84, fun _ h => absurd h List.not_mem_nil⟩⟩⟩⟩⟩⟩⟩⟩⟩⟩⟩⟩⟩⟩⟩⟩⟩⟩⟩⟩⟩⟩⟩⟩⟩⟩⟩⟩⟩⟩⟩⟩⟩⟩⟩⟩⟩⟩⟩⟩⟩⟩⟩⟩⟩
theorem i_QU_takeUpTo_ok : ∀ pc i n, i_QU_takeUpTo pc = some (i, n) → decode b_QU_takeUpTo pc = .ok (i, n) := fun pc i n h => d_QU_takeUpTo (pc, i, n) (am_find_mem h)
theorem i_QU_takeUpTo_0 : i_QU_takeUpTo 0 = some (.aload_n 0, 1) := rfl
theorem i_QU_takeUpTo_1 : i_QU_takeUpTo 1 = some (.getfield 18, 3) := rfl
theorem i_QU_takeUpTo_4 : i_QU_takeUpTo 4 = some (.aload_n 0, 1) := rfl
theorem i_QU_takeUpTo_5 : i_QU_takeUpTo 5 = some (.getfield 25, 3) := rfl
theorem i_QU_takeUpTo_8 : i_QU_takeUpTo 8 = some (.getfield 29, 3) := rfl
theorem i_QU_takeUpTo_11 : i_QU_takeUpTo 11 = some (.if_icmp .ge 73, 3) := rfl
theorem i_QU_takeUpTo_14 : i_QU_takeUpTo 14 = some (.aload_n 0, 1) := rfl
theorem i_QU_takeUpTo_15 : i_QU_takeUpTo 15 = some (.getfield 25, 3) := rfl
theorem i_QU_takeUpTo_18 : i_QU_takeUpTo 18 = some (.getfield 34, 3) := rfl
theorem i_QU_takeUpTo_21 : i_QU_takeUpTo 21 = some (.aload_n 0, 1) := rfl
theorem i_QU_takeUpTo_22 : i_QU_takeUpTo 22 = some (.getfield 18, 3) := rfl
theorem i_QU_takeUpTo_25 : i_QU_takeUpTo 25 = some (.iaload, 1) := rfl
theorem i_QU_takeUpTo_26 : i_QU_takeUpTo 26 = some (.iload_n 1, 1) := rfl
theorem i_QU_takeUpTo_27 : i_QU_takeUpTo 27 = some (.if_icmp .gt 57, 3) := rfl
theorem i_QU_takeUpTo_30 : i_QU_takeUpTo 30 = some (.aload_n 0, 1) := rfl
theorem i_QU_takeUpTo_31 : i_QU_takeUpTo 31 = some (.getfield 9, 3) := rfl
theorem i_QU_takeUpTo_34 : i_QU_takeUpTo 34 = some (.aload_n 0, 1) := rfl
theorem i_QU_takeUpTo_35 : i_QU_takeUpTo 35 = some (.getfield 18, 3) := rfl
theorem i_QU_takeUpTo_38 : i_QU_takeUpTo 38 = some (.aload_n 0, 1) := rfl
theorem i_QU_takeUpTo_39 : i_QU_takeUpTo 39 = some (.getfield 25, 3) := rfl
theorem i_QU_takeUpTo_42 : i_QU_takeUpTo 42 = some (.getfield 37, 3) := rfl
theorem i_QU_takeUpTo_45 : i_QU_takeUpTo 45 = some (.aload_n 0, 1) := rfl
theorem i_QU_takeUpTo_46 : i_QU_takeUpTo 46 = some (.getfield 18, 3) := rfl
theorem i_QU_takeUpTo_49 : i_QU_takeUpTo 49 = some (.iaload, 1) := rfl
theorem i_QU_takeUpTo_50 : i_QU_takeUpTo 50 = some (.iastore, 1) := rfl
theorem i_QU_takeUpTo_51 : i_QU_takeUpTo 51 = some (.aload_n 0, 1) := rfl
theorem i_QU_takeUpTo_52 : i_QU_takeUpTo 52 = some (.getfield 15, 3) := rfl
theorem i_QU_takeUpTo_55 : i_QU_takeUpTo 55 = some (.aload_n 0, 1) := rfl
theorem i_QU_takeUpTo_56 : i_QU_takeUpTo 56 = some (.getfield 18, 3) := rfl
theorem i_QU_takeUpTo_59 : i_QU_takeUpTo 59 = some (.iconst (-1), 1) := rfl
theorem i_QU_takeUpTo_60 : i_QU_takeUpTo 60 = some (.iastore, 1) := rfl
theorem i_QU_takeUpTo_61 : i_QU_takeUpTo 61 = some (.aload_n 0, 1) := rfl
theorem i_QU_takeUpTo_62 : i_QU_takeUpTo 62 = some (.dup, 1) := rfl
theorem i_QU_takeUpTo_63 : i_QU_takeUpTo 63 = some (.getfield 18, 3) := rfl
theorem i_QU_takeUpTo_66 : i_QU_takeUpTo 66 = some (.iconst 1, 1) := rfl
theorem i_QU_takeUpTo_67 : i_QU_takeUpTo 67 = some (.iadd, 1) := rfl
theorem i_QU_takeUpTo_68 : i_QU_takeUpTo 68 = some (.putfield 18, 3) := rfl
theorem i_QU_takeUpTo_71 : i_QU_takeUpTo 71 = some (.aload_n 0, 1) := rfl
theorem i_QU_takeUpTo_72 : i_QU_takeUpTo 72 = some (.dup, 1) := rfl
theorem i_QU_takeUpTo_73 : i_QU_takeUpTo 73 = some (.getfield 22, 3) := rfl
theorem i_QU_takeUpTo_76 : i_QU_takeUpTo 76 = some (.iconst 1, 1) := rfl
theorem i_QU_takeUpTo_77 : i_QU_takeUpTo 77 = some (.iadd, 1) := rfl
theorem i_QU_takeUpTo_78 : i_QU_takeUpTo 78 = some (.putfield 22, 3) := rfl
theorem i_QU_takeUpTo_81 : i_QU_takeUpTo 81 = some (.goto (-81), 3) := rfl
theorem i_QU_takeUpTo_84 : i_QU_takeUpTo 84 = some (.return_, 1) := rfl
abbrev w_QU_takeUpTo : List Jvm.Cond := Jvm.Cond.code y_QU_takeUpTo b_QU_takeUpTo 2 none :: vw_W
theorem c_QU_takeUpTo : Jvm.Cond.code y_QU_takeUpTo b_QU_takeUpTo 2 none ∈ vw_W := vw_t 657 (by decide +kernel) (by decide +kernel)
abbrev r_QU_takeUpTo : Room := { frames := 0, cells := 0, slots := 0, locals := 0 }
abbrev b_LW_hard : ByteArray := method_8_code
abbrev y_LW_hard : MethodName := ⟨"ServerDeskLaw", "hard", "(LServerDesk;II[J)I"⟩
def q_LW_hard : List (Nat × Instr × Nat) := [(0, .aload_n 3, 1), (1, .iconst 0, 1), (2, .aload_n 0, 1), (3, .iload_n 1, 1), (4, .iload_n 2, 1), (5, .invokevirtual 33, 3), (8, .i2l, 1), (9, .lastore, 1), (10, .goto 11, 3), (13, .astore 4, 2), (15, .iconst 1, 1), (16, .ireturn, 1), (17, .astore 4, 2), (19, .iconst 2, 1), (20, .ireturn, 1), (21, .iconst 0, 1), (22, .ireturn, 1)]
def i_LW_hard : Nat → Option (Instr × Nat) := am_find q_LW_hard
theorem d_LW_hard_0 : decode b_LW_hard 0 = .ok (.aload_n 3, 1) := by decide +kernel
theorem d_LW_hard_1 : decode b_LW_hard 1 = .ok (.iconst 0, 1) := by decide +kernel
theorem d_LW_hard_2 : decode b_LW_hard 2 = .ok (.aload_n 0, 1) := by decide +kernel
theorem d_LW_hard_3 : decode b_LW_hard 3 = .ok (.iload_n 1, 1) := by decide +kernel
theorem d_LW_hard_4 : decode b_LW_hard 4 = .ok (.iload_n 2, 1) := by decide +kernel
theorem d_LW_hard_5 : decode b_LW_hard 5 = .ok (.invokevirtual 33, 3) := by decide +kernel
theorem d_LW_hard_8 : decode b_LW_hard 8 = .ok (.i2l, 1) := by decide +kernel
theorem d_LW_hard_9 : decode b_LW_hard 9 = .ok (.lastore, 1) := by decide +kernel
theorem d_LW_hard_10 : decode b_LW_hard 10 = .ok (.goto 11, 3) := by decide +kernel
theorem d_LW_hard_13 : decode b_LW_hard 13 = .ok (.astore 4, 2) := by decide +kernel
theorem d_LW_hard_15 : decode b_LW_hard 15 = .ok (.iconst 1, 1) := by decide +kernel
theorem d_LW_hard_16 : decode b_LW_hard 16 = .ok (.ireturn, 1) := by decide +kernel
theorem d_LW_hard_17 : decode b_LW_hard 17 = .ok (.astore 4, 2) := by decide +kernel
theorem d_LW_hard_19 : decode b_LW_hard 19 = .ok (.iconst 2, 1) := by decide +kernel
theorem d_LW_hard_20 : decode b_LW_hard 20 = .ok (.ireturn, 1) := by decide +kernel
theorem d_LW_hard_21 : decode b_LW_hard 21 = .ok (.iconst 0, 1) := by decide +kernel
theorem d_LW_hard_22 : decode b_LW_hard 22 = .ok (.ireturn, 1) := by decide +kernel
theorem d_LW_hard : ∀ z ∈ q_LW_hard, decode b_LW_hard z.1 = .ok z.2 := List.forall_mem_cons.mpr ⟨d_LW_hard_0, List.forall_mem_cons.mpr ⟨d_LW_hard_1, List.forall_mem_cons.mpr ⟨d_LW_hard_2, List.forall_mem_cons.mpr ⟨d_LW_hard_3, List.forall_mem_cons.mpr ⟨d_LW_hard_4, List.forall_mem_cons.mpr ⟨d_LW_hard_5, List.forall_mem_cons.mpr ⟨d_LW_hard_8, List.forall_mem_cons.mpr ⟨d_LW_hard_9, List.forall_mem_cons.mpr ⟨d_LW_hard_10, List.forall_mem_cons.mpr ⟨d_LW_hard_13, List.forall_mem_cons.mpr ⟨d_LW_hard_15, List.forall_mem_cons.mpr ⟨d_LW_hard_16, List.forall_mem_cons.mpr ⟨d_LW_hard_17, List.forall_mem_cons.mpr ⟨d_LW_hard_19, List.forall_mem_cons.mpr ⟨d_LW_hard_20, List.forall_mem_cons.mpr ⟨d_LW_hard_21, List.forall_mem_cons.mpr ⟨d_LW_hard_22, fun _ h => absurd h List.not_mem_nil⟩⟩⟩⟩⟩⟩⟩⟩⟩⟩⟩⟩⟩⟩⟩⟩⟩
theorem i_LW_hard_ok : ∀ pc i n, i_LW_hard pc = some (i, n) → decode b_LW_hard pc = .ok (i, n) := fun pc i n h => d_LW_hard (pc, i, n) (am_find_mem h)
theorem i_LW_hard_0 : i_LW_hard 0 = some (.aload_n 3, 1) := rfl
theorem i_LW_hard_1 : i_LW_hard 1 = some (.iconst 0, 1) := rfl
theorem i_LW_hard_2 : i_LW_hard 2 = some (.aload_n 0, 1) := rfl
theorem i_LW_hard_3 : i_LW_hard 3 = some (.iload_n 1, 1) := rfl
theorem i_LW_hard_4 : i_LW_hard 4 = some (.iload_n 2, 1) := rfl
theorem i_LW_hard_5 : i_LW_hard 5 = some (.invokevirtual 33, 3) := rfl
theorem i_LW_hard_8 : i_LW_hard 8 = some (.i2l, 1) := rfl
theorem i_LW_hard_9 : i_LW_hard 9 = some (.lastore, 1) := rfl
theorem i_LW_hard_10 : i_LW_hard 10 = some (.goto 11, 3) := rfl
theorem i_LW_hard_13 : i_LW_hard 13 = some (.astore 4, 2) := rfl
theorem i_LW_hard_15 : i_LW_hard 15 = some (.iconst 1, 1) := rfl
theorem i_LW_hard_16 : i_LW_hard 16 = some (.ireturn, 1) := rfl
theorem i_LW_hard_17 : i_LW_hard 17 = some (.astore 4, 2) := rfl
theorem i_LW_hard_19 : i_LW_hard 19 = some (.iconst 2, 1) := rfl
theorem i_LW_hard_20 : i_LW_hard 20 = some (.ireturn, 1) := rfl
theorem i_LW_hard_21 : i_LW_hard 21 = some (.iconst 0, 1) := rfl
theorem i_LW_hard_22 : i_LW_hard 22 = some (.ireturn, 1) := rfl
abbrev b_SD_hard : ByteArray := prog_1_method_7_code
abbrev y_SD_hard : MethodName := ⟨"ServerDesk", "hard", "(II)I"⟩
def q_SD_hard : List (Nat × Instr × Nat) := [(0, .iload_n 1, 1), (1, .iconst 1, 1), (2, .bipush 30, 2), (4, .invokestatic 76, 3), (7, .ifCond .eq 14, 3), (10, .iload_n 2, 1), (11, .iconst 1, 1), (12, .sipush 200, 3), (15, .invokestatic 76, 3), (18, .ifCond .ne 13, 3), (21, .new 80, 3), (24, .dup, 1), (25, .ldc 152, 2), (27, .invokespecial 84, 3), (30, .athrow, 1), (31, .aload_n 0, 1), (32, .getfield 68, 3), (35, .ifCond .eq 26, 3), (38, .aload_n 0, 1), (39, .getfield 26, 3), (42, .getfield 145, 3), (45, .bipush 40, 2), (47, .if_icmp .ge 14, 3), (50, .aload_n 0, 1), (51, .getfield 19, 3), (54, .getfield 127, 3), (57, .iconst 3, 1), (58, .if_icmp .eq 13, 3), (61, .new 90, 3), (64, .dup, 1), (65, .ldc 154, 2), (67, .invokespecial 94, 3), (70, .athrow, 1), (71, .iload_n 1, 1), (72, .aload_n 0, 1), (73, .getfield 51, 3), (76, .getfield 156, 3), (79, .invokevirtual 160, 3), (82, .iadd, 1), (83, .istore_n 3, 1), (84, .aload_n 0, 1), (85, .getfield 60, 3), (88, .aload_n 0, 1), (89, .getfield 51, 3), (92, .getfield 166, 3), (95, .aload_n 0, 1), (96, .getfield 72, 3), (99, .iload_n 2, 1), (100, .invokevirtual 170, 3), (103, .iload_n 3, 1), (104, .if_icmp .ge 5, 3), (107, .iconst (-1), 1), (108, .ireturn, 1), (109, .aload_n 0, 1), (110, .iload_n 1, 1), (111, .iconst 1, 1), (112, .invokevirtual 148, 3), (115, .ireturn, 1)]
def i_SD_hard : Nat → Option (Instr × Nat) := am_find q_SD_hard
theorem d_SD_hard_0 : decode b_SD_hard 0 = .ok (.iload_n 1, 1) := by decide +kernel
theorem d_SD_hard_1 : decode b_SD_hard 1 = .ok (.iconst 1, 1) := by decide +kernel
theorem d_SD_hard_2 : decode b_SD_hard 2 = .ok (.bipush 30, 2) := by decide +kernel
theorem d_SD_hard_4 : decode b_SD_hard 4 = .ok (.invokestatic 76, 3) := by decide +kernel
theorem d_SD_hard_7 : decode b_SD_hard 7 = .ok (.ifCond .eq 14, 3) := by decide +kernel
theorem d_SD_hard_10 : decode b_SD_hard 10 = .ok (.iload_n 2, 1) := by decide +kernel
theorem d_SD_hard_11 : decode b_SD_hard 11 = .ok (.iconst 1, 1) := by decide +kernel
theorem d_SD_hard_12 : decode b_SD_hard 12 = .ok (.sipush 200, 3) := by decide +kernel
theorem d_SD_hard_15 : decode b_SD_hard 15 = .ok (.invokestatic 76, 3) := by decide +kernel
theorem d_SD_hard_18 : decode b_SD_hard 18 = .ok (.ifCond .ne 13, 3) := by decide +kernel
theorem d_SD_hard_21 : decode b_SD_hard 21 = .ok (.new 80, 3) := by decide +kernel
theorem d_SD_hard_24 : decode b_SD_hard 24 = .ok (.dup, 1) := by decide +kernel
theorem d_SD_hard_25 : decode b_SD_hard 25 = .ok (.ldc 152, 2) := by decide +kernel
theorem d_SD_hard_27 : decode b_SD_hard 27 = .ok (.invokespecial 84, 3) := by decide +kernel
theorem d_SD_hard_30 : decode b_SD_hard 30 = .ok (.athrow, 1) := by decide +kernel
theorem d_SD_hard_31 : decode b_SD_hard 31 = .ok (.aload_n 0, 1) := by decide +kernel
theorem d_SD_hard_32 : decode b_SD_hard 32 = .ok (.getfield 68, 3) := by decide +kernel
theorem d_SD_hard_35 : decode b_SD_hard 35 = .ok (.ifCond .eq 26, 3) := by decide +kernel
theorem d_SD_hard_38 : decode b_SD_hard 38 = .ok (.aload_n 0, 1) := by decide +kernel
theorem d_SD_hard_39 : decode b_SD_hard 39 = .ok (.getfield 26, 3) := by decide +kernel
theorem d_SD_hard_42 : decode b_SD_hard 42 = .ok (.getfield 145, 3) := by decide +kernel
theorem d_SD_hard_45 : decode b_SD_hard 45 = .ok (.bipush 40, 2) := by decide +kernel
theorem d_SD_hard_47 : decode b_SD_hard 47 = .ok (.if_icmp .ge 14, 3) := by decide +kernel
theorem d_SD_hard_50 : decode b_SD_hard 50 = .ok (.aload_n 0, 1) := by decide +kernel
theorem d_SD_hard_51 : decode b_SD_hard 51 = .ok (.getfield 19, 3) := by decide +kernel
theorem d_SD_hard_54 : decode b_SD_hard 54 = .ok (.getfield 127, 3) := by decide +kernel
theorem d_SD_hard_57 : decode b_SD_hard 57 = .ok (.iconst 3, 1) := by decide +kernel
theorem d_SD_hard_58 : decode b_SD_hard 58 = .ok (.if_icmp .eq 13, 3) := by decide +kernel
theorem d_SD_hard_61 : decode b_SD_hard 61 = .ok (.new 90, 3) := by decide +kernel
theorem d_SD_hard_64 : decode b_SD_hard 64 = .ok (.dup, 1) := by decide +kernel
theorem d_SD_hard_65 : decode b_SD_hard 65 = .ok (.ldc 154, 2) := by decide +kernel
theorem d_SD_hard_67 : decode b_SD_hard 67 = .ok (.invokespecial 94, 3) := by decide +kernel
theorem d_SD_hard_70 : decode b_SD_hard 70 = .ok (.athrow, 1) := by decide +kernel
theorem d_SD_hard_71 : decode b_SD_hard 71 = .ok (.iload_n 1, 1) := by decide +kernel
theorem d_SD_hard_72 : decode b_SD_hard 72 = .ok (.aload_n 0, 1) := by decide +kernel
theorem d_SD_hard_73 : decode b_SD_hard 73 = .ok (.getfield 51, 3) := by decide +kernel
theorem d_SD_hard_76 : decode b_SD_hard 76 = .ok (.getfield 156, 3) := by decide +kernel
theorem d_SD_hard_79 : decode b_SD_hard 79 = .ok (.invokevirtual 160, 3) := by decide +kernel
theorem d_SD_hard_82 : decode b_SD_hard 82 = .ok (.iadd, 1) := by decide +kernel
theorem d_SD_hard_83 : decode b_SD_hard 83 = .ok (.istore_n 3, 1) := by decide +kernel
theorem d_SD_hard_84 : decode b_SD_hard 84 = .ok (.aload_n 0, 1) := by decide +kernel
theorem d_SD_hard_85 : decode b_SD_hard 85 = .ok (.getfield 60, 3) := by decide +kernel
theorem d_SD_hard_88 : decode b_SD_hard 88 = .ok (.aload_n 0, 1) := by decide +kernel
theorem d_SD_hard_89 : decode b_SD_hard 89 = .ok (.getfield 51, 3) := by decide +kernel
theorem d_SD_hard_92 : decode b_SD_hard 92 = .ok (.getfield 166, 3) := by decide +kernel
theorem d_SD_hard_95 : decode b_SD_hard 95 = .ok (.aload_n 0, 1) := by decide +kernel
theorem d_SD_hard_96 : decode b_SD_hard 96 = .ok (.getfield 72, 3) := by decide +kernel
theorem d_SD_hard_99 : decode b_SD_hard 99 = .ok (.iload_n 2, 1) := by decide +kernel
theorem d_SD_hard_100 : decode b_SD_hard 100 = .ok (.invokevirtual 170, 3) := by decide +kernel
theorem d_SD_hard_103 : decode b_SD_hard 103 = .ok (.iload_n 3, 1) := by decide +kernel
theorem d_SD_hard_104 : decode b_SD_hard 104 = .ok (.if_icmp .ge 5, 3) := by decide +kernel
theorem d_SD_hard_107 : decode b_SD_hard 107 = .ok (.iconst (-1), 1) := by decide +kernel
theorem d_SD_hard_108 : decode b_SD_hard 108 = .ok (.ireturn, 1) := by decide +kernel
theorem d_SD_hard_109 : decode b_SD_hard 109 = .ok (.aload_n 0, 1) := by decide +kernel
theorem d_SD_hard_110 : decode b_SD_hard 110 = .ok (.iload_n 1, 1) := by decide +kernel
theorem d_SD_hard_111 : decode b_SD_hard 111 = .ok (.iconst 1, 1) := by decide +kernel
theorem d_SD_hard_112 : decode b_SD_hard 112 = .ok (.invokevirtual 148, 3) := by decide +kernel
theorem d_SD_hard_115 : decode b_SD_hard 115 = .ok (.ireturn, 1) := by decide +kernel
theorem d_SD_hard : ∀ z ∈ q_SD_hard, decode b_SD_hard z.1 = .ok z.2 := List.forall_mem_cons.mpr ⟨d_SD_hard_0, List.forall_mem_cons.mpr ⟨d_SD_hard_1, List.forall_mem_cons.mpr ⟨d_SD_hard_2, List.forall_mem_cons.mpr ⟨d_SD_hard_4, List.forall_mem_cons.mpr ⟨d_SD_hard_7, List.forall_mem_cons.mpr ⟨d_SD_hard_10, List.forall_mem_cons.mpr ⟨d_SD_hard_11, List.forall_mem_cons.mpr ⟨d_SD_hard_12, List.forall_mem_cons.mpr ⟨d_SD_hard_15, List.forall_mem_cons.mpr ⟨d_SD_hard_18, List.forall_mem_cons.mpr ⟨d_SD_hard_21, List.forall_mem_cons.mpr ⟨d_SD_hard_24, List.forall_mem_cons.mpr ⟨d_SD_hard_25, List.forall_mem_cons.mpr ⟨d_SD_hard_27, List.forall_mem_cons.mpr ⟨d_SD_hard_30, List.forall_mem_cons.mpr ⟨d_SD_hard_31, List.forall_mem_cons.mpr ⟨d_SD_hard_32, List.forall_mem_cons.mpr ⟨d_SD_hard_35, List.forall_mem_cons.mpr ⟨d_SD_hard_38, List.forall_mem_cons.mpr ⟨d_SD_hard_39, List.forall_mem_cons.mpr ⟨d_SD_hard_42, List.forall_mem_cons.mpr ⟨d_SD_hard_45, List.forall_mem_cons.mpr ⟨d_SD_hard_47, List.forall_mem_cons.mpr ⟨d_SD_hard_50, List.forall_mem_cons.mpr ⟨d_SD_hard_51, List.forall_mem_cons.mpr ⟨d_SD_hard_54, List.forall_mem_cons.mpr ⟨d_SD_hard_57, List.forall_mem_cons.mpr ⟨d_SD_hard_58, List.forall_mem_cons.mpr ⟨d_SD_hard_61, List.forall_mem_cons.mpr ⟨d_SD_hard_64, List.forall_mem_cons.mpr ⟨d_SD_hard_65, List.forall_mem_cons.mpr ⟨d_SD_hard_67, List.forall_mem_cons.mpr ⟨d_SD_hard_70, List.forall_mem_cons.mpr ⟨d_SD_hard_71, List.forall_mem_cons.mpr ⟨d_SD_hard_72, List.forall_mem_cons.mpr ⟨d_SD_hard_73, List.forall_mem_cons.mpr ⟨d_SD_hard_76, List.forall_mem_cons.mpr ⟨d_SD_hard_79, List.forall_mem_cons.mpr ⟨d_SD_hard_82, List.forall_mem_cons.mpr ⟨d_SD_hard_83, List.forall_mem_cons.mpr ⟨d_SD_hard_84, List.forall_mem_cons.mpr ⟨d_SD_hard_85, List.forall_mem_cons.mpr ⟨d_SD_hard_88, List.forall_mem_cons.mpr ⟨d_SD_hard_89, List.forall_mem_cons.mpr ⟨d_SD_hard_92, List.forall_mem_cons.mpr ⟨d_SD_hard_95, List.forall_mem_cons.mpr ⟨d_SD_hard_96, List.forall_mem_cons.mpr ⟨d_SD_hard_99, List.forall_mem_cons.mpr ⟨d_SD_hard_100, List.forall_mem_cons.mpr ⟨d_SD_hard_103, List.forall_mem_cons.mpr ⟨d_SD_hard_104, List.forall_mem_cons.mpr ⟨d_SD_hard_107, List.forall_mem_cons.mpr ⟨d_SD_hard_108, List.forall_mem_cons.mpr ⟨d_SD_hard_109, List.forall_mem_cons.mpr ⟨d_SD_hard_110, List.forall_mem_cons.mpr ⟨d_SD_hard_111, List.forall_mem_cons.mpr ⟨d_SD_hard_112, List.forall_mem_cons.mpr ⟨d_SD_hard_115, fun _ h => absurd h List.not_mem_nil⟩⟩⟩⟩⟩⟩⟩⟩⟩⟩⟩⟩⟩⟩⟩⟩⟩⟩⟩⟩⟩⟩⟩⟩⟩⟩⟩⟩⟩⟩⟩⟩⟩⟩⟩⟩⟩⟩⟩⟩⟩⟩⟩⟩⟩⟩⟩⟩⟩⟩⟩⟩⟩⟩⟩⟩⟩⟩
theorem i_SD_hard_ok : ∀ pc i n, i_SD_hard pc = some (i, n) → decode b_SD_hard pc = .ok (i, n) := fun pc i n h => d_SD_hard (pc, i, n) (am_find_mem h)
theorem i_SD_hard_0 : i_SD_hard 0 = some (.iload_n 1, 1) := rfl
theorem i_SD_hard_1 : i_SD_hard 1 = some (.iconst 1, 1) := rfl
theorem i_SD_hard_2 : i_SD_hard 2 = some (.bipush 30, 2) := rfl
theorem i_SD_hard_4 : i_SD_hard 4 = some (.invokestatic 76, 3) := rfl
theorem i_SD_hard_7 : i_SD_hard 7 = some (.ifCond .eq 14, 3) := rfl
theorem i_SD_hard_10 : i_SD_hard 10 = some (.iload_n 2, 1) := rfl
theorem i_SD_hard_11 : i_SD_hard 11 = some (.iconst 1, 1) := rfl
theorem i_SD_hard_12 : i_SD_hard 12 = some (.sipush 200, 3) := rfl
theorem i_SD_hard_15 : i_SD_hard 15 = some (.invokestatic 76, 3) := rfl
theorem i_SD_hard_18 : i_SD_hard 18 = some (.ifCond .ne 13, 3) := rfl
theorem i_SD_hard_21 : i_SD_hard 21 = some (.new 80, 3) := rfl
theorem i_SD_hard_24 : i_SD_hard 24 = some (.dup, 1) := rfl
theorem i_SD_hard_25 : i_SD_hard 25 = some (.ldc 152, 2) := rfl
theorem i_SD_hard_27 : i_SD_hard 27 = some (.invokespecial 84, 3) := rfl
theorem i_SD_hard_30 : i_SD_hard 30 = some (.athrow, 1) := rfl
theorem i_SD_hard_31 : i_SD_hard 31 = some (.aload_n 0, 1) := rfl
theorem i_SD_hard_32 : i_SD_hard 32 = some (.getfield 68, 3) := rfl
theorem i_SD_hard_35 : i_SD_hard 35 = some (.ifCond .eq 26, 3) := rfl
theorem i_SD_hard_38 : i_SD_hard 38 = some (.aload_n 0, 1) := rfl
theorem i_SD_hard_39 : i_SD_hard 39 = some (.getfield 26, 3) := rfl
theorem i_SD_hard_42 : i_SD_hard 42 = some (.getfield 145, 3) := rfl
theorem i_SD_hard_45 : i_SD_hard 45 = some (.bipush 40, 2) := rfl
theorem i_SD_hard_47 : i_SD_hard 47 = some (.if_icmp .ge 14, 3) := rfl
theorem i_SD_hard_50 : i_SD_hard 50 = some (.aload_n 0, 1) := rfl
theorem i_SD_hard_51 : i_SD_hard 51 = some (.getfield 19, 3) := rfl
theorem i_SD_hard_54 : i_SD_hard 54 = some (.getfield 127, 3) := rfl
theorem i_SD_hard_57 : i_SD_hard 57 = some (.iconst 3, 1) := rfl
theorem i_SD_hard_58 : i_SD_hard 58 = some (.if_icmp .eq 13, 3) := rfl
theorem i_SD_hard_61 : i_SD_hard 61 = some (.new 90, 3) := rfl
theorem i_SD_hard_64 : i_SD_hard 64 = some (.dup, 1) := rfl
theorem i_SD_hard_65 : i_SD_hard 65 = some (.ldc 154, 2) := rfl
theorem i_SD_hard_67 : i_SD_hard 67 = some (.invokespecial 94, 3) := rfl
theorem i_SD_hard_70 : i_SD_hard 70 = some (.athrow, 1) := rfl
theorem i_SD_hard_71 : i_SD_hard 71 = some (.iload_n 1, 1) := rfl
theorem i_SD_hard_72 : i_SD_hard 72 = some (.aload_n 0, 1) := rfl
theorem i_SD_hard_73 : i_SD_hard 73 = some (.getfield 51, 3) := rfl
theorem i_SD_hard_76 : i_SD_hard 76 = some (.getfield 156, 3) := rfl
theorem i_SD_hard_79 : i_SD_hard 79 = some (.invokevirtual 160, 3) := rfl
theorem i_SD_hard_82 : i_SD_hard 82 = some (.iadd, 1) := rfl
theorem i_SD_hard_83 : i_SD_hard 83 = some (.istore_n 3, 1) := rfl
theorem i_SD_hard_84 : i_SD_hard 84 = some (.aload_n 0, 1) := rfl
theorem i_SD_hard_85 : i_SD_hard 85 = some (.getfield 60, 3) := rfl
theorem i_SD_hard_88 : i_SD_hard 88 = some (.aload_n 0, 1) := rfl
theorem i_SD_hard_89 : i_SD_hard 89 = some (.getfield 51, 3) := rfl
theorem i_SD_hard_92 : i_SD_hard 92 = some (.getfield 166, 3) := rfl
theorem i_SD_hard_95 : i_SD_hard 95 = some (.aload_n 0, 1) := rfl
theorem i_SD_hard_96 : i_SD_hard 96 = some (.getfield 72, 3) := rfl
theorem i_SD_hard_99 : i_SD_hard 99 = some (.iload_n 2, 1) := rfl
theorem i_SD_hard_100 : i_SD_hard 100 = some (.invokevirtual 170, 3) := rfl
theorem i_SD_hard_103 : i_SD_hard 103 = some (.iload_n 3, 1) := rfl
theorem i_SD_hard_104 : i_SD_hard 104 = some (.if_icmp .ge 5, 3) := rfl
theorem i_SD_hard_107 : i_SD_hard 107 = some (.iconst (-1), 1) := rfl
theorem i_SD_hard_108 : i_SD_hard 108 = some (.ireturn, 1) := rfl
theorem i_SD_hard_109 : i_SD_hard 109 = some (.aload_n 0, 1) := rfl
theorem i_SD_hard_110 : i_SD_hard 110 = some (.iload_n 1, 1) := rfl
theorem i_SD_hard_111 : i_SD_hard 111 = some (.iconst 1, 1) := rfl
theorem i_SD_hard_112 : i_SD_hard 112 = some (.invokevirtual 148, 3) := rfl
theorem i_SD_hard_115 : i_SD_hard 115 = some (.ireturn, 1) := rfl
abbrev w_SD_hard : List Jvm.Cond := Jvm.Cond.code y_SD_hard b_SD_hard 4 (some .int) :: vw_W
theorem c_SD_hard : Jvm.Cond.code y_SD_hard b_SD_hard 4 (some .int) ∈ vw_W := vw_t 664 (by decide +kernel) (by decide +kernel)
abbrev r_SD_hard : Room := { frames := 6, cells := 0, slots := 0, locals := 101 }
abbrev b_QU_hardNeed : ByteArray := prog_7_method_5_code
abbrev y_QU_hardNeed : MethodName := ⟨"ServerDesk$Queue", "hardNeed", "()I"⟩
def q_QU_hardNeed : List (Nat × Instr × Nat) := [(0, .iconst 0, 1), (1, .istore_n 1, 1), (2, .iconst 0, 1), (3, .istore_n 2, 1), (4, .iload_n 2, 1), (5, .aload_n 0, 1), (6, .getfield 18, 3), (9, .if_icmp .ge 30, 3), (12, .aload_n 0, 1), (13, .getfield 25, 3), (16, .getfield 40, 3), (19, .iload_n 2, 1), (20, .baload, 1), (21, .ifCond .eq 12, 3), (24, .iload_n 1, 1), (25, .aload_n 0, 1), (26, .getfield 9, 3), (29, .iload_n 2, 1), (30, .iaload, 1), (31, .iadd, 1), (32, .istore_n 1, 1), (33, .iinc 2 1, 3), (36, .goto (-32), 3), (39, .iload_n 1, 1), (40, .ireturn, 1)]
def i_QU_hardNeed : Nat → Option (Instr × Nat) := am_find q_QU_hardNeed
theorem d_QU_hardNeed_0 : decode b_QU_hardNeed 0 = .ok (.iconst 0, 1) := by decide +kernel
theorem d_QU_hardNeed_1 : decode b_QU_hardNeed 1 = .ok (.istore_n 1, 1) := by decide +kernel
theorem d_QU_hardNeed_2 : decode b_QU_hardNeed 2 = .ok (.iconst 0, 1) := by decide +kernel
theorem d_QU_hardNeed_3 : decode b_QU_hardNeed 3 = .ok (.istore_n 2, 1) := by decide +kernel
theorem d_QU_hardNeed_4 : decode b_QU_hardNeed 4 = .ok (.iload_n 2, 1) := by decide +kernel
theorem d_QU_hardNeed_5 : decode b_QU_hardNeed 5 = .ok (.aload_n 0, 1) := by decide +kernel
theorem d_QU_hardNeed_6 : decode b_QU_hardNeed 6 = .ok (.getfield 18, 3) := by decide +kernel
theorem d_QU_hardNeed_9 : decode b_QU_hardNeed 9 = .ok (.if_icmp .ge 30, 3) := by decide +kernel
theorem d_QU_hardNeed_12 : decode b_QU_hardNeed 12 = .ok (.aload_n 0, 1) := by decide +kernel
theorem d_QU_hardNeed_13 : decode b_QU_hardNeed 13 = .ok (.getfield 25, 3) := by decide +kernel
theorem d_QU_hardNeed_16 : decode b_QU_hardNeed 16 = .ok (.getfield 40, 3) := by decide +kernel
theorem d_QU_hardNeed_19 : decode b_QU_hardNeed 19 = .ok (.iload_n 2, 1) := by decide +kernel
theorem d_QU_hardNeed_20 : decode b_QU_hardNeed 20 = .ok (.baload, 1) := by decide +kernel
theorem d_QU_hardNeed_21 : decode b_QU_hardNeed 21 = .ok (.ifCond .eq 12, 3) := by decide +kernel
theorem d_QU_hardNeed_24 : decode b_QU_hardNeed 24 = .ok (.iload_n 1, 1) := by decide +kernel
theorem d_QU_hardNeed_25 : decode b_QU_hardNeed 25 = .ok (.aload_n 0, 1) := by decide +kernel
theorem d_QU_hardNeed_26 : decode b_QU_hardNeed 26 = .ok (.getfield 9, 3) := by decide +kernel
theorem d_QU_hardNeed_29 : decode b_QU_hardNeed 29 = .ok (.iload_n 2, 1) := by decide +kernel
theorem d_QU_hardNeed_30 : decode b_QU_hardNeed 30 = .ok (.iaload, 1) := by decide +kernel
theorem d_QU_hardNeed_31 : decode b_QU_hardNeed 31 = .ok (.iadd, 1) := by decide +kernel
theorem d_QU_hardNeed_32 : decode b_QU_hardNeed 32 = .ok (.istore_n 1, 1) := by decide +kernel
theorem d_QU_hardNeed_33 : decode b_QU_hardNeed 33 = .ok (.iinc 2 1, 3) := by decide +kernel
theorem d_QU_hardNeed_36 : decode b_QU_hardNeed 36 = .ok (.goto (-32), 3) := by decide +kernel
theorem d_QU_hardNeed_39 : decode b_QU_hardNeed 39 = .ok (.iload_n 1, 1) := by decide +kernel
theorem d_QU_hardNeed_40 : decode b_QU_hardNeed 40 = .ok (.ireturn, 1) := by decide +kernel
theorem d_QU_hardNeed : ∀ z ∈ q_QU_hardNeed, decode b_QU_hardNeed z.1 = .ok z.2 := List.forall_mem_cons.mpr ⟨d_QU_hardNeed_0, List.forall_mem_cons.mpr ⟨d_QU_hardNeed_1, List.forall_mem_cons.mpr ⟨d_QU_hardNeed_2, List.forall_mem_cons.mpr ⟨d_QU_hardNeed_3, List.forall_mem_cons.mpr ⟨d_QU_hardNeed_4, List.forall_mem_cons.mpr ⟨d_QU_hardNeed_5, List.forall_mem_cons.mpr ⟨d_QU_hardNeed_6, List.forall_mem_cons.mpr ⟨d_QU_hardNeed_9, List.forall_mem_cons.mpr ⟨d_QU_hardNeed_12, List.forall_mem_cons.mpr ⟨d_QU_hardNeed_13, List.forall_mem_cons.mpr ⟨d_QU_hardNeed_16, List.forall_mem_cons.mpr ⟨d_QU_hardNeed_19, List.forall_mem_cons.mpr ⟨d_QU_hardNeed_20, List.forall_mem_cons.mpr ⟨d_QU_hardNeed_21, List.forall_mem_cons.mpr ⟨d_QU_hardNeed_24, List.forall_mem_cons.mpr ⟨d_QU_hardNeed_25, List.forall_mem_cons.mpr ⟨d_QU_hardNeed_26, List.forall_mem_cons.mpr ⟨d_QU_hardNeed_29, List.forall_mem_cons.mpr ⟨d_QU_hardNeed_30, List.forall_mem_cons.mpr ⟨d_QU_hardNeed_31, List.forall_mem_cons.mpr ⟨d_QU_hardNeed_32, List.forall_mem_cons.mpr ⟨d_QU_hardNeed_33, List.forall_mem_cons.mpr ⟨d_QU_hardNeed_36, List.forall_mem_cons.mpr ⟨d_QU_hardNeed_39, List.forall_mem_cons.mpr ⟨d_QU_hardNeed_40, fun _ h => absurd h List.not_mem_nil⟩⟩⟩⟩⟩⟩⟩⟩⟩⟩⟩⟩⟩⟩⟩⟩⟩⟩⟩⟩⟩⟩⟩⟩⟩
theorem i_QU_hardNeed_ok : ∀ pc i n, i_QU_hardNeed pc = some (i, n) → decode b_QU_hardNeed pc = .ok (i, n) := fun pc i n h => d_QU_hardNeed (pc, i, n) (am_find_mem h)
theorem i_QU_hardNeed_0 : i_QU_hardNeed 0 = some (.iconst 0, 1) := rfl
theorem i_QU_hardNeed_1 : i_QU_hardNeed 1 = some (.istore_n 1, 1) := rfl
theorem i_QU_hardNeed_2 : i_QU_hardNeed 2 = some (.iconst 0, 1) := rfl
theorem i_QU_hardNeed_3 : i_QU_hardNeed 3 = some (.istore_n 2, 1) := rfl
theorem i_QU_hardNeed_4 : i_QU_hardNeed 4 = some (.iload_n 2, 1) := rfl
theorem i_QU_hardNeed_5 : i_QU_hardNeed 5 = some (.aload_n 0, 1) := rfl
theorem i_QU_hardNeed_6 : i_QU_hardNeed 6 = some (.getfield 18, 3) := rfl
theorem i_QU_hardNeed_9 : i_QU_hardNeed 9 = some (.if_icmp .ge 30, 3) := rfl
theorem i_QU_hardNeed_12 : i_QU_hardNeed 12 = some (.aload_n 0, 1) := rfl
theorem i_QU_hardNeed_13 : i_QU_hardNeed 13 = some (.getfield 25, 3) := rfl
theorem i_QU_hardNeed_16 : i_QU_hardNeed 16 = some (.getfield 40, 3) := rfl
theorem i_QU_hardNeed_19 : i_QU_hardNeed 19 = some (.iload_n 2, 1) := rfl
theorem i_QU_hardNeed_20 : i_QU_hardNeed 20 = some (.baload, 1) := rfl
theorem i_QU_hardNeed_21 : i_QU_hardNeed 21 = some (.ifCond .eq 12, 3) := rfl
theorem i_QU_hardNeed_24 : i_QU_hardNeed 24 = some (.iload_n 1, 1) := rfl
theorem i_QU_hardNeed_25 : i_QU_hardNeed 25 = some (.aload_n 0, 1) := rfl
theorem i_QU_hardNeed_26 : i_QU_hardNeed 26 = some (.getfield 9, 3) := rfl
theorem i_QU_hardNeed_29 : i_QU_hardNeed 29 = some (.iload_n 2, 1) := rfl
theorem i_QU_hardNeed_30 : i_QU_hardNeed 30 = some (.iaload, 1) := rfl
theorem i_QU_hardNeed_31 : i_QU_hardNeed 31 = some (.iadd, 1) := rfl
theorem i_QU_hardNeed_32 : i_QU_hardNeed 32 = some (.istore_n 1, 1) := rfl
theorem i_QU_hardNeed_33 : i_QU_hardNeed 33 = some (.iinc 2 1, 3) := rfl
theorem i_QU_hardNeed_36 : i_QU_hardNeed 36 = some (.goto (-32), 3) := rfl
theorem i_QU_hardNeed_39 : i_QU_hardNeed 39 = some (.iload_n 1, 1) := rfl
theorem i_QU_hardNeed_40 : i_QU_hardNeed 40 = some (.ireturn, 1) := rfl
abbrev w_QU_hardNeed : List Jvm.Cond := Jvm.Cond.code y_QU_hardNeed b_QU_hardNeed 3 (some .int) :: vw_W
theorem c_QU_hardNeed : Jvm.Cond.code y_QU_hardNeed b_QU_hardNeed 3 (some .int) ∈ vw_W := vw_t 670 (by decide +kernel) (by decide +kernel)
abbrev r_QU_hardNeed : Room := { frames := 0, cells := 0, slots := 0, locals := 0 }
abbrev b_RF_hardTicks : ByteArray := prog_8_method_6_code
abbrev y_RF_hardTicks : MethodName := ⟨"ServerDesk$Referee", "hardTicks", "(LServerDesk$Load;II)I"⟩
def q_RF_hardTicks : List (Nat × Instr × Nat) := [(0, .aload_n 0, 1), (1, .getfield 21, 3), (4, .getfield 74, 3), (7, .astore 4, 2), (9, .aload 4, 2), (11, .aload_n 1, 1), (12, .invokevirtual 101, 3), (15, .iconst 0, 1), (16, .istore 5, 2), (18, .iload_n 2, 1), (19, .istore 6, 2), (21, .iload 6, 2), (23, .iload_n 2, 1), (24, .iload_n 3, 1), (25, .iadd, 1), (26, .if_icmp .ge 69, 3), (29, .aload 4, 2), (31, .iload 6, 2), (33, .invokevirtual 105, 3), (36, .aload 4, 2), (38, .invokevirtual 108, 3), (41, .istore 7, 2), (43, .iload 7, 2), (45, .aload_n 0, 1), (46, .getfield 21, 3), (49, .getfield 111, 3), (52, .getfield 115, 3), (55, .if_icmp .ge 21, 3), (58, .aload_n 0, 1), (59, .getfield 21, 3), (62, .getfield 118, 3), (65, .aload 4, 2), (67, .iload 6, 2), (69, .iconst 1, 1), (70, .invokevirtual 122, 3), (73, .ifCond .le 9, 3), (76, .iinc 5 1, 3), (79, .goto 10, 3), (82, .aload 4, 2), (84, .iload 7, 2), (86, .invokevirtual 128, 3), (89, .iinc 6 1, 3), (92, .goto (-71), 3), (95, .iload 5, 2), (97, .ireturn, 1)]
def i_RF_hardTicks : Nat → Option (Instr × Nat) := am_find q_RF_hardTicks
theorem d_RF_hardTicks_0 : decode b_RF_hardTicks 0 = .ok (.aload_n 0, 1) := by decide +kernel
theorem d_RF_hardTicks_1 : decode b_RF_hardTicks 1 = .ok (.getfield 21, 3) := by decide +kernel
theorem d_RF_hardTicks_4 : decode b_RF_hardTicks 4 = .ok (.getfield 74, 3) := by decide +kernel
theorem d_RF_hardTicks_7 : decode b_RF_hardTicks 7 = .ok (.astore 4, 2) := by decide +kernel
theorem d_RF_hardTicks_9 : decode b_RF_hardTicks 9 = .ok (.aload 4, 2) := by decide +kernel
theorem d_RF_hardTicks_11 : decode b_RF_hardTicks 11 = .ok (.aload_n 1, 1) := by decide +kernel
theorem d_RF_hardTicks_12 : decode b_RF_hardTicks 12 = .ok (.invokevirtual 101, 3) := by decide +kernel
theorem d_RF_hardTicks_15 : decode b_RF_hardTicks 15 = .ok (.iconst 0, 1) := by decide +kernel
theorem d_RF_hardTicks_16 : decode b_RF_hardTicks 16 = .ok (.istore 5, 2) := by decide +kernel
theorem d_RF_hardTicks_18 : decode b_RF_hardTicks 18 = .ok (.iload_n 2, 1) := by decide +kernel
theorem d_RF_hardTicks_19 : decode b_RF_hardTicks 19 = .ok (.istore 6, 2) := by decide +kernel
theorem d_RF_hardTicks_21 : decode b_RF_hardTicks 21 = .ok (.iload 6, 2) := by decide +kernel
theorem d_RF_hardTicks_23 : decode b_RF_hardTicks 23 = .ok (.iload_n 2, 1) := by decide +kernel
theorem d_RF_hardTicks_24 : decode b_RF_hardTicks 24 = .ok (.iload_n 3, 1) := by decide +kernel
theorem d_RF_hardTicks_25 : decode b_RF_hardTicks 25 = .ok (.iadd, 1) := by decide +kernel
theorem d_RF_hardTicks_26 : decode b_RF_hardTicks 26 = .ok (.if_icmp .ge 69, 3) := by decide +kernel
theorem d_RF_hardTicks_29 : decode b_RF_hardTicks 29 = .ok (.aload 4, 2) := by decide +kernel
theorem d_RF_hardTicks_31 : decode b_RF_hardTicks 31 = .ok (.iload 6, 2) := by decide +kernel
theorem d_RF_hardTicks_33 : decode b_RF_hardTicks 33 = .ok (.invokevirtual 105, 3) := by decide +kernel
theorem d_RF_hardTicks_36 : decode b_RF_hardTicks 36 = .ok (.aload 4, 2) := by decide +kernel
theorem d_RF_hardTicks_38 : decode b_RF_hardTicks 38 = .ok (.invokevirtual 108, 3) := by decide +kernel
theorem d_RF_hardTicks_41 : decode b_RF_hardTicks 41 = .ok (.istore 7, 2) := by decide +kernel
theorem d_RF_hardTicks_43 : decode b_RF_hardTicks 43 = .ok (.iload 7, 2) := by decide +kernel
theorem d_RF_hardTicks_45 : decode b_RF_hardTicks 45 = .ok (.aload_n 0, 1) := by decide +kernel
theorem d_RF_hardTicks_46 : decode b_RF_hardTicks 46 = .ok (.getfield 21, 3) := by decide +kernel
theorem d_RF_hardTicks_49 : decode b_RF_hardTicks 49 = .ok (.getfield 111, 3) := by decide +kernel
theorem d_RF_hardTicks_52 : decode b_RF_hardTicks 52 = .ok (.getfield 115, 3) := by decide +kernel
theorem d_RF_hardTicks_55 : decode b_RF_hardTicks 55 = .ok (.if_icmp .ge 21, 3) := by decide +kernel
theorem d_RF_hardTicks_58 : decode b_RF_hardTicks 58 = .ok (.aload_n 0, 1) := by decide +kernel
theorem d_RF_hardTicks_59 : decode b_RF_hardTicks 59 = .ok (.getfield 21, 3) := by decide +kernel
theorem d_RF_hardTicks_62 : decode b_RF_hardTicks 62 = .ok (.getfield 118, 3) := by decide +kernel
theorem d_RF_hardTicks_65 : decode b_RF_hardTicks 65 = .ok (.aload 4, 2) := by decide +kernel
theorem d_RF_hardTicks_67 : decode b_RF_hardTicks 67 = .ok (.iload 6, 2) := by decide +kernel
theorem d_RF_hardTicks_69 : decode b_RF_hardTicks 69 = .ok (.iconst 1, 1) := by decide +kernel
theorem d_RF_hardTicks_70 : decode b_RF_hardTicks 70 = .ok (.invokevirtual 122, 3) := by decide +kernel
theorem d_RF_hardTicks_73 : decode b_RF_hardTicks 73 = .ok (.ifCond .le 9, 3) := by decide +kernel
theorem d_RF_hardTicks_76 : decode b_RF_hardTicks 76 = .ok (.iinc 5 1, 3) := by decide +kernel
theorem d_RF_hardTicks_79 : decode b_RF_hardTicks 79 = .ok (.goto 10, 3) := by decide +kernel
theorem d_RF_hardTicks_82 : decode b_RF_hardTicks 82 = .ok (.aload 4, 2) := by decide +kernel
theorem d_RF_hardTicks_84 : decode b_RF_hardTicks 84 = .ok (.iload 7, 2) := by decide +kernel
theorem d_RF_hardTicks_86 : decode b_RF_hardTicks 86 = .ok (.invokevirtual 128, 3) := by decide +kernel
theorem d_RF_hardTicks_89 : decode b_RF_hardTicks 89 = .ok (.iinc 6 1, 3) := by decide +kernel
theorem d_RF_hardTicks_92 : decode b_RF_hardTicks 92 = .ok (.goto (-71), 3) := by decide +kernel
theorem d_RF_hardTicks_95 : decode b_RF_hardTicks 95 = .ok (.iload 5, 2) := by decide +kernel
theorem d_RF_hardTicks_97 : decode b_RF_hardTicks 97 = .ok (.ireturn, 1) := by decide +kernel
theorem d_RF_hardTicks : ∀ z ∈ q_RF_hardTicks, decode b_RF_hardTicks z.1 = .ok z.2 := List.forall_mem_cons.mpr ⟨d_RF_hardTicks_0, List.forall_mem_cons.mpr ⟨d_RF_hardTicks_1, List.forall_mem_cons.mpr ⟨d_RF_hardTicks_4, List.forall_mem_cons.mpr ⟨d_RF_hardTicks_7, List.forall_mem_cons.mpr ⟨d_RF_hardTicks_9, List.forall_mem_cons.mpr ⟨d_RF_hardTicks_11, List.forall_mem_cons.mpr ⟨d_RF_hardTicks_12, List.forall_mem_cons.mpr ⟨d_RF_hardTicks_15, List.forall_mem_cons.mpr ⟨d_RF_hardTicks_16, List.forall_mem_cons.mpr ⟨d_RF_hardTicks_18, List.forall_mem_cons.mpr ⟨d_RF_hardTicks_19, List.forall_mem_cons.mpr ⟨d_RF_hardTicks_21, List.forall_mem_cons.mpr ⟨d_RF_hardTicks_23, List.forall_mem_cons.mpr ⟨d_RF_hardTicks_24, List.forall_mem_cons.mpr ⟨d_RF_hardTicks_25, List.forall_mem_cons.mpr ⟨d_RF_hardTicks_26, List.forall_mem_cons.mpr ⟨d_RF_hardTicks_29, List.forall_mem_cons.mpr ⟨d_RF_hardTicks_31, List.forall_mem_cons.mpr ⟨d_RF_hardTicks_33, List.forall_mem_cons.mpr ⟨d_RF_hardTicks_36, List.forall_mem_cons.mpr ⟨d_RF_hardTicks_38, List.forall_mem_cons.mpr ⟨d_RF_hardTicks_41, List.forall_mem_cons.mpr ⟨d_RF_hardTicks_43, List.forall_mem_cons.mpr ⟨d_RF_hardTicks_45, List.forall_mem_cons.mpr ⟨d_RF_hardTicks_46, List.forall_mem_cons.mpr ⟨d_RF_hardTicks_49, List.forall_mem_cons.mpr ⟨d_RF_hardTicks_52, List.forall_mem_cons.mpr ⟨d_RF_hardTicks_55, List.forall_mem_cons.mpr ⟨d_RF_hardTicks_58, List.forall_mem_cons.mpr ⟨d_RF_hardTicks_59, List.forall_mem_cons.mpr ⟨d_RF_hardTicks_62, List.forall_mem_cons.mpr ⟨d_RF_hardTicks_65, List.forall_mem_cons.mpr ⟨d_RF_hardTicks_67, List.forall_mem_cons.mpr ⟨d_RF_hardTicks_69, List.forall_mem_cons.mpr ⟨d_RF_hardTicks_70, List.forall_mem_cons.mpr ⟨d_RF_hardTicks_73, List.forall_mem_cons.mpr ⟨d_RF_hardTicks_76, List.forall_mem_cons.mpr ⟨d_RF_hardTicks_79, List.forall_mem_cons.mpr ⟨d_RF_hardTicks_82, List.forall_mem_cons.mpr ⟨d_RF_hardTicks_84, List.forall_mem_cons.mpr ⟨d_RF_hardTicks_86, List.forall_mem_cons.mpr ⟨d_RF_hardTicks_89, List.forall_mem_cons.mpr ⟨d_RF_hardTicks_92, List.forall_mem_cons.mpr ⟨d_RF_hardTicks_95, List.forall_mem_cons.mpr ⟨d_RF_hardTicks_97, fun _ h => absurd h List.not_mem_nil⟩⟩⟩⟩⟩⟩⟩⟩⟩⟩⟩⟩⟩⟩⟩⟩⟩⟩⟩⟩⟩⟩⟩⟩⟩⟩⟩⟩⟩⟩⟩⟩⟩⟩⟩⟩⟩⟩⟩⟩⟩⟩⟩⟩⟩
theorem i_RF_hardTicks_ok : ∀ pc i n, i_RF_hardTicks pc = some (i, n) → decode b_RF_hardTicks pc = .ok (i, n) := fun pc i n h => d_RF_hardTicks (pc, i, n) (am_find_mem h)
theorem i_RF_hardTicks_0 : i_RF_hardTicks 0 = some (.aload_n 0, 1) := rfl
theorem i_RF_hardTicks_1 : i_RF_hardTicks 1 = some (.getfield 21, 3) := rfl
theorem i_RF_hardTicks_4 : i_RF_hardTicks 4 = some (.getfield 74, 3) := rfl
theorem i_RF_hardTicks_7 : i_RF_hardTicks 7 = some (.astore 4, 2) := rfl
theorem i_RF_hardTicks_9 : i_RF_hardTicks 9 = some (.aload 4, 2) := rfl
theorem i_RF_hardTicks_11 : i_RF_hardTicks 11 = some (.aload_n 1, 1) := rfl
theorem i_RF_hardTicks_12 : i_RF_hardTicks 12 = some (.invokevirtual 101, 3) := rfl
theorem i_RF_hardTicks_15 : i_RF_hardTicks 15 = some (.iconst 0, 1) := rfl
theorem i_RF_hardTicks_16 : i_RF_hardTicks 16 = some (.istore 5, 2) := rfl
theorem i_RF_hardTicks_18 : i_RF_hardTicks 18 = some (.iload_n 2, 1) := rfl
theorem i_RF_hardTicks_19 : i_RF_hardTicks 19 = some (.istore 6, 2) := rfl
theorem i_RF_hardTicks_21 : i_RF_hardTicks 21 = some (.iload 6, 2) := rfl
theorem i_RF_hardTicks_23 : i_RF_hardTicks 23 = some (.iload_n 2, 1) := rfl
theorem i_RF_hardTicks_24 : i_RF_hardTicks 24 = some (.iload_n 3, 1) := rfl
theorem i_RF_hardTicks_25 : i_RF_hardTicks 25 = some (.iadd, 1) := rfl
theorem i_RF_hardTicks_26 : i_RF_hardTicks 26 = some (.if_icmp .ge 69, 3) := rfl
theorem i_RF_hardTicks_29 : i_RF_hardTicks 29 = some (.aload 4, 2) := rfl
theorem i_RF_hardTicks_31 : i_RF_hardTicks 31 = some (.iload 6, 2) := rfl
theorem i_RF_hardTicks_33 : i_RF_hardTicks 33 = some (.invokevirtual 105, 3) := rfl
theorem i_RF_hardTicks_36 : i_RF_hardTicks 36 = some (.aload 4, 2) := rfl
theorem i_RF_hardTicks_38 : i_RF_hardTicks 38 = some (.invokevirtual 108, 3) := rfl
theorem i_RF_hardTicks_41 : i_RF_hardTicks 41 = some (.istore 7, 2) := rfl
theorem i_RF_hardTicks_43 : i_RF_hardTicks 43 = some (.iload 7, 2) := rfl
theorem i_RF_hardTicks_45 : i_RF_hardTicks 45 = some (.aload_n 0, 1) := rfl
theorem i_RF_hardTicks_46 : i_RF_hardTicks 46 = some (.getfield 21, 3) := rfl
theorem i_RF_hardTicks_49 : i_RF_hardTicks 49 = some (.getfield 111, 3) := rfl
theorem i_RF_hardTicks_52 : i_RF_hardTicks 52 = some (.getfield 115, 3) := rfl
theorem i_RF_hardTicks_55 : i_RF_hardTicks 55 = some (.if_icmp .ge 21, 3) := rfl
theorem i_RF_hardTicks_58 : i_RF_hardTicks 58 = some (.aload_n 0, 1) := rfl
theorem i_RF_hardTicks_59 : i_RF_hardTicks 59 = some (.getfield 21, 3) := rfl
theorem i_RF_hardTicks_62 : i_RF_hardTicks 62 = some (.getfield 118, 3) := rfl
theorem i_RF_hardTicks_65 : i_RF_hardTicks 65 = some (.aload 4, 2) := rfl
theorem i_RF_hardTicks_67 : i_RF_hardTicks 67 = some (.iload 6, 2) := rfl
theorem i_RF_hardTicks_69 : i_RF_hardTicks 69 = some (.iconst 1, 1) := rfl
theorem i_RF_hardTicks_70 : i_RF_hardTicks 70 = some (.invokevirtual 122, 3) := rfl
theorem i_RF_hardTicks_73 : i_RF_hardTicks 73 = some (.ifCond .le 9, 3) := rfl
theorem i_RF_hardTicks_76 : i_RF_hardTicks 76 = some (.iinc 5 1, 3) := rfl
theorem i_RF_hardTicks_79 : i_RF_hardTicks 79 = some (.goto 10, 3) := rfl
theorem i_RF_hardTicks_82 : i_RF_hardTicks 82 = some (.aload 4, 2) := rfl
theorem i_RF_hardTicks_84 : i_RF_hardTicks 84 = some (.iload 7, 2) := rfl
theorem i_RF_hardTicks_86 : i_RF_hardTicks 86 = some (.invokevirtual 128, 3) := rfl
theorem i_RF_hardTicks_89 : i_RF_hardTicks 89 = some (.iinc 6 1, 3) := rfl
theorem i_RF_hardTicks_92 : i_RF_hardTicks 92 = some (.goto (-71), 3) := rfl
theorem i_RF_hardTicks_95 : i_RF_hardTicks 95 = some (.iload 5, 2) := rfl
theorem i_RF_hardTicks_97 : i_RF_hardTicks 97 = some (.ireturn, 1) := rfl
abbrev w_RF_hardTicks : List Jvm.Cond := Jvm.Cond.code y_RF_hardTicks b_RF_hardTicks 8 (some .int) :: vw_W
theorem c_RF_hardTicks : Jvm.Cond.code y_RF_hardTicks b_RF_hardTicks 8 (some .int) ∈ vw_W := vw_t 674 (by decide +kernel) (by decide +kernel)
abbrev r_RF_hardTicks : Room := { frames := 3, cells := 0, slots := 0, locals := 74 }
abbrev b_LW_early : ByteArray := method_9_code
abbrev y_LW_early : MethodName := ⟨"ServerDeskLaw", "early", "(LServerDesk;II)I"⟩
def q_LW_early : List (Nat × Instr × Nat) := [(0, .aload_n 0, 1), (1, .iload_n 1, 1), (2, .iload_n 2, 1), (3, .invokevirtual 37, 3), (6, .goto 9, 3), (9, .astore_n 3, 1), (10, .iconst 1, 1), (11, .ireturn, 1), (12, .astore_n 3, 1), (13, .iconst 2, 1), (14, .ireturn, 1), (15, .iconst 0, 1), (16, .ireturn, 1)]
def i_LW_early : Nat → Option (Instr × Nat) := am_find q_LW_early
theorem d_LW_early_0 : decode b_LW_early 0 = .ok (.aload_n 0, 1) := by decide +kernel
theorem d_LW_early_1 : decode b_LW_early 1 = .ok (.iload_n 1, 1) := by decide +kernel
theorem d_LW_early_2 : decode b_LW_early 2 = .ok (.iload_n 2, 1) := by decide +kernel
theorem d_LW_early_3 : decode b_LW_early 3 = .ok (.invokevirtual 37, 3) := by decide +kernel
theorem d_LW_early_6 : decode b_LW_early 6 = .ok (.goto 9, 3) := by decide +kernel
theorem d_LW_early_9 : decode b_LW_early 9 = .ok (.astore_n 3, 1) := by decide +kernel
theorem d_LW_early_10 : decode b_LW_early 10 = .ok (.iconst 1, 1) := by decide +kernel
theorem d_LW_early_11 : decode b_LW_early 11 = .ok (.ireturn, 1) := by decide +kernel
theorem d_LW_early_12 : decode b_LW_early 12 = .ok (.astore_n 3, 1) := by decide +kernel
theorem d_LW_early_13 : decode b_LW_early 13 = .ok (.iconst 2, 1) := by decide +kernel
theorem d_LW_early_14 : decode b_LW_early 14 = .ok (.ireturn, 1) := by decide +kernel
theorem d_LW_early_15 : decode b_LW_early 15 = .ok (.iconst 0, 1) := by decide +kernel
theorem d_LW_early_16 : decode b_LW_early 16 = .ok (.ireturn, 1) := by decide +kernel
theorem d_LW_early : ∀ z ∈ q_LW_early, decode b_LW_early z.1 = .ok z.2 := List.forall_mem_cons.mpr ⟨d_LW_early_0, List.forall_mem_cons.mpr ⟨d_LW_early_1, List.forall_mem_cons.mpr ⟨d_LW_early_2, List.forall_mem_cons.mpr ⟨d_LW_early_3, List.forall_mem_cons.mpr ⟨d_LW_early_6, List.forall_mem_cons.mpr ⟨d_LW_early_9, List.forall_mem_cons.mpr ⟨d_LW_early_10, List.forall_mem_cons.mpr ⟨d_LW_early_11, List.forall_mem_cons.mpr ⟨d_LW_early_12, List.forall_mem_cons.mpr ⟨d_LW_early_13, List.forall_mem_cons.mpr ⟨d_LW_early_14, List.forall_mem_cons.mpr ⟨d_LW_early_15, List.forall_mem_cons.mpr ⟨d_LW_early_16, fun _ h => absurd h List.not_mem_nil⟩⟩⟩⟩⟩⟩⟩⟩⟩⟩⟩⟩⟩
theorem i_LW_early_ok : ∀ pc i n, i_LW_early pc = some (i, n) → decode b_LW_early pc = .ok (i, n) := fun pc i n h => d_LW_early (pc, i, n) (am_find_mem h)
theorem i_LW_early_0 : i_LW_early 0 = some (.aload_n 0, 1) := rfl
theorem i_LW_early_1 : i_LW_early 1 = some (.iload_n 1, 1) := rfl
theorem i_LW_early_2 : i_LW_early 2 = some (.iload_n 2, 1) := rfl
theorem i_LW_early_3 : i_LW_early 3 = some (.invokevirtual 37, 3) := rfl
theorem i_LW_early_6 : i_LW_early 6 = some (.goto 9, 3) := rfl
theorem i_LW_early_9 : i_LW_early 9 = some (.astore_n 3, 1) := rfl
theorem i_LW_early_10 : i_LW_early 10 = some (.iconst 1, 1) := rfl
theorem i_LW_early_11 : i_LW_early 11 = some (.ireturn, 1) := rfl
theorem i_LW_early_12 : i_LW_early 12 = some (.astore_n 3, 1) := rfl
theorem i_LW_early_13 : i_LW_early 13 = some (.iconst 2, 1) := rfl
theorem i_LW_early_14 : i_LW_early 14 = some (.ireturn, 1) := rfl
theorem i_LW_early_15 : i_LW_early 15 = some (.iconst 0, 1) := rfl
theorem i_LW_early_16 : i_LW_early 16 = some (.ireturn, 1) := rfl
abbrev b_SD_early : ByteArray := prog_1_method_8_code
abbrev y_SD_early : MethodName := ⟨"ServerDesk", "early", "(II)V"⟩
def q_SD_early : List (Nat × Instr × Nat) := [(0, .iload_n 1, 1), (1, .iconst 0, 1), (2, .aload_n 0, 1), (3, .getfield 10, 3), (6, .getfield 87, 3), (9, .iconst 1, 1), (10, .isub, 1), (11, .invokestatic 76, 3), (14, .ifCond .eq 20, 3), (17, .iload_n 2, 1), (18, .iconst 1, 1), (19, .aload_n 0, 1), (20, .getfield 10, 3), (23, .getfield 174, 3), (26, .iload_n 1, 1), (27, .iaload, 1), (28, .invokestatic 76, 3), (31, .ifCond .ne 13, 3), (34, .new 80, 3), (37, .dup, 1), (38, .ldc 177, 2), (40, .invokespecial 84, 3), (43, .athrow, 1), (44, .aload_n 0, 1), (45, .getfield 68, 3), (48, .ifCond .eq 16, 3), (51, .aload_n 0, 1), (52, .getfield 33, 3), (55, .getfield 179, 3), (58, .sipush 200, 3), (61, .if_icmp .lt 13, 3), (64, .new 90, 3), (67, .dup, 1), (68, .ldc 180, 2), (70, .invokespecial 94, 3), (73, .athrow, 1), (74, .aload_n 0, 1), (75, .getfield 33, 3), (78, .aload_n 0, 1), (79, .getfield 72, 3), (82, .iload_n 1, 1), (83, .iload_n 2, 1), (84, .invokevirtual 182, 3), (87, .aload_n 0, 1), (88, .getfield 51, 3), (91, .getfield 166, 3), (94, .iload_n 1, 1), (95, .iload_n 2, 1), (96, .invokevirtual 184, 3), (99, .return_, 1)]
def i_SD_early : Nat → Option (Instr × Nat) := am_find q_SD_early
theorem d_SD_early_0 : decode b_SD_early 0 = .ok (.iload_n 1, 1) := by decide +kernel
theorem d_SD_early_1 : decode b_SD_early 1 = .ok (.iconst 0, 1) := by decide +kernel
theorem d_SD_early_2 : decode b_SD_early 2 = .ok (.aload_n 0, 1) := by decide +kernel
theorem d_SD_early_3 : decode b_SD_early 3 = .ok (.getfield 10, 3) := by decide +kernel
theorem d_SD_early_6 : decode b_SD_early 6 = .ok (.getfield 87, 3) := by decide +kernel
theorem d_SD_early_9 : decode b_SD_early 9 = .ok (.iconst 1, 1) := by decide +kernel
theorem d_SD_early_10 : decode b_SD_early 10 = .ok (.isub, 1) := by decide +kernel
theorem d_SD_early_11 : decode b_SD_early 11 = .ok (.invokestatic 76, 3) := by decide +kernel
theorem d_SD_early_14 : decode b_SD_early 14 = .ok (.ifCond .eq 20, 3) := by decide +kernel
theorem d_SD_early_17 : decode b_SD_early 17 = .ok (.iload_n 2, 1) := by decide +kernel
theorem d_SD_early_18 : decode b_SD_early 18 = .ok (.iconst 1, 1) := by decide +kernel
theorem d_SD_early_19 : decode b_SD_early 19 = .ok (.aload_n 0, 1) := by decide +kernel
theorem d_SD_early_20 : decode b_SD_early 20 = .ok (.getfield 10, 3) := by decide +kernel
theorem d_SD_early_23 : decode b_SD_early 23 = .ok (.getfield 174, 3) := by decide +kernel
theorem d_SD_early_26 : decode b_SD_early 26 = .ok (.iload_n 1, 1) := by decide +kernel
theorem d_SD_early_27 : decode b_SD_early 27 = .ok (.iaload, 1) := by decide +kernel
theorem d_SD_early_28 : decode b_SD_early 28 = .ok (.invokestatic 76, 3) := by decide +kernel
theorem d_SD_early_31 : decode b_SD_early 31 = .ok (.ifCond .ne 13, 3) := by decide +kernel
theorem d_SD_early_34 : decode b_SD_early 34 = .ok (.new 80, 3) := by decide +kernel
theorem d_SD_early_37 : decode b_SD_early 37 = .ok (.dup, 1) := by decide +kernel
theorem d_SD_early_38 : decode b_SD_early 38 = .ok (.ldc 177, 2) := by decide +kernel
theorem d_SD_early_40 : decode b_SD_early 40 = .ok (.invokespecial 84, 3) := by decide +kernel
theorem d_SD_early_43 : decode b_SD_early 43 = .ok (.athrow, 1) := by decide +kernel
theorem d_SD_early_44 : decode b_SD_early 44 = .ok (.aload_n 0, 1) := by decide +kernel
theorem d_SD_early_45 : decode b_SD_early 45 = .ok (.getfield 68, 3) := by decide +kernel
theorem d_SD_early_48 : decode b_SD_early 48 = .ok (.ifCond .eq 16, 3) := by decide +kernel
theorem d_SD_early_51 : decode b_SD_early 51 = .ok (.aload_n 0, 1) := by decide +kernel
theorem d_SD_early_52 : decode b_SD_early 52 = .ok (.getfield 33, 3) := by decide +kernel
theorem d_SD_early_55 : decode b_SD_early 55 = .ok (.getfield 179, 3) := by decide +kernel
theorem d_SD_early_58 : decode b_SD_early 58 = .ok (.sipush 200, 3) := by decide +kernel
theorem d_SD_early_61 : decode b_SD_early 61 = .ok (.if_icmp .lt 13, 3) := by decide +kernel
theorem d_SD_early_64 : decode b_SD_early 64 = .ok (.new 90, 3) := by decide +kernel
theorem d_SD_early_67 : decode b_SD_early 67 = .ok (.dup, 1) := by decide +kernel
theorem d_SD_early_68 : decode b_SD_early 68 = .ok (.ldc 180, 2) := by decide +kernel
theorem d_SD_early_70 : decode b_SD_early 70 = .ok (.invokespecial 94, 3) := by decide +kernel
theorem d_SD_early_73 : decode b_SD_early 73 = .ok (.athrow, 1) := by decide +kernel
theorem d_SD_early_74 : decode b_SD_early 74 = .ok (.aload_n 0, 1) := by decide +kernel
theorem d_SD_early_75 : decode b_SD_early 75 = .ok (.getfield 33, 3) := by decide +kernel
theorem d_SD_early_78 : decode b_SD_early 78 = .ok (.aload_n 0, 1) := by decide +kernel
theorem d_SD_early_79 : decode b_SD_early 79 = .ok (.getfield 72, 3) := by decide +kernel
theorem d_SD_early_82 : decode b_SD_early 82 = .ok (.iload_n 1, 1) := by decide +kernel
theorem d_SD_early_83 : decode b_SD_early 83 = .ok (.iload_n 2, 1) := by decide +kernel
theorem d_SD_early_84 : decode b_SD_early 84 = .ok (.invokevirtual 182, 3) := by decide +kernel
theorem d_SD_early_87 : decode b_SD_early 87 = .ok (.aload_n 0, 1) := by decide +kernel
theorem d_SD_early_88 : decode b_SD_early 88 = .ok (.getfield 51, 3) := by decide +kernel
theorem d_SD_early_91 : decode b_SD_early 91 = .ok (.getfield 166, 3) := by decide +kernel
theorem d_SD_early_94 : decode b_SD_early 94 = .ok (.iload_n 1, 1) := by decide +kernel
theorem d_SD_early_95 : decode b_SD_early 95 = .ok (.iload_n 2, 1) := by decide +kernel
theorem d_SD_early_96 : decode b_SD_early 96 = .ok (.invokevirtual 184, 3) := by decide +kernel
theorem d_SD_early_99 : decode b_SD_early 99 = .ok (.return_, 1) := by decide +kernel
theorem d_SD_early : ∀ z ∈ q_SD_early, decode b_SD_early z.1 = .ok z.2 := List.forall_mem_cons.mpr ⟨d_SD_early_0, List.forall_mem_cons.mpr ⟨d_SD_early_1, List.forall_mem_cons.mpr ⟨d_SD_early_2, List.forall_mem_cons.mpr ⟨d_SD_early_3, List.forall_mem_cons.mpr ⟨d_SD_early_6, List.forall_mem_cons.mpr ⟨d_SD_early_9, List.forall_mem_cons.mpr ⟨d_SD_early_10, List.forall_mem_cons.mpr ⟨d_SD_early_11, List.forall_mem_cons.mpr ⟨d_SD_early_14, List.forall_mem_cons.mpr ⟨d_SD_early_17, List.forall_mem_cons.mpr ⟨d_SD_early_18, List.forall_mem_cons.mpr ⟨d_SD_early_19, List.forall_mem_cons.mpr ⟨d_SD_early_20, List.forall_mem_cons.mpr ⟨d_SD_early_23, List.forall_mem_cons.mpr ⟨d_SD_early_26, List.forall_mem_cons.mpr ⟨d_SD_early_27, List.forall_mem_cons.mpr ⟨d_SD_early_28, List.forall_mem_cons.mpr ⟨d_SD_early_31, List.forall_mem_cons.mpr ⟨d_SD_early_34, List.forall_mem_cons.mpr ⟨d_SD_early_37, List.forall_mem_cons.mpr ⟨d_SD_early_38, List.forall_mem_cons.mpr ⟨d_SD_early_40, List.forall_mem_cons.mpr ⟨d_SD_early_43, List.forall_mem_cons.mpr ⟨d_SD_early_44, List.forall_mem_cons.mpr ⟨d_SD_early_45, List.forall_mem_cons.mpr ⟨d_SD_early_48, List.forall_mem_cons.mpr ⟨d_SD_early_51, List.forall_mem_cons.mpr ⟨d_SD_early_52, List.forall_mem_cons.mpr ⟨d_SD_early_55, List.forall_mem_cons.mpr ⟨d_SD_early_58, List.forall_mem_cons.mpr ⟨d_SD_early_61, List.forall_mem_cons.mpr ⟨d_SD_early_64, List.forall_mem_cons.mpr ⟨d_SD_early_67, List.forall_mem_cons.mpr ⟨d_SD_early_68, List.forall_mem_cons.mpr ⟨d_SD_early_70, List.forall_mem_cons.mpr ⟨d_SD_early_73, List.forall_mem_cons.mpr ⟨d_SD_early_74, List.forall_mem_cons.mpr ⟨d_SD_early_75, List.forall_mem_cons.mpr ⟨d_SD_early_78, List.forall_mem_cons.mpr ⟨d_SD_early_79, List.forall_mem_cons.mpr ⟨d_SD_early_82, List.forall_mem_cons.mpr ⟨d_SD_early_83, List.forall_mem_cons.mpr ⟨d_SD_early_84, List.forall_mem_cons.mpr ⟨d_SD_early_87, List.forall_mem_cons.mpr ⟨d_SD_early_88, List.forall_mem_cons.mpr ⟨d_SD_early_91, List.forall_mem_cons.mpr ⟨d_SD_early_94, List.forall_mem_cons.mpr ⟨d_SD_early_95, List.forall_mem_cons.mpr ⟨d_SD_early_96, List.forall_mem_cons.mpr ⟨d_SD_early_99, fun _ h => absurd h List.not_mem_nil⟩⟩⟩⟩⟩⟩⟩⟩⟩⟩⟩⟩⟩⟩⟩⟩⟩⟩⟩⟩⟩⟩⟩⟩⟩⟩⟩⟩⟩⟩⟩⟩⟩⟩⟩⟩⟩⟩⟩⟩⟩⟩⟩⟩⟩⟩⟩⟩⟩⟩
theorem i_SD_early_ok : ∀ pc i n, i_SD_early pc = some (i, n) → decode b_SD_early pc = .ok (i, n) := fun pc i n h => d_SD_early (pc, i, n) (am_find_mem h)
theorem i_SD_early_0 : i_SD_early 0 = some (.iload_n 1, 1) := rfl
theorem i_SD_early_1 : i_SD_early 1 = some (.iconst 0, 1) := rfl
theorem i_SD_early_2 : i_SD_early 2 = some (.aload_n 0, 1) := rfl
theorem i_SD_early_3 : i_SD_early 3 = some (.getfield 10, 3) := rfl
theorem i_SD_early_6 : i_SD_early 6 = some (.getfield 87, 3) := rfl
theorem i_SD_early_9 : i_SD_early 9 = some (.iconst 1, 1) := rfl
theorem i_SD_early_10 : i_SD_early 10 = some (.isub, 1) := rfl
theorem i_SD_early_11 : i_SD_early 11 = some (.invokestatic 76, 3) := rfl
theorem i_SD_early_14 : i_SD_early 14 = some (.ifCond .eq 20, 3) := rfl
theorem i_SD_early_17 : i_SD_early 17 = some (.iload_n 2, 1) := rfl
theorem i_SD_early_18 : i_SD_early 18 = some (.iconst 1, 1) := rfl
theorem i_SD_early_19 : i_SD_early 19 = some (.aload_n 0, 1) := rfl
theorem i_SD_early_20 : i_SD_early 20 = some (.getfield 10, 3) := rfl
theorem i_SD_early_23 : i_SD_early 23 = some (.getfield 174, 3) := rfl
theorem i_SD_early_26 : i_SD_early 26 = some (.iload_n 1, 1) := rfl
theorem i_SD_early_27 : i_SD_early 27 = some (.iaload, 1) := rfl
theorem i_SD_early_28 : i_SD_early 28 = some (.invokestatic 76, 3) := rfl
theorem i_SD_early_31 : i_SD_early 31 = some (.ifCond .ne 13, 3) := rfl
theorem i_SD_early_34 : i_SD_early 34 = some (.new 80, 3) := rfl
theorem i_SD_early_37 : i_SD_early 37 = some (.dup, 1) := rfl
theorem i_SD_early_38 : i_SD_early 38 = some (.ldc 177, 2) := rfl
theorem i_SD_early_40 : i_SD_early 40 = some (.invokespecial 84, 3) := rfl
theorem i_SD_early_43 : i_SD_early 43 = some (.athrow, 1) := rfl
theorem i_SD_early_44 : i_SD_early 44 = some (.aload_n 0, 1) := rfl
theorem i_SD_early_45 : i_SD_early 45 = some (.getfield 68, 3) := rfl
theorem i_SD_early_48 : i_SD_early 48 = some (.ifCond .eq 16, 3) := rfl
theorem i_SD_early_51 : i_SD_early 51 = some (.aload_n 0, 1) := rfl
theorem i_SD_early_52 : i_SD_early 52 = some (.getfield 33, 3) := rfl
theorem i_SD_early_55 : i_SD_early 55 = some (.getfield 179, 3) := rfl
theorem i_SD_early_58 : i_SD_early 58 = some (.sipush 200, 3) := rfl
theorem i_SD_early_61 : i_SD_early 61 = some (.if_icmp .lt 13, 3) := rfl
theorem i_SD_early_64 : i_SD_early 64 = some (.new 90, 3) := rfl
theorem i_SD_early_67 : i_SD_early 67 = some (.dup, 1) := rfl
theorem i_SD_early_68 : i_SD_early 68 = some (.ldc 180, 2) := rfl
theorem i_SD_early_70 : i_SD_early 70 = some (.invokespecial 94, 3) := rfl
theorem i_SD_early_73 : i_SD_early 73 = some (.athrow, 1) := rfl
theorem i_SD_early_74 : i_SD_early 74 = some (.aload_n 0, 1) := rfl
theorem i_SD_early_75 : i_SD_early 75 = some (.getfield 33, 3) := rfl
theorem i_SD_early_78 : i_SD_early 78 = some (.aload_n 0, 1) := rfl
theorem i_SD_early_79 : i_SD_early 79 = some (.getfield 72, 3) := rfl
theorem i_SD_early_82 : i_SD_early 82 = some (.iload_n 1, 1) := rfl
theorem i_SD_early_83 : i_SD_early 83 = some (.iload_n 2, 1) := rfl
theorem i_SD_early_84 : i_SD_early 84 = some (.invokevirtual 182, 3) := rfl
theorem i_SD_early_87 : i_SD_early 87 = some (.aload_n 0, 1) := rfl
theorem i_SD_early_88 : i_SD_early 88 = some (.getfield 51, 3) := rfl
theorem i_SD_early_91 : i_SD_early 91 = some (.getfield 166, 3) := rfl
theorem i_SD_early_94 : i_SD_early 94 = some (.iload_n 1, 1) := rfl
theorem i_SD_early_95 : i_SD_early 95 = some (.iload_n 2, 1) := rfl
theorem i_SD_early_96 : i_SD_early 96 = some (.invokevirtual 184, 3) := rfl
theorem i_SD_early_99 : i_SD_early 99 = some (.return_, 1) := rfl
abbrev w_SD_early : List Jvm.Cond := Jvm.Cond.code y_SD_early b_SD_early 3 none :: vw_W
theorem c_SD_early : Jvm.Cond.code y_SD_early b_SD_early 3 none ∈ vw_W := vw_t 686 (by decide +kernel) (by decide +kernel)
abbrev r_SD_early : Room := { frames := 6, cells := 0, slots := 0, locals := 100 }
abbrev b_EL_add : ByteArray := prog_4_method_2_code
abbrev y_EL_add : MethodName := ⟨"ServerDesk$EarlyLog", "add", "(III)V"⟩
def q_EL_add : List (Nat × Instr × Nat) := [(0, .aload_n 0, 1), (1, .getfield 21, 3), (4, .sipush 200, 3), (7, .if_icmp .ge 43, 3), (10, .aload_n 0, 1), (11, .getfield 9, 3), (14, .aload_n 0, 1), (15, .getfield 21, 3), (18, .iload_n 1, 1), (19, .iastore, 1), (20, .aload_n 0, 1), (21, .getfield 15, 3), (24, .aload_n 0, 1), (25, .getfield 21, 3), (28, .iload_n 2, 1), (29, .iastore, 1), (30, .aload_n 0, 1), (31, .getfield 18, 3), (34, .aload_n 0, 1), (35, .getfield 21, 3), (38, .iload_n 3, 1), (39, .iastore, 1), (40, .aload_n 0, 1), (41, .dup, 1), (42, .getfield 21, 3), (45, .iconst 1, 1), (46, .iadd, 1), (47, .putfield 21, 3), (50, .return_, 1)]
def i_EL_add : Nat → Option (Instr × Nat) := am_find q_EL_add
theorem d_EL_add_0 : decode b_EL_add 0 = .ok (.aload_n 0, 1) := by decide +kernel
theorem d_EL_add_1 : decode b_EL_add 1 = .ok (.getfield 21, 3) := by decide +kernel
theorem d_EL_add_4 : decode b_EL_add 4 = .ok (.sipush 200, 3) := by decide +kernel
theorem d_EL_add_7 : decode b_EL_add 7 = .ok (.if_icmp .ge 43, 3) := by decide +kernel
theorem d_EL_add_10 : decode b_EL_add 10 = .ok (.aload_n 0, 1) := by decide +kernel
theorem d_EL_add_11 : decode b_EL_add 11 = .ok (.getfield 9, 3) := by decide +kernel
theorem d_EL_add_14 : decode b_EL_add 14 = .ok (.aload_n 0, 1) := by decide +kernel
theorem d_EL_add_15 : decode b_EL_add 15 = .ok (.getfield 21, 3) := by decide +kernel
theorem d_EL_add_18 : decode b_EL_add 18 = .ok (.iload_n 1, 1) := by decide +kernel
theorem d_EL_add_19 : decode b_EL_add 19 = .ok (.iastore, 1) := by decide +kernel
theorem d_EL_add_20 : decode b_EL_add 20 = .ok (.aload_n 0, 1) := by decide +kernel
theorem d_EL_add_21 : decode b_EL_add 21 = .ok (.getfield 15, 3) := by decide +kernel
theorem d_EL_add_24 : decode b_EL_add 24 = .ok (.aload_n 0, 1) := by decide +kernel
theorem d_EL_add_25 : decode b_EL_add 25 = .ok (.getfield 21, 3) := by decide +kernel
theorem d_EL_add_28 : decode b_EL_add 28 = .ok (.iload_n 2, 1) := by decide +kernel
theorem d_EL_add_29 : decode b_EL_add 29 = .ok (.iastore, 1) := by decide +kernel
theorem d_EL_add_30 : decode b_EL_add 30 = .ok (.aload_n 0, 1) := by decide +kernel
theorem d_EL_add_31 : decode b_EL_add 31 = .ok (.getfield 18, 3) := by decide +kernel
theorem d_EL_add_34 : decode b_EL_add 34 = .ok (.aload_n 0, 1) := by decide +kernel
theorem d_EL_add_35 : decode b_EL_add 35 = .ok (.getfield 21, 3) := by decide +kernel
theorem d_EL_add_38 : decode b_EL_add 38 = .ok (.iload_n 3, 1) := by decide +kernel
theorem d_EL_add_39 : decode b_EL_add 39 = .ok (.iastore, 1) := by decide +kernel
theorem d_EL_add_40 : decode b_EL_add 40 = .ok (.aload_n 0, 1) := by decide +kernel
theorem d_EL_add_41 : decode b_EL_add 41 = .ok (.dup, 1) := by decide +kernel
theorem d_EL_add_42 : decode b_EL_add 42 = .ok (.getfield 21, 3) := by decide +kernel
theorem d_EL_add_45 : decode b_EL_add 45 = .ok (.iconst 1, 1) := by decide +kernel
theorem d_EL_add_46 : decode b_EL_add 46 = .ok (.iadd, 1) := by decide +kernel
theorem d_EL_add_47 : decode b_EL_add 47 = .ok (.putfield 21, 3) := by decide +kernel
theorem d_EL_add_50 : decode b_EL_add 50 = .ok (.return_, 1) := by decide +kernel
theorem d_EL_add : ∀ z ∈ q_EL_add, decode b_EL_add z.1 = .ok z.2 := List.forall_mem_cons.mpr ⟨d_EL_add_0, List.forall_mem_cons.mpr ⟨d_EL_add_1, List.forall_mem_cons.mpr ⟨d_EL_add_4, List.forall_mem_cons.mpr ⟨d_EL_add_7, List.forall_mem_cons.mpr ⟨d_EL_add_10, List.forall_mem_cons.mpr ⟨d_EL_add_11, List.forall_mem_cons.mpr ⟨d_EL_add_14, List.forall_mem_cons.mpr ⟨d_EL_add_15, List.forall_mem_cons.mpr ⟨d_EL_add_18, List.forall_mem_cons.mpr ⟨d_EL_add_19, List.forall_mem_cons.mpr ⟨d_EL_add_20, List.forall_mem_cons.mpr ⟨d_EL_add_21, List.forall_mem_cons.mpr ⟨d_EL_add_24, List.forall_mem_cons.mpr ⟨d_EL_add_25, List.forall_mem_cons.mpr ⟨d_EL_add_28, List.forall_mem_cons.mpr ⟨d_EL_add_29, List.forall_mem_cons.mpr ⟨d_EL_add_30, List.forall_mem_cons.mpr ⟨d_EL_add_31, List.forall_mem_cons.mpr ⟨d_EL_add_34, List.forall_mem_cons.mpr ⟨d_EL_add_35, List.forall_mem_cons.mpr ⟨d_EL_add_38, List.forall_mem_cons.mpr ⟨d_EL_add_39, List.forall_mem_cons.mpr ⟨d_EL_add_40, List.forall_mem_cons.mpr ⟨d_EL_add_41, List.forall_mem_cons.mpr ⟨d_EL_add_42, List.forall_mem_cons.mpr ⟨d_EL_add_45, List.forall_mem_cons.mpr ⟨d_EL_add_46, List.forall_mem_cons.mpr ⟨d_EL_add_47, List.forall_mem_cons.mpr ⟨d_EL_add_50, fun _ h => absurd h List.not_mem_nil⟩⟩⟩⟩⟩⟩⟩⟩⟩⟩⟩⟩⟩⟩⟩⟩⟩⟩⟩⟩⟩⟩⟩⟩⟩⟩⟩⟩⟩
theorem i_EL_add_ok : ∀ pc i n, i_EL_add pc = some (i, n) → decode b_EL_add pc = .ok (i, n) := fun pc i n h => d_EL_add (pc, i, n) (am_find_mem h)
theorem i_EL_add_0 : i_EL_add 0 = some (.aload_n 0, 1) := rfl
theorem i_EL_add_1 : i_EL_add 1 = some (.getfield 21, 3) := rfl
theorem i_EL_add_4 : i_EL_add 4 = some (.sipush 200, 3) := rfl
theorem i_EL_add_7 : i_EL_add 7 = some (.if_icmp .ge 43, 3) := rfl
theorem i_EL_add_10 : i_EL_add 10 = some (.aload_n 0, 1) := rfl
theorem i_EL_add_11 : i_EL_add 11 = some (.getfield 9, 3) := rfl
theorem i_EL_add_14 : i_EL_add 14 = some (.aload_n 0, 1) := rfl
theorem i_EL_add_15 : i_EL_add 15 = some (.getfield 21, 3) := rfl
theorem i_EL_add_18 : i_EL_add 18 = some (.iload_n 1, 1) := rfl
theorem i_EL_add_19 : i_EL_add 19 = some (.iastore, 1) := rfl
theorem i_EL_add_20 : i_EL_add 20 = some (.aload_n 0, 1) := rfl
theorem i_EL_add_21 : i_EL_add 21 = some (.getfield 15, 3) := rfl
theorem i_EL_add_24 : i_EL_add 24 = some (.aload_n 0, 1) := rfl
theorem i_EL_add_25 : i_EL_add 25 = some (.getfield 21, 3) := rfl
theorem i_EL_add_28 : i_EL_add 28 = some (.iload_n 2, 1) := rfl
theorem i_EL_add_29 : i_EL_add 29 = some (.iastore, 1) := rfl
theorem i_EL_add_30 : i_EL_add 30 = some (.aload_n 0, 1) := rfl
theorem i_EL_add_31 : i_EL_add 31 = some (.getfield 18, 3) := rfl
theorem i_EL_add_34 : i_EL_add 34 = some (.aload_n 0, 1) := rfl
theorem i_EL_add_35 : i_EL_add 35 = some (.getfield 21, 3) := rfl
theorem i_EL_add_38 : i_EL_add 38 = some (.iload_n 3, 1) := rfl
theorem i_EL_add_39 : i_EL_add 39 = some (.iastore, 1) := rfl
theorem i_EL_add_40 : i_EL_add 40 = some (.aload_n 0, 1) := rfl
theorem i_EL_add_41 : i_EL_add 41 = some (.dup, 1) := rfl
theorem i_EL_add_42 : i_EL_add 42 = some (.getfield 21, 3) := rfl
theorem i_EL_add_45 : i_EL_add 45 = some (.iconst 1, 1) := rfl
theorem i_EL_add_46 : i_EL_add 46 = some (.iadd, 1) := rfl
theorem i_EL_add_47 : i_EL_add 47 = some (.putfield 21, 3) := rfl
theorem i_EL_add_50 : i_EL_add 50 = some (.return_, 1) := rfl
abbrev w_EL_add : List Jvm.Cond := Jvm.Cond.code y_EL_add b_EL_add 4 none :: vw_W
theorem c_EL_add : Jvm.Cond.code y_EL_add b_EL_add 4 none ∈ vw_W := vw_t 692 (by decide +kernel) (by decide +kernel)
abbrev r_EL_add : Room := { frames := 0, cells := 0, slots := 0, locals := 0 }
abbrev b_LO_shorten : ByteArray := prog_6_method_4_code
abbrev y_LO_shorten : MethodName := ⟨"ServerDesk$Load", "shorten", "(II)V"⟩
def q_LO_shorten : List (Nat × Instr × Nat) := [(0, .iload_n 1, 1), (1, .iconst 0, 1), (2, .aload_n 0, 1), (3, .getfield 24, 3), (6, .getfield 28, 3), (9, .iconst 1, 1), (10, .isub, 1), (11, .invokestatic 40, 3), (14, .ifCond .eq 19, 3), (17, .aload_n 0, 1), (18, .getfield 15, 3), (21, .iload_n 1, 1), (22, .aload_n 0, 1), (23, .getfield 15, 3), (26, .iload_n 1, 1), (27, .iaload, 1), (28, .iload_n 2, 1), (29, .invokestatic 44, 3), (32, .iastore, 1), (33, .return_, 1)]
def i_LO_shorten : Nat → Option (Instr × Nat) := am_find q_LO_shorten
theorem d_LO_shorten_0 : decode b_LO_shorten 0 = .ok (.iload_n 1, 1) := by decide +kernel
theorem d_LO_shorten_1 : decode b_LO_shorten 1 = .ok (.iconst 0, 1) := by decide +kernel
theorem d_LO_shorten_2 : decode b_LO_shorten 2 = .ok (.aload_n 0, 1) := by decide +kernel
theorem d_LO_shorten_3 : decode b_LO_shorten 3 = .ok (.getfield 24, 3) := by decide +kernel
theorem d_LO_shorten_6 : decode b_LO_shorten 6 = .ok (.getfield 28, 3) := by decide +kernel
theorem d_LO_shorten_9 : decode b_LO_shorten 9 = .ok (.iconst 1, 1) := by decide +kernel
theorem d_LO_shorten_10 : decode b_LO_shorten 10 = .ok (.isub, 1) := by decide +kernel
theorem d_LO_shorten_11 : decode b_LO_shorten 11 = .ok (.invokestatic 40, 3) := by decide +kernel
theorem d_LO_shorten_14 : decode b_LO_shorten 14 = .ok (.ifCond .eq 19, 3) := by decide +kernel
theorem d_LO_shorten_17 : decode b_LO_shorten 17 = .ok (.aload_n 0, 1) := by decide +kernel
theorem d_LO_shorten_18 : decode b_LO_shorten 18 = .ok (.getfield 15, 3) := by decide +kernel
theorem d_LO_shorten_21 : decode b_LO_shorten 21 = .ok (.iload_n 1, 1) := by decide +kernel
theorem d_LO_shorten_22 : decode b_LO_shorten 22 = .ok (.aload_n 0, 1) := by decide +kernel
theorem d_LO_shorten_23 : decode b_LO_shorten 23 = .ok (.getfield 15, 3) := by decide +kernel
theorem d_LO_shorten_26 : decode b_LO_shorten 26 = .ok (.iload_n 1, 1) := by decide +kernel
theorem d_LO_shorten_27 : decode b_LO_shorten 27 = .ok (.iaload, 1) := by decide +kernel
theorem d_LO_shorten_28 : decode b_LO_shorten 28 = .ok (.iload_n 2, 1) := by decide +kernel
theorem d_LO_shorten_29 : decode b_LO_shorten 29 = .ok (.invokestatic 44, 3) := by decide +kernel
theorem d_LO_shorten_32 : decode b_LO_shorten 32 = .ok (.iastore, 1) := by decide +kernel
theorem d_LO_shorten_33 : decode b_LO_shorten 33 = .ok (.return_, 1) := by decide +kernel
theorem d_LO_shorten : ∀ z ∈ q_LO_shorten, decode b_LO_shorten z.1 = .ok z.2 := List.forall_mem_cons.mpr ⟨d_LO_shorten_0, List.forall_mem_cons.mpr ⟨d_LO_shorten_1, List.forall_mem_cons.mpr ⟨d_LO_shorten_2, List.forall_mem_cons.mpr ⟨d_LO_shorten_3, List.forall_mem_cons.mpr ⟨d_LO_shorten_6, List.forall_mem_cons.mpr ⟨d_LO_shorten_9, List.forall_mem_cons.mpr ⟨d_LO_shorten_10, List.forall_mem_cons.mpr ⟨d_LO_shorten_11, List.forall_mem_cons.mpr ⟨d_LO_shorten_14, List.forall_mem_cons.mpr ⟨d_LO_shorten_17, List.forall_mem_cons.mpr ⟨d_LO_shorten_18, List.forall_mem_cons.mpr ⟨d_LO_shorten_21, List.forall_mem_cons.mpr ⟨d_LO_shorten_22, List.forall_mem_cons.mpr ⟨d_LO_shorten_23, List.forall_mem_cons.mpr ⟨d_LO_shorten_26, List.forall_mem_cons.mpr ⟨d_LO_shorten_27, List.forall_mem_cons.mpr ⟨d_LO_shorten_28, List.forall_mem_cons.mpr ⟨d_LO_shorten_29, List.forall_mem_cons.mpr ⟨d_LO_shorten_32, List.forall_mem_cons.mpr ⟨d_LO_shorten_33, fun _ h => absurd h List.not_mem_nil⟩⟩⟩⟩⟩⟩⟩⟩⟩⟩⟩⟩⟩⟩⟩⟩⟩⟩⟩⟩
theorem i_LO_shorten_ok : ∀ pc i n, i_LO_shorten pc = some (i, n) → decode b_LO_shorten pc = .ok (i, n) := fun pc i n h => d_LO_shorten (pc, i, n) (am_find_mem h)
theorem i_LO_shorten_0 : i_LO_shorten 0 = some (.iload_n 1, 1) := rfl
theorem i_LO_shorten_1 : i_LO_shorten 1 = some (.iconst 0, 1) := rfl
theorem i_LO_shorten_2 : i_LO_shorten 2 = some (.aload_n 0, 1) := rfl
theorem i_LO_shorten_3 : i_LO_shorten 3 = some (.getfield 24, 3) := rfl
theorem i_LO_shorten_6 : i_LO_shorten 6 = some (.getfield 28, 3) := rfl
theorem i_LO_shorten_9 : i_LO_shorten 9 = some (.iconst 1, 1) := rfl
theorem i_LO_shorten_10 : i_LO_shorten 10 = some (.isub, 1) := rfl
theorem i_LO_shorten_11 : i_LO_shorten 11 = some (.invokestatic 40, 3) := rfl
theorem i_LO_shorten_14 : i_LO_shorten 14 = some (.ifCond .eq 19, 3) := rfl
theorem i_LO_shorten_17 : i_LO_shorten 17 = some (.aload_n 0, 1) := rfl
theorem i_LO_shorten_18 : i_LO_shorten 18 = some (.getfield 15, 3) := rfl
theorem i_LO_shorten_21 : i_LO_shorten 21 = some (.iload_n 1, 1) := rfl
theorem i_LO_shorten_22 : i_LO_shorten 22 = some (.aload_n 0, 1) := rfl
theorem i_LO_shorten_23 : i_LO_shorten 23 = some (.getfield 15, 3) := rfl
theorem i_LO_shorten_26 : i_LO_shorten 26 = some (.iload_n 1, 1) := rfl
theorem i_LO_shorten_27 : i_LO_shorten 27 = some (.iaload, 1) := rfl
theorem i_LO_shorten_28 : i_LO_shorten 28 = some (.iload_n 2, 1) := rfl
theorem i_LO_shorten_29 : i_LO_shorten 29 = some (.invokestatic 44, 3) := rfl
theorem i_LO_shorten_32 : i_LO_shorten 32 = some (.iastore, 1) := rfl
theorem i_LO_shorten_33 : i_LO_shorten 33 = some (.return_, 1) := rfl
abbrev w_LO_shorten : List Jvm.Cond := Jvm.Cond.code y_LO_shorten b_LO_shorten 3 none :: vw_W
theorem c_LO_shorten : Jvm.Cond.code y_LO_shorten b_LO_shorten 3 none ∈ vw_W := vw_t 696 (by decide +kernel) (by decide +kernel)
abbrev r_LO_shorten : Room := { frames := 1, cells := 0, slots := 0, locals := 22 }
abbrev b_LW_ended : ByteArray := method_10_code
abbrev y_LW_ended : MethodName := ⟨"ServerDeskLaw", "ended", "(LServerDesk;I[J)I"⟩
def q_LW_ended : List (Nat × Instr × Nat) := [(0, .aload_n 2, 1), (1, .iconst 0, 1), (2, .aload_n 0, 1), (3, .iload_n 1, 1), (4, .invokevirtual 41, 3), (7, .i2l, 1), (8, .lastore, 1), (9, .goto 6, 3), (12, .astore_n 3, 1), (13, .iconst 1, 1), (14, .ireturn, 1), (15, .iconst 0, 1), (16, .ireturn, 1)]
def i_LW_ended : Nat → Option (Instr × Nat) := am_find q_LW_ended
theorem d_LW_ended_0 : decode b_LW_ended 0 = .ok (.aload_n 2, 1) := by decide +kernel
theorem d_LW_ended_1 : decode b_LW_ended 1 = .ok (.iconst 0, 1) := by decide +kernel
theorem d_LW_ended_2 : decode b_LW_ended 2 = .ok (.aload_n 0, 1) := by decide +kernel
theorem d_LW_ended_3 : decode b_LW_ended 3 = .ok (.iload_n 1, 1) := by decide +kernel
theorem d_LW_ended_4 : decode b_LW_ended 4 = .ok (.invokevirtual 41, 3) := by decide +kernel
theorem d_LW_ended_7 : decode b_LW_ended 7 = .ok (.i2l, 1) := by decide +kernel
theorem d_LW_ended_8 : decode b_LW_ended 8 = .ok (.lastore, 1) := by decide +kernel
theorem d_LW_ended_9 : decode b_LW_ended 9 = .ok (.goto 6, 3) := by decide +kernel
theorem d_LW_ended_12 : decode b_LW_ended 12 = .ok (.astore_n 3, 1) := by decide +kernel
theorem d_LW_ended_13 : decode b_LW_ended 13 = .ok (.iconst 1, 1) := by decide +kernel
theorem d_LW_ended_14 : decode b_LW_ended 14 = .ok (.ireturn, 1) := by decide +kernel
theorem d_LW_ended_15 : decode b_LW_ended 15 = .ok (.iconst 0, 1) := by decide +kernel
theorem d_LW_ended_16 : decode b_LW_ended 16 = .ok (.ireturn, 1) := by decide +kernel
theorem d_LW_ended : ∀ z ∈ q_LW_ended, decode b_LW_ended z.1 = .ok z.2 := List.forall_mem_cons.mpr ⟨d_LW_ended_0, List.forall_mem_cons.mpr ⟨d_LW_ended_1, List.forall_mem_cons.mpr ⟨d_LW_ended_2, List.forall_mem_cons.mpr ⟨d_LW_ended_3, List.forall_mem_cons.mpr ⟨d_LW_ended_4, List.forall_mem_cons.mpr ⟨d_LW_ended_7, List.forall_mem_cons.mpr ⟨d_LW_ended_8, List.forall_mem_cons.mpr ⟨d_LW_ended_9, List.forall_mem_cons.mpr ⟨d_LW_ended_12, List.forall_mem_cons.mpr ⟨d_LW_ended_13, List.forall_mem_cons.mpr ⟨d_LW_ended_14, List.forall_mem_cons.mpr ⟨d_LW_ended_15, List.forall_mem_cons.mpr ⟨d_LW_ended_16, fun _ h => absurd h List.not_mem_nil⟩⟩⟩⟩⟩⟩⟩⟩⟩⟩⟩⟩⟩
theorem i_LW_ended_ok : ∀ pc i n, i_LW_ended pc = some (i, n) → decode b_LW_ended pc = .ok (i, n) := fun pc i n h => d_LW_ended (pc, i, n) (am_find_mem h)
theorem i_LW_ended_0 : i_LW_ended 0 = some (.aload_n 2, 1) := rfl
theorem i_LW_ended_1 : i_LW_ended 1 = some (.iconst 0, 1) := rfl
theorem i_LW_ended_2 : i_LW_ended 2 = some (.aload_n 0, 1) := rfl
theorem i_LW_ended_3 : i_LW_ended 3 = some (.iload_n 1, 1) := rfl
theorem i_LW_ended_4 : i_LW_ended 4 = some (.invokevirtual 41, 3) := rfl
theorem i_LW_ended_7 : i_LW_ended 7 = some (.i2l, 1) := rfl
theorem i_LW_ended_8 : i_LW_ended 8 = some (.lastore, 1) := rfl
theorem i_LW_ended_9 : i_LW_ended 9 = some (.goto 6, 3) := rfl
theorem i_LW_ended_12 : i_LW_ended 12 = some (.astore_n 3, 1) := rfl
theorem i_LW_ended_13 : i_LW_ended 13 = some (.iconst 1, 1) := rfl
theorem i_LW_ended_14 : i_LW_ended 14 = some (.ireturn, 1) := rfl
theorem i_LW_ended_15 : i_LW_ended 15 = some (.iconst 0, 1) := rfl
theorem i_LW_ended_16 : i_LW_ended 16 = some (.ireturn, 1) := rfl
abbrev b_SD_ended : ByteArray := prog_1_method_9_code
abbrev y_SD_ended : MethodName := ⟨"ServerDesk", "ended", "(I)I"⟩
def q_SD_ended : List (Nat × Instr × Nat) := [(0, .iload_n 1, 1), (1, .iconst 0, 1), (2, .aload_n 0, 1), (3, .getfield 26, 3), (6, .getfield 145, 3), (9, .iconst 1, 1), (10, .isub, 1), (11, .invokestatic 76, 3), (14, .ifCond .ne 13, 3), (17, .new 190, 3), (20, .dup, 1), (21, .ldc 192, 2), (23, .invokespecial 194, 3), (26, .athrow, 1), (27, .aload_n 0, 1), (28, .getfield 51, 3), (31, .getfield 156, 3), (34, .getfield 195, 3), (37, .iload_n 1, 1), (38, .iaload, 1), (39, .ireturn, 1)]
def i_SD_ended : Nat → Option (Instr × Nat) := am_find q_SD_ended
theorem d_SD_ended_0 : decode b_SD_ended 0 = .ok (.iload_n 1, 1) := by decide +kernel
theorem d_SD_ended_1 : decode b_SD_ended 1 = .ok (.iconst 0, 1) := by decide +kernel
theorem d_SD_ended_2 : decode b_SD_ended 2 = .ok (.aload_n 0, 1) := by decide +kernel
theorem d_SD_ended_3 : decode b_SD_ended 3 = .ok (.getfield 26, 3) := by decide +kernel
theorem d_SD_ended_6 : decode b_SD_ended 6 = .ok (.getfield 145, 3) := by decide +kernel
theorem d_SD_ended_9 : decode b_SD_ended 9 = .ok (.iconst 1, 1) := by decide +kernel
theorem d_SD_ended_10 : decode b_SD_ended 10 = .ok (.isub, 1) := by decide +kernel
theorem d_SD_ended_11 : decode b_SD_ended 11 = .ok (.invokestatic 76, 3) := by decide +kernel
theorem d_SD_ended_14 : decode b_SD_ended 14 = .ok (.ifCond .ne 13, 3) := by decide +kernel
theorem d_SD_ended_17 : decode b_SD_ended 17 = .ok (.new 190, 3) := by decide +kernel
theorem d_SD_ended_20 : decode b_SD_ended 20 = .ok (.dup, 1) := by decide +kernel
theorem d_SD_ended_21 : decode b_SD_ended 21 = .ok (.ldc 192, 2) := by decide +kernel
theorem d_SD_ended_23 : decode b_SD_ended 23 = .ok (.invokespecial 194, 3) := by decide +kernel
theorem d_SD_ended_26 : decode b_SD_ended 26 = .ok (.athrow, 1) := by decide +kernel
theorem d_SD_ended_27 : decode b_SD_ended 27 = .ok (.aload_n 0, 1) := by decide +kernel
theorem d_SD_ended_28 : decode b_SD_ended 28 = .ok (.getfield 51, 3) := by decide +kernel
theorem d_SD_ended_31 : decode b_SD_ended 31 = .ok (.getfield 156, 3) := by decide +kernel
theorem d_SD_ended_34 : decode b_SD_ended 34 = .ok (.getfield 195, 3) := by decide +kernel
theorem d_SD_ended_37 : decode b_SD_ended 37 = .ok (.iload_n 1, 1) := by decide +kernel
theorem d_SD_ended_38 : decode b_SD_ended 38 = .ok (.iaload, 1) := by decide +kernel
theorem d_SD_ended_39 : decode b_SD_ended 39 = .ok (.ireturn, 1) := by decide +kernel
theorem d_SD_ended : ∀ z ∈ q_SD_ended, decode b_SD_ended z.1 = .ok z.2 := List.forall_mem_cons.mpr ⟨d_SD_ended_0, List.forall_mem_cons.mpr ⟨d_SD_ended_1, List.forall_mem_cons.mpr ⟨d_SD_ended_2, List.forall_mem_cons.mpr ⟨d_SD_ended_3, List.forall_mem_cons.mpr ⟨d_SD_ended_6, List.forall_mem_cons.mpr ⟨d_SD_ended_9, List.forall_mem_cons.mpr ⟨d_SD_ended_10, List.forall_mem_cons.mpr ⟨d_SD_ended_11, List.forall_mem_cons.mpr ⟨d_SD_ended_14, List.forall_mem_cons.mpr ⟨d_SD_ended_17, List.forall_mem_cons.mpr ⟨d_SD_ended_20, List.forall_mem_cons.mpr ⟨d_SD_ended_21, List.forall_mem_cons.mpr ⟨d_SD_ended_23, List.forall_mem_cons.mpr ⟨d_SD_ended_26, List.forall_mem_cons.mpr ⟨d_SD_ended_27, List.forall_mem_cons.mpr ⟨d_SD_ended_28, List.forall_mem_cons.mpr ⟨d_SD_ended_31, List.forall_mem_cons.mpr ⟨d_SD_ended_34, List.forall_mem_cons.mpr ⟨d_SD_ended_37, List.forall_mem_cons.mpr ⟨d_SD_ended_38, List.forall_mem_cons.mpr ⟨d_SD_ended_39, fun _ h => absurd h List.not_mem_nil⟩⟩⟩⟩⟩⟩⟩⟩⟩⟩⟩⟩⟩⟩⟩⟩⟩⟩⟩⟩⟩
theorem i_SD_ended_ok : ∀ pc i n, i_SD_ended pc = some (i, n) → decode b_SD_ended pc = .ok (i, n) := fun pc i n h => d_SD_ended (pc, i, n) (am_find_mem h)
theorem i_SD_ended_0 : i_SD_ended 0 = some (.iload_n 1, 1) := rfl
theorem i_SD_ended_1 : i_SD_ended 1 = some (.iconst 0, 1) := rfl
theorem i_SD_ended_2 : i_SD_ended 2 = some (.aload_n 0, 1) := rfl
theorem i_SD_ended_3 : i_SD_ended 3 = some (.getfield 26, 3) := rfl
theorem i_SD_ended_6 : i_SD_ended 6 = some (.getfield 145, 3) := rfl
theorem i_SD_ended_9 : i_SD_ended 9 = some (.iconst 1, 1) := rfl
theorem i_SD_ended_10 : i_SD_ended 10 = some (.isub, 1) := rfl
theorem i_SD_ended_11 : i_SD_ended 11 = some (.invokestatic 76, 3) := rfl
theorem i_SD_ended_14 : i_SD_ended 14 = some (.ifCond .ne 13, 3) := rfl
theorem i_SD_ended_17 : i_SD_ended 17 = some (.new 190, 3) := rfl
theorem i_SD_ended_20 : i_SD_ended 20 = some (.dup, 1) := rfl
theorem i_SD_ended_21 : i_SD_ended 21 = some (.ldc 192, 2) := rfl
theorem i_SD_ended_23 : i_SD_ended 23 = some (.invokespecial 194, 3) := rfl
theorem i_SD_ended_26 : i_SD_ended 26 = some (.athrow, 1) := rfl
theorem i_SD_ended_27 : i_SD_ended 27 = some (.aload_n 0, 1) := rfl
theorem i_SD_ended_28 : i_SD_ended 28 = some (.getfield 51, 3) := rfl
theorem i_SD_ended_31 : i_SD_ended 31 = some (.getfield 156, 3) := rfl
theorem i_SD_ended_34 : i_SD_ended 34 = some (.getfield 195, 3) := rfl
theorem i_SD_ended_37 : i_SD_ended 37 = some (.iload_n 1, 1) := rfl
theorem i_SD_ended_38 : i_SD_ended 38 = some (.iaload, 1) := rfl
theorem i_SD_ended_39 : i_SD_ended 39 = some (.ireturn, 1) := rfl
abbrev w_SD_ended : List Jvm.Cond := Jvm.Cond.code y_SD_ended b_SD_ended 2 (some .int) :: vw_W
theorem c_SD_ended : Jvm.Cond.code y_SD_ended b_SD_ended 2 (some .int) ∈ vw_W := vw_t 705 (by decide +kernel) (by decide +kernel)
abbrev r_SD_ended : Room := { frames := 6, cells := 0, slots := 0, locals := 100 }
abbrev b_LW_slack : ByteArray := method_11_code
abbrev y_LW_slack : MethodName := ⟨"ServerDeskLaw", "slack", "(LServerDesk;[J)I"⟩
def q_LW_slack : List (Nat × Instr × Nat) := [(0, .aload_n 1, 1), (1, .iconst 0, 1), (2, .aload_n 0, 1), (3, .invokevirtual 46, 3), (6, .i2l, 1), (7, .lastore, 1), (8, .goto 6, 3), (11, .astore_n 2, 1), (12, .iconst 1, 1), (13, .ireturn, 1), (14, .iconst 0, 1), (15, .ireturn, 1)]
def i_LW_slack : Nat → Option (Instr × Nat) := am_find q_LW_slack
theorem d_LW_slack_0 : decode b_LW_slack 0 = .ok (.aload_n 1, 1) := by decide +kernel
theorem d_LW_slack_1 : decode b_LW_slack 1 = .ok (.iconst 0, 1) := by decide +kernel
theorem d_LW_slack_2 : decode b_LW_slack 2 = .ok (.aload_n 0, 1) := by decide +kernel
theorem d_LW_slack_3 : decode b_LW_slack 3 = .ok (.invokevirtual 46, 3) := by decide +kernel
theorem d_LW_slack_6 : decode b_LW_slack 6 = .ok (.i2l, 1) := by decide +kernel
theorem d_LW_slack_7 : decode b_LW_slack 7 = .ok (.lastore, 1) := by decide +kernel
theorem d_LW_slack_8 : decode b_LW_slack 8 = .ok (.goto 6, 3) := by decide +kernel
theorem d_LW_slack_11 : decode b_LW_slack 11 = .ok (.astore_n 2, 1) := by decide +kernel
theorem d_LW_slack_12 : decode b_LW_slack 12 = .ok (.iconst 1, 1) := by decide +kernel
theorem d_LW_slack_13 : decode b_LW_slack 13 = .ok (.ireturn, 1) := by decide +kernel
theorem d_LW_slack_14 : decode b_LW_slack 14 = .ok (.iconst 0, 1) := by decide +kernel
theorem d_LW_slack_15 : decode b_LW_slack 15 = .ok (.ireturn, 1) := by decide +kernel
theorem d_LW_slack : ∀ z ∈ q_LW_slack, decode b_LW_slack z.1 = .ok z.2 := List.forall_mem_cons.mpr ⟨d_LW_slack_0, List.forall_mem_cons.mpr ⟨d_LW_slack_1, List.forall_mem_cons.mpr ⟨d_LW_slack_2, List.forall_mem_cons.mpr ⟨d_LW_slack_3, List.forall_mem_cons.mpr ⟨d_LW_slack_6, List.forall_mem_cons.mpr ⟨d_LW_slack_7, List.forall_mem_cons.mpr ⟨d_LW_slack_8, List.forall_mem_cons.mpr ⟨d_LW_slack_11, List.forall_mem_cons.mpr ⟨d_LW_slack_12, List.forall_mem_cons.mpr ⟨d_LW_slack_13, List.forall_mem_cons.mpr ⟨d_LW_slack_14, List.forall_mem_cons.mpr ⟨d_LW_slack_15, fun _ h => absurd h List.not_mem_nil⟩⟩⟩⟩⟩⟩⟩⟩⟩⟩⟩⟩
theorem i_LW_slack_ok : ∀ pc i n, i_LW_slack pc = some (i, n) → decode b_LW_slack pc = .ok (i, n) := fun pc i n h => d_LW_slack (pc, i, n) (am_find_mem h)
theorem i_LW_slack_0 : i_LW_slack 0 = some (.aload_n 1, 1) := rfl
theorem i_LW_slack_1 : i_LW_slack 1 = some (.iconst 0, 1) := rfl
theorem i_LW_slack_2 : i_LW_slack 2 = some (.aload_n 0, 1) := rfl
theorem i_LW_slack_3 : i_LW_slack 3 = some (.invokevirtual 46, 3) := rfl
theorem i_LW_slack_6 : i_LW_slack 6 = some (.i2l, 1) := rfl
theorem i_LW_slack_7 : i_LW_slack 7 = some (.lastore, 1) := rfl
theorem i_LW_slack_8 : i_LW_slack 8 = some (.goto 6, 3) := rfl
theorem i_LW_slack_11 : i_LW_slack 11 = some (.astore_n 2, 1) := rfl
theorem i_LW_slack_12 : i_LW_slack 12 = some (.iconst 1, 1) := rfl
theorem i_LW_slack_13 : i_LW_slack 13 = some (.ireturn, 1) := rfl
theorem i_LW_slack_14 : i_LW_slack 14 = some (.iconst 0, 1) := rfl
theorem i_LW_slack_15 : i_LW_slack 15 = some (.ireturn, 1) := rfl
abbrev b_SD_slack : ByteArray := prog_1_method_10_code
abbrev y_SD_slack : MethodName := ⟨"ServerDesk", "slack", "()I"⟩
def q_SD_slack : List (Nat × Instr × Nat) := [(0, .aload_n 0, 1), (1, .getfield 68, 3), (4, .ifCond .ne 13, 3), (7, .new 90, 3), (10, .dup, 1), (11, .ldc 198, 2), (13, .invokespecial 94, 3), (16, .athrow, 1), (17, .aload_n 0, 1), (18, .getfield 42, 3), (21, .aload_n 0, 1), (22, .getfield 51, 3), (25, .getfield 166, 3), (28, .aload_n 0, 1), (29, .getfield 72, 3), (32, .sipush 1000, 3), (35, .invokevirtual 200, 3), (38, .ireturn, 1)]
def i_SD_slack : Nat → Option (Instr × Nat) := am_find q_SD_slack
theorem d_SD_slack_0 : decode b_SD_slack 0 = .ok (.aload_n 0, 1) := by decide +kernel
theorem d_SD_slack_1 : decode b_SD_slack 1 = .ok (.getfield 68, 3) := by decide +kernel
theorem d_SD_slack_4 : decode b_SD_slack 4 = .ok (.ifCond .ne 13, 3) := by decide +kernel
theorem d_SD_slack_7 : decode b_SD_slack 7 = .ok (.new 90, 3) := by decide +kernel
theorem d_SD_slack_10 : decode b_SD_slack 10 = .ok (.dup, 1) := by decide +kernel
theorem d_SD_slack_11 : decode b_SD_slack 11 = .ok (.ldc 198, 2) := by decide +kernel
theorem d_SD_slack_13 : decode b_SD_slack 13 = .ok (.invokespecial 94, 3) := by decide +kernel
theorem d_SD_slack_16 : decode b_SD_slack 16 = .ok (.athrow, 1) := by decide +kernel
theorem d_SD_slack_17 : decode b_SD_slack 17 = .ok (.aload_n 0, 1) := by decide +kernel
theorem d_SD_slack_18 : decode b_SD_slack 18 = .ok (.getfield 42, 3) := by decide +kernel
theorem d_SD_slack_21 : decode b_SD_slack 21 = .ok (.aload_n 0, 1) := by decide +kernel
theorem d_SD_slack_22 : decode b_SD_slack 22 = .ok (.getfield 51, 3) := by decide +kernel
theorem d_SD_slack_25 : decode b_SD_slack 25 = .ok (.getfield 166, 3) := by decide +kernel
theorem d_SD_slack_28 : decode b_SD_slack 28 = .ok (.aload_n 0, 1) := by decide +kernel
theorem d_SD_slack_29 : decode b_SD_slack 29 = .ok (.getfield 72, 3) := by decide +kernel
theorem d_SD_slack_32 : decode b_SD_slack 32 = .ok (.sipush 1000, 3) := by decide +kernel
theorem d_SD_slack_35 : decode b_SD_slack 35 = .ok (.invokevirtual 200, 3) := by decide +kernel
theorem d_SD_slack_38 : decode b_SD_slack 38 = .ok (.ireturn, 1) := by decide +kernel
theorem d_SD_slack : ∀ z ∈ q_SD_slack, decode b_SD_slack z.1 = .ok z.2 := List.forall_mem_cons.mpr ⟨d_SD_slack_0, List.forall_mem_cons.mpr ⟨d_SD_slack_1, List.forall_mem_cons.mpr ⟨d_SD_slack_4, List.forall_mem_cons.mpr ⟨d_SD_slack_7, List.forall_mem_cons.mpr ⟨d_SD_slack_10, List.forall_mem_cons.mpr ⟨d_SD_slack_11, List.forall_mem_cons.mpr ⟨d_SD_slack_13, List.forall_mem_cons.mpr ⟨d_SD_slack_16, List.forall_mem_cons.mpr ⟨d_SD_slack_17, List.forall_mem_cons.mpr ⟨d_SD_slack_18, List.forall_mem_cons.mpr ⟨d_SD_slack_21, List.forall_mem_cons.mpr ⟨d_SD_slack_22, List.forall_mem_cons.mpr ⟨d_SD_slack_25, List.forall_mem_cons.mpr ⟨d_SD_slack_28, List.forall_mem_cons.mpr ⟨d_SD_slack_29, List.forall_mem_cons.mpr ⟨d_SD_slack_32, List.forall_mem_cons.mpr ⟨d_SD_slack_35, List.forall_mem_cons.mpr ⟨d_SD_slack_38, fun _ h => absurd h List.not_mem_nil⟩⟩⟩⟩⟩⟩⟩⟩⟩⟩⟩⟩⟩⟩⟩⟩⟩⟩
theorem i_SD_slack_ok : ∀ pc i n, i_SD_slack pc = some (i, n) → decode b_SD_slack pc = .ok (i, n) := fun pc i n h => d_SD_slack (pc, i, n) (am_find_mem h)
theorem i_SD_slack_0 : i_SD_slack 0 = some (.aload_n 0, 1) := rfl
theorem i_SD_slack_1 : i_SD_slack 1 = some (.getfield 68, 3) := rfl
theorem i_SD_slack_4 : i_SD_slack 4 = some (.ifCond .ne 13, 3) := rfl
theorem i_SD_slack_7 : i_SD_slack 7 = some (.new 90, 3) := rfl
theorem i_SD_slack_10 : i_SD_slack 10 = some (.dup, 1) := rfl
theorem i_SD_slack_11 : i_SD_slack 11 = some (.ldc 198, 2) := rfl
theorem i_SD_slack_13 : i_SD_slack 13 = some (.invokespecial 94, 3) := rfl
theorem i_SD_slack_16 : i_SD_slack 16 = some (.athrow, 1) := rfl
theorem i_SD_slack_17 : i_SD_slack 17 = some (.aload_n 0, 1) := rfl
theorem i_SD_slack_18 : i_SD_slack 18 = some (.getfield 42, 3) := rfl
theorem i_SD_slack_21 : i_SD_slack 21 = some (.aload_n 0, 1) := rfl
theorem i_SD_slack_22 : i_SD_slack 22 = some (.getfield 51, 3) := rfl
theorem i_SD_slack_25 : i_SD_slack 25 = some (.getfield 166, 3) := rfl
theorem i_SD_slack_28 : i_SD_slack 28 = some (.aload_n 0, 1) := rfl
theorem i_SD_slack_29 : i_SD_slack 29 = some (.getfield 72, 3) := rfl
theorem i_SD_slack_32 : i_SD_slack 32 = some (.sipush 1000, 3) := rfl
theorem i_SD_slack_35 : i_SD_slack 35 = some (.invokevirtual 200, 3) := rfl
theorem i_SD_slack_38 : i_SD_slack 38 = some (.ireturn, 1) := rfl
abbrev w_SD_slack : List Jvm.Cond := Jvm.Cond.code y_SD_slack b_SD_slack 1 (some .int) :: vw_W
theorem c_SD_slack : Jvm.Cond.code y_SD_slack b_SD_slack 1 (some .int) ∈ vw_W := vw_t 728 (by decide +kernel) (by decide +kernel)
abbrev r_SD_slack : Room := { frames := 6, cells := 0, slots := 0, locals := 100 }
abbrev b_LW_trace : ByteArray := method_12_code
abbrev y_LW_trace : MethodName := ⟨"ServerDeskLaw", "trace", "(LServerDesk;I[J)I"⟩
def q_LW_trace : List (Nat × Instr × Nat) := [(0, .aload_n 2, 1), (1, .iconst 0, 1), (2, .aload_n 0, 1), (3, .iload_n 1, 1), (4, .invokevirtual 50, 3), (7, .i2l, 1), (8, .lastore, 1), (9, .goto 6, 3), (12, .astore_n 3, 1), (13, .iconst 1, 1), (14, .ireturn, 1), (15, .iconst 0, 1), (16, .ireturn, 1)]
def i_LW_trace : Nat → Option (Instr × Nat) := am_find q_LW_trace
theorem d_LW_trace_0 : decode b_LW_trace 0 = .ok (.aload_n 2, 1) := by decide +kernel
theorem d_LW_trace_1 : decode b_LW_trace 1 = .ok (.iconst 0, 1) := by decide +kernel
theorem d_LW_trace_2 : decode b_LW_trace 2 = .ok (.aload_n 0, 1) := by decide +kernel
theorem d_LW_trace_3 : decode b_LW_trace 3 = .ok (.iload_n 1, 1) := by decide +kernel
theorem d_LW_trace_4 : decode b_LW_trace 4 = .ok (.invokevirtual 50, 3) := by decide +kernel
theorem d_LW_trace_7 : decode b_LW_trace 7 = .ok (.i2l, 1) := by decide +kernel
theorem d_LW_trace_8 : decode b_LW_trace 8 = .ok (.lastore, 1) := by decide +kernel
theorem d_LW_trace_9 : decode b_LW_trace 9 = .ok (.goto 6, 3) := by decide +kernel
theorem d_LW_trace_12 : decode b_LW_trace 12 = .ok (.astore_n 3, 1) := by decide +kernel
theorem d_LW_trace_13 : decode b_LW_trace 13 = .ok (.iconst 1, 1) := by decide +kernel
theorem d_LW_trace_14 : decode b_LW_trace 14 = .ok (.ireturn, 1) := by decide +kernel
theorem d_LW_trace_15 : decode b_LW_trace 15 = .ok (.iconst 0, 1) := by decide +kernel
theorem d_LW_trace_16 : decode b_LW_trace 16 = .ok (.ireturn, 1) := by decide +kernel
theorem d_LW_trace : ∀ z ∈ q_LW_trace, decode b_LW_trace z.1 = .ok z.2 := List.forall_mem_cons.mpr ⟨d_LW_trace_0, List.forall_mem_cons.mpr ⟨d_LW_trace_1, List.forall_mem_cons.mpr ⟨d_LW_trace_2, List.forall_mem_cons.mpr ⟨d_LW_trace_3, List.forall_mem_cons.mpr ⟨d_LW_trace_4, List.forall_mem_cons.mpr ⟨d_LW_trace_7, List.forall_mem_cons.mpr ⟨d_LW_trace_8, List.forall_mem_cons.mpr ⟨d_LW_trace_9, List.forall_mem_cons.mpr ⟨d_LW_trace_12, List.forall_mem_cons.mpr ⟨d_LW_trace_13, List.forall_mem_cons.mpr ⟨d_LW_trace_14, List.forall_mem_cons.mpr ⟨d_LW_trace_15, List.forall_mem_cons.mpr ⟨d_LW_trace_16, fun _ h => absurd h List.not_mem_nil⟩⟩⟩⟩⟩⟩⟩⟩⟩⟩⟩⟩⟩
theorem i_LW_trace_ok : ∀ pc i n, i_LW_trace pc = some (i, n) → decode b_LW_trace pc = .ok (i, n) := fun pc i n h => d_LW_trace (pc, i, n) (am_find_mem h)
theorem i_LW_trace_0 : i_LW_trace 0 = some (.aload_n 2, 1) := rfl
theorem i_LW_trace_1 : i_LW_trace 1 = some (.iconst 0, 1) := rfl
theorem i_LW_trace_2 : i_LW_trace 2 = some (.aload_n 0, 1) := rfl
theorem i_LW_trace_3 : i_LW_trace 3 = some (.iload_n 1, 1) := rfl
theorem i_LW_trace_4 : i_LW_trace 4 = some (.invokevirtual 50, 3) := rfl
theorem i_LW_trace_7 : i_LW_trace 7 = some (.i2l, 1) := rfl
theorem i_LW_trace_8 : i_LW_trace 8 = some (.lastore, 1) := rfl
theorem i_LW_trace_9 : i_LW_trace 9 = some (.goto 6, 3) := rfl
theorem i_LW_trace_12 : i_LW_trace 12 = some (.astore_n 3, 1) := rfl
theorem i_LW_trace_13 : i_LW_trace 13 = some (.iconst 1, 1) := rfl
theorem i_LW_trace_14 : i_LW_trace 14 = some (.ireturn, 1) := rfl
theorem i_LW_trace_15 : i_LW_trace 15 = some (.iconst 0, 1) := rfl
theorem i_LW_trace_16 : i_LW_trace 16 = some (.ireturn, 1) := rfl
abbrev b_SD_trace : ByteArray := prog_1_method_11_code
abbrev y_SD_trace : MethodName := ⟨"ServerDesk", "trace", "(I)I"⟩
def q_SD_trace : List (Nat × Instr × Nat) := [(0, .iload_n 1, 1), (1, .iconst 0, 1), (2, .aload_n 0, 1), (3, .getfield 72, 3), (6, .iconst 1, 1), (7, .isub, 1), (8, .invokestatic 76, 3), (11, .ifCond .ne 13, 3), (14, .new 203, 3), (17, .dup, 1), (18, .ldc 205, 2), (20, .invokespecial 207, 3), (23, .athrow, 1), (24, .aload_n 0, 1), (25, .getfield 64, 3), (28, .iload_n 1, 1), (29, .iaload, 1), (30, .ireturn, 1)]
def i_SD_trace : Nat → Option (Instr × Nat) := am_find q_SD_trace
theorem d_SD_trace_0 : decode b_SD_trace 0 = .ok (.iload_n 1, 1) := by decide +kernel
theorem d_SD_trace_1 : decode b_SD_trace 1 = .ok (.iconst 0, 1) := by decide +kernel
theorem d_SD_trace_2 : decode b_SD_trace 2 = .ok (.aload_n 0, 1) := by decide +kernel
theorem d_SD_trace_3 : decode b_SD_trace 3 = .ok (.getfield 72, 3) := by decide +kernel
theorem d_SD_trace_6 : decode b_SD_trace 6 = .ok (.iconst 1, 1) := by decide +kernel
theorem d_SD_trace_7 : decode b_SD_trace 7 = .ok (.isub, 1) := by decide +kernel
theorem d_SD_trace_8 : decode b_SD_trace 8 = .ok (.invokestatic 76, 3) := by decide +kernel
theorem d_SD_trace_11 : decode b_SD_trace 11 = .ok (.ifCond .ne 13, 3) := by decide +kernel
theorem d_SD_trace_14 : decode b_SD_trace 14 = .ok (.new 203, 3) := by decide +kernel
theorem d_SD_trace_17 : decode b_SD_trace 17 = .ok (.dup, 1) := by decide +kernel
theorem d_SD_trace_18 : decode b_SD_trace 18 = .ok (.ldc 205, 2) := by decide +kernel
theorem d_SD_trace_20 : decode b_SD_trace 20 = .ok (.invokespecial 207, 3) := by decide +kernel
theorem d_SD_trace_23 : decode b_SD_trace 23 = .ok (.athrow, 1) := by decide +kernel
theorem d_SD_trace_24 : decode b_SD_trace 24 = .ok (.aload_n 0, 1) := by decide +kernel
theorem d_SD_trace_25 : decode b_SD_trace 25 = .ok (.getfield 64, 3) := by decide +kernel
theorem d_SD_trace_28 : decode b_SD_trace 28 = .ok (.iload_n 1, 1) := by decide +kernel
theorem d_SD_trace_29 : decode b_SD_trace 29 = .ok (.iaload, 1) := by decide +kernel
theorem d_SD_trace_30 : decode b_SD_trace 30 = .ok (.ireturn, 1) := by decide +kernel
theorem d_SD_trace : ∀ z ∈ q_SD_trace, decode b_SD_trace z.1 = .ok z.2 := List.forall_mem_cons.mpr ⟨d_SD_trace_0, List.forall_mem_cons.mpr ⟨d_SD_trace_1, List.forall_mem_cons.mpr ⟨d_SD_trace_2, List.forall_mem_cons.mpr ⟨d_SD_trace_3, List.forall_mem_cons.mpr ⟨d_SD_trace_6, List.forall_mem_cons.mpr ⟨d_SD_trace_7, List.forall_mem_cons.mpr ⟨d_SD_trace_8, List.forall_mem_cons.mpr ⟨d_SD_trace_11, List.forall_mem_cons.mpr ⟨d_SD_trace_14, List.forall_mem_cons.mpr ⟨d_SD_trace_17, List.forall_mem_cons.mpr ⟨d_SD_trace_18, List.forall_mem_cons.mpr ⟨d_SD_trace_20, List.forall_mem_cons.mpr ⟨d_SD_trace_23, List.forall_mem_cons.mpr ⟨d_SD_trace_24, List.forall_mem_cons.mpr ⟨d_SD_trace_25, List.forall_mem_cons.mpr ⟨d_SD_trace_28, List.forall_mem_cons.mpr ⟨d_SD_trace_29, List.forall_mem_cons.mpr ⟨d_SD_trace_30, fun _ h => absurd h List.not_mem_nil⟩⟩⟩⟩⟩⟩⟩⟩⟩⟩⟩⟩⟩⟩⟩⟩⟩⟩
theorem i_SD_trace_ok : ∀ pc i n, i_SD_trace pc = some (i, n) → decode b_SD_trace pc = .ok (i, n) := fun pc i n h => d_SD_trace (pc, i, n) (am_find_mem h)
theorem i_SD_trace_0 : i_SD_trace 0 = some (.iload_n 1, 1) := rfl
theorem i_SD_trace_1 : i_SD_trace 1 = some (.iconst 0, 1) := rfl
theorem i_SD_trace_2 : i_SD_trace 2 = some (.aload_n 0, 1) := rfl
theorem i_SD_trace_3 : i_SD_trace 3 = some (.getfield 72, 3) := rfl
theorem i_SD_trace_6 : i_SD_trace 6 = some (.iconst 1, 1) := rfl
theorem i_SD_trace_7 : i_SD_trace 7 = some (.isub, 1) := rfl
theorem i_SD_trace_8 : i_SD_trace 8 = some (.invokestatic 76, 3) := rfl
theorem i_SD_trace_11 : i_SD_trace 11 = some (.ifCond .ne 13, 3) := rfl
theorem i_SD_trace_14 : i_SD_trace 14 = some (.new 203, 3) := rfl
theorem i_SD_trace_17 : i_SD_trace 17 = some (.dup, 1) := rfl
theorem i_SD_trace_18 : i_SD_trace 18 = some (.ldc 205, 2) := rfl
theorem i_SD_trace_20 : i_SD_trace 20 = some (.invokespecial 207, 3) := rfl
theorem i_SD_trace_23 : i_SD_trace 23 = some (.athrow, 1) := rfl
theorem i_SD_trace_24 : i_SD_trace 24 = some (.aload_n 0, 1) := rfl
theorem i_SD_trace_25 : i_SD_trace 25 = some (.getfield 64, 3) := rfl
theorem i_SD_trace_28 : i_SD_trace 28 = some (.iload_n 1, 1) := rfl
theorem i_SD_trace_29 : i_SD_trace 29 = some (.iaload, 1) := rfl
theorem i_SD_trace_30 : i_SD_trace 30 = some (.ireturn, 1) := rfl
abbrev w_SD_trace : List Jvm.Cond := Jvm.Cond.code y_SD_trace b_SD_trace 2 (some .int) :: vw_W
theorem c_SD_trace : Jvm.Cond.code y_SD_trace b_SD_trace 2 (some .int) ∈ vw_W := vw_t 738 (by decide +kernel) (by decide +kernel)
abbrev r_SD_trace : Room := { frames := 6, cells := 0, slots := 0, locals := 100 }
abbrev b_LW_served : ByteArray := method_13_code
abbrev y_LW_served : MethodName := ⟨"ServerDeskLaw", "served", "(LServerDesk;II[J)I"⟩
def q_LW_served : List (Nat × Instr × Nat) := [(0, .aload_n 3, 1), (1, .iconst 0, 1), (2, .aload_n 0, 1), (3, .iload_n 1, 1), (4, .iload_n 2, 1), (5, .invokevirtual 55, 3), (8, .i2l, 1), (9, .lastore, 1), (10, .goto 7, 3), (13, .astore 4, 2), (15, .iconst 1, 1), (16, .ireturn, 1), (17, .iconst 0, 1), (18, .ireturn, 1)]
def i_LW_served : Nat → Option (Instr × Nat) := am_find q_LW_served
theorem d_LW_served_0 : decode b_LW_served 0 = .ok (.aload_n 3, 1) := by decide +kernel
theorem d_LW_served_1 : decode b_LW_served 1 = .ok (.iconst 0, 1) := by decide +kernel
theorem d_LW_served_2 : decode b_LW_served 2 = .ok (.aload_n 0, 1) := by decide +kernel
theorem d_LW_served_3 : decode b_LW_served 3 = .ok (.iload_n 1, 1) := by decide +kernel
theorem d_LW_served_4 : decode b_LW_served 4 = .ok (.iload_n 2, 1) := by decide +kernel
theorem d_LW_served_5 : decode b_LW_served 5 = .ok (.invokevirtual 55, 3) := by decide +kernel
theorem d_LW_served_8 : decode b_LW_served 8 = .ok (.i2l, 1) := by decide +kernel
theorem d_LW_served_9 : decode b_LW_served 9 = .ok (.lastore, 1) := by decide +kernel
theorem d_LW_served_10 : decode b_LW_served 10 = .ok (.goto 7, 3) := by decide +kernel
theorem d_LW_served_13 : decode b_LW_served 13 = .ok (.astore 4, 2) := by decide +kernel
theorem d_LW_served_15 : decode b_LW_served 15 = .ok (.iconst 1, 1) := by decide +kernel
theorem d_LW_served_16 : decode b_LW_served 16 = .ok (.ireturn, 1) := by decide +kernel
theorem d_LW_served_17 : decode b_LW_served 17 = .ok (.iconst 0, 1) := by decide +kernel
theorem d_LW_served_18 : decode b_LW_served 18 = .ok (.ireturn, 1) := by decide +kernel
theorem d_LW_served : ∀ z ∈ q_LW_served, decode b_LW_served z.1 = .ok z.2 := List.forall_mem_cons.mpr ⟨d_LW_served_0, List.forall_mem_cons.mpr ⟨d_LW_served_1, List.forall_mem_cons.mpr ⟨d_LW_served_2, List.forall_mem_cons.mpr ⟨d_LW_served_3, List.forall_mem_cons.mpr ⟨d_LW_served_4, List.forall_mem_cons.mpr ⟨d_LW_served_5, List.forall_mem_cons.mpr ⟨d_LW_served_8, List.forall_mem_cons.mpr ⟨d_LW_served_9, List.forall_mem_cons.mpr ⟨d_LW_served_10, List.forall_mem_cons.mpr ⟨d_LW_served_13, List.forall_mem_cons.mpr ⟨d_LW_served_15, List.forall_mem_cons.mpr ⟨d_LW_served_16, List.forall_mem_cons.mpr ⟨d_LW_served_17, List.forall_mem_cons.mpr ⟨d_LW_served_18, fun _ h => absurd h List.not_mem_nil⟩⟩⟩⟩⟩⟩⟩⟩⟩⟩⟩⟩⟩⟩
theorem i_LW_served_ok : ∀ pc i n, i_LW_served pc = some (i, n) → decode b_LW_served pc = .ok (i, n) := fun pc i n h => d_LW_served (pc, i, n) (am_find_mem h)
theorem i_LW_served_0 : i_LW_served 0 = some (.aload_n 3, 1) := rfl
theorem i_LW_served_1 : i_LW_served 1 = some (.iconst 0, 1) := rfl
theorem i_LW_served_2 : i_LW_served 2 = some (.aload_n 0, 1) := rfl
theorem i_LW_served_3 : i_LW_served 3 = some (.iload_n 1, 1) := rfl
theorem i_LW_served_4 : i_LW_served 4 = some (.iload_n 2, 1) := rfl
theorem i_LW_served_5 : i_LW_served 5 = some (.invokevirtual 55, 3) := rfl
theorem i_LW_served_8 : i_LW_served 8 = some (.i2l, 1) := rfl
theorem i_LW_served_9 : i_LW_served 9 = some (.lastore, 1) := rfl
theorem i_LW_served_10 : i_LW_served 10 = some (.goto 7, 3) := rfl
theorem i_LW_served_13 : i_LW_served 13 = some (.astore 4, 2) := rfl
theorem i_LW_served_15 : i_LW_served 15 = some (.iconst 1, 1) := rfl
theorem i_LW_served_16 : i_LW_served 16 = some (.ireturn, 1) := rfl
theorem i_LW_served_17 : i_LW_served 17 = some (.iconst 0, 1) := rfl
theorem i_LW_served_18 : i_LW_served 18 = some (.ireturn, 1) := rfl
abbrev b_SD_served : ByteArray := prog_1_method_12_code
abbrev y_SD_served : MethodName := ⟨"ServerDesk", "served", "(II)I"⟩
def q_SD_served : List (Nat × Instr × Nat) := [(0, .iload_n 1, 1), (1, .ifCond .lt 16, 3), (4, .iload_n 1, 1), (5, .iload_n 2, 1), (6, .if_icmp .gt 11, 3), (9, .iload_n 2, 1), (10, .aload_n 0, 1), (11, .getfield 72, 3), (14, .if_icmp .le 13, 3), (17, .new 80, 3), (20, .dup, 1), (21, .ldc 208, 2), (23, .invokespecial 84, 3), (26, .athrow, 1), (27, .iconst 0, 1), (28, .istore_n 3, 1), (29, .iload_n 1, 1), (30, .istore 4, 2), (32, .iload 4, 2), (34, .iload_n 2, 1), (35, .if_icmp .ge 22, 3), (38, .aload_n 0, 1), (39, .getfield 64, 3), (42, .iload 4, 2), (44, .iaload, 1), (45, .ifCond .ge 6, 3), (48, .iinc 3 1, 3), (51, .iinc 4 1, 3), (54, .goto (-22), 3), (57, .iload_n 3, 1), (58, .ireturn, 1)]
def i_SD_served : Nat → Option (Instr × Nat) := am_find q_SD_served
theorem d_SD_served_0 : decode b_SD_served 0 = .ok (.iload_n 1, 1) := by decide +kernel
theorem d_SD_served_1 : decode b_SD_served 1 = .ok (.ifCond .lt 16, 3) := by decide +kernel
theorem d_SD_served_4 : decode b_SD_served 4 = .ok (.iload_n 1, 1) := by decide +kernel
theorem d_SD_served_5 : decode b_SD_served 5 = .ok (.iload_n 2, 1) := by decide +kernel
theorem d_SD_served_6 : decode b_SD_served 6 = .ok (.if_icmp .gt 11, 3) := by decide +kernel
theorem d_SD_served_9 : decode b_SD_served 9 = .ok (.iload_n 2, 1) := by decide +kernel
theorem d_SD_served_10 : decode b_SD_served 10 = .ok (.aload_n 0, 1) := by decide +kernel
theorem d_SD_served_11 : decode b_SD_served 11 = .ok (.getfield 72, 3) := by decide +kernel
theorem d_SD_served_14 : decode b_SD_served 14 = .ok (.if_icmp .le 13, 3) := by decide +kernel
theorem d_SD_served_17 : decode b_SD_served 17 = .ok (.new 80, 3) := by decide +kernel
theorem d_SD_served_20 : decode b_SD_served 20 = .ok (.dup, 1) := by decide +kernel
theorem d_SD_served_21 : decode b_SD_served 21 = .ok (.ldc 208, 2) := by decide +kernel
theorem d_SD_served_23 : decode b_SD_served 23 = .ok (.invokespecial 84, 3) := by decide +kernel
theorem d_SD_served_26 : decode b_SD_served 26 = .ok (.athrow, 1) := by decide +kernel
theorem d_SD_served_27 : decode b_SD_served 27 = .ok (.iconst 0, 1) := by decide +kernel
theorem d_SD_served_28 : decode b_SD_served 28 = .ok (.istore_n 3, 1) := by decide +kernel
theorem d_SD_served_29 : decode b_SD_served 29 = .ok (.iload_n 1, 1) := by decide +kernel
theorem d_SD_served_30 : decode b_SD_served 30 = .ok (.istore 4, 2) := by decide +kernel
theorem d_SD_served_32 : decode b_SD_served 32 = .ok (.iload 4, 2) := by decide +kernel
theorem d_SD_served_34 : decode b_SD_served 34 = .ok (.iload_n 2, 1) := by decide +kernel
theorem d_SD_served_35 : decode b_SD_served 35 = .ok (.if_icmp .ge 22, 3) := by decide +kernel
theorem d_SD_served_38 : decode b_SD_served 38 = .ok (.aload_n 0, 1) := by decide +kernel
theorem d_SD_served_39 : decode b_SD_served 39 = .ok (.getfield 64, 3) := by decide +kernel
theorem d_SD_served_42 : decode b_SD_served 42 = .ok (.iload 4, 2) := by decide +kernel
theorem d_SD_served_44 : decode b_SD_served 44 = .ok (.iaload, 1) := by decide +kernel
theorem d_SD_served_45 : decode b_SD_served 45 = .ok (.ifCond .ge 6, 3) := by decide +kernel
theorem d_SD_served_48 : decode b_SD_served 48 = .ok (.iinc 3 1, 3) := by decide +kernel
theorem d_SD_served_51 : decode b_SD_served 51 = .ok (.iinc 4 1, 3) := by decide +kernel
theorem d_SD_served_54 : decode b_SD_served 54 = .ok (.goto (-22), 3) := by decide +kernel
theorem d_SD_served_57 : decode b_SD_served 57 = .ok (.iload_n 3, 1) := by decide +kernel
theorem d_SD_served_58 : decode b_SD_served 58 = .ok (.ireturn, 1) := by decide +kernel
theorem d_SD_served : ∀ z ∈ q_SD_served, decode b_SD_served z.1 = .ok z.2 := List.forall_mem_cons.mpr ⟨d_SD_served_0, List.forall_mem_cons.mpr ⟨d_SD_served_1, List.forall_mem_cons.mpr ⟨d_SD_served_4, List.forall_mem_cons.mpr ⟨d_SD_served_5, List.forall_mem_cons.mpr ⟨d_SD_served_6, List.forall_mem_cons.mpr ⟨d_SD_served_9, List.forall_mem_cons.mpr ⟨d_SD_served_10, List.forall_mem_cons.mpr ⟨d_SD_served_11, List.forall_mem_cons.mpr ⟨d_SD_served_14, List.forall_mem_cons.mpr ⟨d_SD_served_17, List.forall_mem_cons.mpr ⟨d_SD_served_20, List.forall_mem_cons.mpr ⟨d_SD_served_21, List.forall_mem_cons.mpr ⟨d_SD_served_23, List.forall_mem_cons.mpr ⟨d_SD_served_26, List.forall_mem_cons.mpr ⟨d_SD_served_27, List.forall_mem_cons.mpr ⟨d_SD_served_28, List.forall_mem_cons.mpr ⟨d_SD_served_29, List.forall_mem_cons.mpr ⟨d_SD_served_30, List.forall_mem_cons.mpr ⟨d_SD_served_32, List.forall_mem_cons.mpr ⟨d_SD_served_34, List.forall_mem_cons.mpr ⟨d_SD_served_35, List.forall_mem_cons.mpr ⟨d_SD_served_38, List.forall_mem_cons.mpr ⟨d_SD_served_39, List.forall_mem_cons.mpr ⟨d_SD_served_42, List.forall_mem_cons.mpr ⟨d_SD_served_44, List.forall_mem_cons.mpr ⟨d_SD_served_45, List.forall_mem_cons.mpr ⟨d_SD_served_48, List.forall_mem_cons.mpr ⟨d_SD_served_51, List.forall_mem_cons.mpr ⟨d_SD_served_54, List.forall_mem_cons.mpr ⟨d_SD_served_57, List.forall_mem_cons.mpr ⟨d_SD_served_58, fun _ h => absurd h List.not_mem_nil⟩⟩⟩⟩⟩⟩⟩⟩⟩⟩⟩⟩⟩⟩⟩⟩⟩⟩⟩⟩⟩⟩⟩⟩⟩⟩⟩⟩⟩⟩⟩
theorem i_SD_served_ok : ∀ pc i n, i_SD_served pc = some (i, n) → decode b_SD_served pc = .ok (i, n) := fun pc i n h => d_SD_served (pc, i, n) (am_find_mem h)
theorem i_SD_served_0 : i_SD_served 0 = some (.iload_n 1, 1) := rfl
theorem i_SD_served_1 : i_SD_served 1 = some (.ifCond .lt 16, 3) := rfl
theorem i_SD_served_4 : i_SD_served 4 = some (.iload_n 1, 1) := rfl
theorem i_SD_served_5 : i_SD_served 5 = some (.iload_n 2, 1) := rfl
theorem i_SD_served_6 : i_SD_served 6 = some (.if_icmp .gt 11, 3) := rfl
theorem i_SD_served_9 : i_SD_served 9 = some (.iload_n 2, 1) := rfl
theorem i_SD_served_10 : i_SD_served 10 = some (.aload_n 0, 1) := rfl
theorem i_SD_served_11 : i_SD_served 11 = some (.getfield 72, 3) := rfl
theorem i_SD_served_14 : i_SD_served 14 = some (.if_icmp .le 13, 3) := rfl
theorem i_SD_served_17 : i_SD_served 17 = some (.new 80, 3) := rfl
theorem i_SD_served_20 : i_SD_served 20 = some (.dup, 1) := rfl
theorem i_SD_served_21 : i_SD_served 21 = some (.ldc 208, 2) := rfl
theorem i_SD_served_23 : i_SD_served 23 = some (.invokespecial 84, 3) := rfl
theorem i_SD_served_26 : i_SD_served 26 = some (.athrow, 1) := rfl
theorem i_SD_served_27 : i_SD_served 27 = some (.iconst 0, 1) := rfl
theorem i_SD_served_28 : i_SD_served 28 = some (.istore_n 3, 1) := rfl
theorem i_SD_served_29 : i_SD_served 29 = some (.iload_n 1, 1) := rfl
theorem i_SD_served_30 : i_SD_served 30 = some (.istore 4, 2) := rfl
theorem i_SD_served_32 : i_SD_served 32 = some (.iload 4, 2) := rfl
theorem i_SD_served_34 : i_SD_served 34 = some (.iload_n 2, 1) := rfl
theorem i_SD_served_35 : i_SD_served 35 = some (.if_icmp .ge 22, 3) := rfl
theorem i_SD_served_38 : i_SD_served 38 = some (.aload_n 0, 1) := rfl
theorem i_SD_served_39 : i_SD_served 39 = some (.getfield 64, 3) := rfl
theorem i_SD_served_42 : i_SD_served 42 = some (.iload 4, 2) := rfl
theorem i_SD_served_44 : i_SD_served 44 = some (.iaload, 1) := rfl
theorem i_SD_served_45 : i_SD_served 45 = some (.ifCond .ge 6, 3) := rfl
theorem i_SD_served_48 : i_SD_served 48 = some (.iinc 3 1, 3) := rfl
theorem i_SD_served_51 : i_SD_served 51 = some (.iinc 4 1, 3) := rfl
theorem i_SD_served_54 : i_SD_served 54 = some (.goto (-22), 3) := rfl
theorem i_SD_served_57 : i_SD_served 57 = some (.iload_n 3, 1) := rfl
theorem i_SD_served_58 : i_SD_served 58 = some (.ireturn, 1) := rfl
abbrev w_SD_served : List Jvm.Cond := Jvm.Cond.code y_SD_served b_SD_served 5 (some .int) :: vw_W
theorem c_SD_served : Jvm.Cond.code y_SD_served b_SD_served 5 (some .int) ∈ vw_W := vw_t 761 (by decide +kernel) (by decide +kernel)
abbrev r_SD_served : Room := { frames := 6, cells := 0, slots := 0, locals := 100 }
abbrev b_LW_replay : ByteArray := method_14_code
abbrev y_LW_replay : MethodName := ⟨"ServerDeskLaw", "replay", "(LServerDesk;I[J)I"⟩
def q_LW_replay : List (Nat × Instr × Nat) := [(0, .aload_n 2, 1), (1, .iconst 0, 1), (2, .aload_n 0, 1), (3, .iload_n 1, 1), (4, .invokevirtual 58, 3), (7, .i2l, 1), (8, .lastore, 1), (9, .goto 12, 3), (12, .astore_n 3, 1), (13, .iconst 1, 1), (14, .ireturn, 1), (15, .astore_n 3, 1), (16, .iconst 2, 1), (17, .ireturn, 1), (18, .astore_n 3, 1), (19, .iconst 3, 1), (20, .ireturn, 1), (21, .iconst 0, 1), (22, .ireturn, 1)]
def i_LW_replay : Nat → Option (Instr × Nat) := am_find q_LW_replay
theorem d_LW_replay_0 : decode b_LW_replay 0 = .ok (.aload_n 2, 1) := by decide +kernel
theorem d_LW_replay_1 : decode b_LW_replay 1 = .ok (.iconst 0, 1) := by decide +kernel
theorem d_LW_replay_2 : decode b_LW_replay 2 = .ok (.aload_n 0, 1) := by decide +kernel
theorem d_LW_replay_3 : decode b_LW_replay 3 = .ok (.iload_n 1, 1) := by decide +kernel
theorem d_LW_replay_4 : decode b_LW_replay 4 = .ok (.invokevirtual 58, 3) := by decide +kernel
theorem d_LW_replay_7 : decode b_LW_replay 7 = .ok (.i2l, 1) := by decide +kernel
theorem d_LW_replay_8 : decode b_LW_replay 8 = .ok (.lastore, 1) := by decide +kernel
theorem d_LW_replay_9 : decode b_LW_replay 9 = .ok (.goto 12, 3) := by decide +kernel
theorem d_LW_replay_12 : decode b_LW_replay 12 = .ok (.astore_n 3, 1) := by decide +kernel
theorem d_LW_replay_13 : decode b_LW_replay 13 = .ok (.iconst 1, 1) := by decide +kernel
theorem d_LW_replay_14 : decode b_LW_replay 14 = .ok (.ireturn, 1) := by decide +kernel
theorem d_LW_replay_15 : decode b_LW_replay 15 = .ok (.astore_n 3, 1) := by decide +kernel
theorem d_LW_replay_16 : decode b_LW_replay 16 = .ok (.iconst 2, 1) := by decide +kernel
theorem d_LW_replay_17 : decode b_LW_replay 17 = .ok (.ireturn, 1) := by decide +kernel
theorem d_LW_replay_18 : decode b_LW_replay 18 = .ok (.astore_n 3, 1) := by decide +kernel
theorem d_LW_replay_19 : decode b_LW_replay 19 = .ok (.iconst 3, 1) := by decide +kernel
theorem d_LW_replay_20 : decode b_LW_replay 20 = .ok (.ireturn, 1) := by decide +kernel
theorem d_LW_replay_21 : decode b_LW_replay 21 = .ok (.iconst 0, 1) := by decide +kernel
theorem d_LW_replay_22 : decode b_LW_replay 22 = .ok (.ireturn, 1) := by decide +kernel
theorem d_LW_replay : ∀ z ∈ q_LW_replay, decode b_LW_replay z.1 = .ok z.2 := List.forall_mem_cons.mpr ⟨d_LW_replay_0, List.forall_mem_cons.mpr ⟨d_LW_replay_1, List.forall_mem_cons.mpr ⟨d_LW_replay_2, List.forall_mem_cons.mpr ⟨d_LW_replay_3, List.forall_mem_cons.mpr ⟨d_LW_replay_4, List.forall_mem_cons.mpr ⟨d_LW_replay_7, List.forall_mem_cons.mpr ⟨d_LW_replay_8, List.forall_mem_cons.mpr ⟨d_LW_replay_9, List.forall_mem_cons.mpr ⟨d_LW_replay_12, List.forall_mem_cons.mpr ⟨d_LW_replay_13, List.forall_mem_cons.mpr ⟨d_LW_replay_14, List.forall_mem_cons.mpr ⟨d_LW_replay_15, List.forall_mem_cons.mpr ⟨d_LW_replay_16, List.forall_mem_cons.mpr ⟨d_LW_replay_17, List.forall_mem_cons.mpr ⟨d_LW_replay_18, List.forall_mem_cons.mpr ⟨d_LW_replay_19, List.forall_mem_cons.mpr ⟨d_LW_replay_20, List.forall_mem_cons.mpr ⟨d_LW_replay_21, List.forall_mem_cons.mpr ⟨d_LW_replay_22, fun _ h => absurd h List.not_mem_nil⟩⟩⟩⟩⟩⟩⟩⟩⟩⟩⟩⟩⟩⟩⟩⟩⟩⟩⟩
theorem i_LW_replay_ok : ∀ pc i n, i_LW_replay pc = some (i, n) → decode b_LW_replay pc = .ok (i, n) := fun pc i n h => d_LW_replay (pc, i, n) (am_find_mem h)
theorem i_LW_replay_0 : i_LW_replay 0 = some (.aload_n 2, 1) := rfl
theorem i_LW_replay_1 : i_LW_replay 1 = some (.iconst 0, 1) := rfl
theorem i_LW_replay_2 : i_LW_replay 2 = some (.aload_n 0, 1) := rfl
theorem i_LW_replay_3 : i_LW_replay 3 = some (.iload_n 1, 1) := rfl
theorem i_LW_replay_4 : i_LW_replay 4 = some (.invokevirtual 58, 3) := rfl
theorem i_LW_replay_7 : i_LW_replay 7 = some (.i2l, 1) := rfl
theorem i_LW_replay_8 : i_LW_replay 8 = some (.lastore, 1) := rfl
theorem i_LW_replay_9 : i_LW_replay 9 = some (.goto 12, 3) := rfl
theorem i_LW_replay_12 : i_LW_replay 12 = some (.astore_n 3, 1) := rfl
theorem i_LW_replay_13 : i_LW_replay 13 = some (.iconst 1, 1) := rfl
theorem i_LW_replay_14 : i_LW_replay 14 = some (.ireturn, 1) := rfl
theorem i_LW_replay_15 : i_LW_replay 15 = some (.astore_n 3, 1) := rfl
theorem i_LW_replay_16 : i_LW_replay 16 = some (.iconst 2, 1) := rfl
theorem i_LW_replay_17 : i_LW_replay 17 = some (.ireturn, 1) := rfl
theorem i_LW_replay_18 : i_LW_replay 18 = some (.astore_n 3, 1) := rfl
theorem i_LW_replay_19 : i_LW_replay 19 = some (.iconst 3, 1) := rfl
theorem i_LW_replay_20 : i_LW_replay 20 = some (.ireturn, 1) := rfl
theorem i_LW_replay_21 : i_LW_replay 21 = some (.iconst 0, 1) := rfl
theorem i_LW_replay_22 : i_LW_replay 22 = some (.ireturn, 1) := rfl
abbrev b_SD_replay : ByteArray := prog_1_method_13_code
abbrev y_SD_replay : MethodName := ⟨"ServerDesk", "replay", "(I)I"⟩
def q_SD_replay : List (Nat × Instr × Nat) := [(0, .iload_n 1, 1), (1, .invokestatic 108, 3), (4, .ifCond .ne 13, 3), (7, .new 80, 3), (10, .dup, 1), (11, .ldc 210, 2), (13, .invokespecial 84, 3), (16, .athrow, 1), (17, .aload_n 0, 1), (18, .getfield 68, 3), (21, .ifCond .ne 13, 3), (24, .new 90, 3), (27, .dup, 1), (28, .ldc 198, 2), (30, .invokespecial 94, 3), (33, .athrow, 1), (34, .aload_n 0, 1), (35, .getfield 10, 3), (38, .aload_n 0, 1), (39, .getfield 19, 3), (42, .iload_n 1, 1), (43, .invokevirtual 123, 3), (46, .ifCond .ne 13, 3), (49, .new 99, 3), (52, .dup, 1), (53, .ldc 212, 2), (55, .invokespecial 103, 3), (58, .athrow, 1), (59, .aload_n 0, 1), (60, .getfield 60, 3), (63, .aload_n 0, 1), (64, .getfield 19, 3), (67, .iload_n 1, 1), (68, .aload_n 0, 1), (69, .getfield 64, 3), (72, .aload_n 0, 1), (73, .getfield 72, 3), (76, .invokevirtual 214, 3), (79, .ireturn, 1)]
def i_SD_replay : Nat → Option (Instr × Nat) := am_find q_SD_replay
theorem d_SD_replay_0 : decode b_SD_replay 0 = .ok (.iload_n 1, 1) := by decide +kernel
theorem d_SD_replay_1 : decode b_SD_replay 1 = .ok (.invokestatic 108, 3) := by decide +kernel
theorem d_SD_replay_4 : decode b_SD_replay 4 = .ok (.ifCond .ne 13, 3) := by decide +kernel
theorem d_SD_replay_7 : decode b_SD_replay 7 = .ok (.new 80, 3) := by decide +kernel
theorem d_SD_replay_10 : decode b_SD_replay 10 = .ok (.dup, 1) := by decide +kernel
theorem d_SD_replay_11 : decode b_SD_replay 11 = .ok (.ldc 210, 2) := by decide +kernel
theorem d_SD_replay_13 : decode b_SD_replay 13 = .ok (.invokespecial 84, 3) := by decide +kernel
theorem d_SD_replay_16 : decode b_SD_replay 16 = .ok (.athrow, 1) := by decide +kernel
theorem d_SD_replay_17 : decode b_SD_replay 17 = .ok (.aload_n 0, 1) := by decide +kernel
theorem d_SD_replay_18 : decode b_SD_replay 18 = .ok (.getfield 68, 3) := by decide +kernel
theorem d_SD_replay_21 : decode b_SD_replay 21 = .ok (.ifCond .ne 13, 3) := by decide +kernel
theorem d_SD_replay_24 : decode b_SD_replay 24 = .ok (.new 90, 3) := by decide +kernel
theorem d_SD_replay_27 : decode b_SD_replay 27 = .ok (.dup, 1) := by decide +kernel
theorem d_SD_replay_28 : decode b_SD_replay 28 = .ok (.ldc 198, 2) := by decide +kernel
theorem d_SD_replay_30 : decode b_SD_replay 30 = .ok (.invokespecial 94, 3) := by decide +kernel
theorem d_SD_replay_33 : decode b_SD_replay 33 = .ok (.athrow, 1) := by decide +kernel
theorem d_SD_replay_34 : decode b_SD_replay 34 = .ok (.aload_n 0, 1) := by decide +kernel
theorem d_SD_replay_35 : decode b_SD_replay 35 = .ok (.getfield 10, 3) := by decide +kernel
theorem d_SD_replay_38 : decode b_SD_replay 38 = .ok (.aload_n 0, 1) := by decide +kernel
theorem d_SD_replay_39 : decode b_SD_replay 39 = .ok (.getfield 19, 3) := by decide +kernel
theorem d_SD_replay_42 : decode b_SD_replay 42 = .ok (.iload_n 1, 1) := by decide +kernel
theorem d_SD_replay_43 : decode b_SD_replay 43 = .ok (.invokevirtual 123, 3) := by decide +kernel
theorem d_SD_replay_46 : decode b_SD_replay 46 = .ok (.ifCond .ne 13, 3) := by decide +kernel
theorem d_SD_replay_49 : decode b_SD_replay 49 = .ok (.new 99, 3) := by decide +kernel
theorem d_SD_replay_52 : decode b_SD_replay 52 = .ok (.dup, 1) := by decide +kernel
theorem d_SD_replay_53 : decode b_SD_replay 53 = .ok (.ldc 212, 2) := by decide +kernel
theorem d_SD_replay_55 : decode b_SD_replay 55 = .ok (.invokespecial 103, 3) := by decide +kernel
theorem d_SD_replay_58 : decode b_SD_replay 58 = .ok (.athrow, 1) := by decide +kernel
theorem d_SD_replay_59 : decode b_SD_replay 59 = .ok (.aload_n 0, 1) := by decide +kernel
theorem d_SD_replay_60 : decode b_SD_replay 60 = .ok (.getfield 60, 3) := by decide +kernel
theorem d_SD_replay_63 : decode b_SD_replay 63 = .ok (.aload_n 0, 1) := by decide +kernel
theorem d_SD_replay_64 : decode b_SD_replay 64 = .ok (.getfield 19, 3) := by decide +kernel
theorem d_SD_replay_67 : decode b_SD_replay 67 = .ok (.iload_n 1, 1) := by decide +kernel
theorem d_SD_replay_68 : decode b_SD_replay 68 = .ok (.aload_n 0, 1) := by decide +kernel
theorem d_SD_replay_69 : decode b_SD_replay 69 = .ok (.getfield 64, 3) := by decide +kernel
theorem d_SD_replay_72 : decode b_SD_replay 72 = .ok (.aload_n 0, 1) := by decide +kernel
theorem d_SD_replay_73 : decode b_SD_replay 73 = .ok (.getfield 72, 3) := by decide +kernel
theorem d_SD_replay_76 : decode b_SD_replay 76 = .ok (.invokevirtual 214, 3) := by decide +kernel
theorem d_SD_replay_79 : decode b_SD_replay 79 = .ok (.ireturn, 1) := by decide +kernel
theorem d_SD_replay : ∀ z ∈ q_SD_replay, decode b_SD_replay z.1 = .ok z.2 := List.forall_mem_cons.mpr ⟨d_SD_replay_0, List.forall_mem_cons.mpr ⟨d_SD_replay_1, List.forall_mem_cons.mpr ⟨d_SD_replay_4, List.forall_mem_cons.mpr ⟨d_SD_replay_7, List.forall_mem_cons.mpr ⟨d_SD_replay_10, List.forall_mem_cons.mpr ⟨d_SD_replay_11, List.forall_mem_cons.mpr ⟨d_SD_replay_13, List.forall_mem_cons.mpr ⟨d_SD_replay_16, List.forall_mem_cons.mpr ⟨d_SD_replay_17, List.forall_mem_cons.mpr ⟨d_SD_replay_18, List.forall_mem_cons.mpr ⟨d_SD_replay_21, List.forall_mem_cons.mpr ⟨d_SD_replay_24, List.forall_mem_cons.mpr ⟨d_SD_replay_27, List.forall_mem_cons.mpr ⟨d_SD_replay_28, List.forall_mem_cons.mpr ⟨d_SD_replay_30, List.forall_mem_cons.mpr ⟨d_SD_replay_33, List.forall_mem_cons.mpr ⟨d_SD_replay_34, List.forall_mem_cons.mpr ⟨d_SD_replay_35, List.forall_mem_cons.mpr ⟨d_SD_replay_38, List.forall_mem_cons.mpr ⟨d_SD_replay_39, List.forall_mem_cons.mpr ⟨d_SD_replay_42, List.forall_mem_cons.mpr ⟨d_SD_replay_43, List.forall_mem_cons.mpr ⟨d_SD_replay_46, List.forall_mem_cons.mpr ⟨d_SD_replay_49, List.forall_mem_cons.mpr ⟨d_SD_replay_52, List.forall_mem_cons.mpr ⟨d_SD_replay_53, List.forall_mem_cons.mpr ⟨d_SD_replay_55, List.forall_mem_cons.mpr ⟨d_SD_replay_58, List.forall_mem_cons.mpr ⟨d_SD_replay_59, List.forall_mem_cons.mpr ⟨d_SD_replay_60, List.forall_mem_cons.mpr ⟨d_SD_replay_63, List.forall_mem_cons.mpr ⟨d_SD_replay_64, List.forall_mem_cons.mpr ⟨d_SD_replay_67, List.forall_mem_cons.mpr ⟨d_SD_replay_68, List.forall_mem_cons.mpr ⟨d_SD_replay_69, List.forall_mem_cons.mpr ⟨d_SD_replay_72, List.forall_mem_cons.mpr ⟨d_SD_replay_73, List.forall_mem_cons.mpr ⟨d_SD_replay_76, List.forall_mem_cons.mpr ⟨d_SD_replay_79, fun _ h => absurd h List.not_mem_nil⟩⟩⟩⟩⟩⟩⟩⟩⟩⟩⟩⟩⟩⟩⟩⟩⟩⟩⟩⟩⟩⟩⟩⟩⟩⟩⟩⟩⟩⟩⟩⟩⟩⟩⟩⟩⟩⟩⟩
theorem i_SD_replay_ok : ∀ pc i n, i_SD_replay pc = some (i, n) → decode b_SD_replay pc = .ok (i, n) := fun pc i n h => d_SD_replay (pc, i, n) (am_find_mem h)
theorem i_SD_replay_0 : i_SD_replay 0 = some (.iload_n 1, 1) := rfl
theorem i_SD_replay_1 : i_SD_replay 1 = some (.invokestatic 108, 3) := rfl
theorem i_SD_replay_4 : i_SD_replay 4 = some (.ifCond .ne 13, 3) := rfl
theorem i_SD_replay_7 : i_SD_replay 7 = some (.new 80, 3) := rfl
theorem i_SD_replay_10 : i_SD_replay 10 = some (.dup, 1) := rfl
theorem i_SD_replay_11 : i_SD_replay 11 = some (.ldc 210, 2) := rfl
theorem i_SD_replay_13 : i_SD_replay 13 = some (.invokespecial 84, 3) := rfl
theorem i_SD_replay_16 : i_SD_replay 16 = some (.athrow, 1) := rfl
theorem i_SD_replay_17 : i_SD_replay 17 = some (.aload_n 0, 1) := rfl
theorem i_SD_replay_18 : i_SD_replay 18 = some (.getfield 68, 3) := rfl
theorem i_SD_replay_21 : i_SD_replay 21 = some (.ifCond .ne 13, 3) := rfl
theorem i_SD_replay_24 : i_SD_replay 24 = some (.new 90, 3) := rfl
theorem i_SD_replay_27 : i_SD_replay 27 = some (.dup, 1) := rfl
theorem i_SD_replay_28 : i_SD_replay 28 = some (.ldc 198, 2) := rfl
theorem i_SD_replay_30 : i_SD_replay 30 = some (.invokespecial 94, 3) := rfl
theorem i_SD_replay_33 : i_SD_replay 33 = some (.athrow, 1) := rfl
theorem i_SD_replay_34 : i_SD_replay 34 = some (.aload_n 0, 1) := rfl
theorem i_SD_replay_35 : i_SD_replay 35 = some (.getfield 10, 3) := rfl
theorem i_SD_replay_38 : i_SD_replay 38 = some (.aload_n 0, 1) := rfl
theorem i_SD_replay_39 : i_SD_replay 39 = some (.getfield 19, 3) := rfl
theorem i_SD_replay_42 : i_SD_replay 42 = some (.iload_n 1, 1) := rfl
theorem i_SD_replay_43 : i_SD_replay 43 = some (.invokevirtual 123, 3) := rfl
theorem i_SD_replay_46 : i_SD_replay 46 = some (.ifCond .ne 13, 3) := rfl
theorem i_SD_replay_49 : i_SD_replay 49 = some (.new 99, 3) := rfl
theorem i_SD_replay_52 : i_SD_replay 52 = some (.dup, 1) := rfl
theorem i_SD_replay_53 : i_SD_replay 53 = some (.ldc 212, 2) := rfl
theorem i_SD_replay_55 : i_SD_replay 55 = some (.invokespecial 103, 3) := rfl
theorem i_SD_replay_58 : i_SD_replay 58 = some (.athrow, 1) := rfl
theorem i_SD_replay_59 : i_SD_replay 59 = some (.aload_n 0, 1) := rfl
theorem i_SD_replay_60 : i_SD_replay 60 = some (.getfield 60, 3) := rfl
theorem i_SD_replay_63 : i_SD_replay 63 = some (.aload_n 0, 1) := rfl
theorem i_SD_replay_64 : i_SD_replay 64 = some (.getfield 19, 3) := rfl
theorem i_SD_replay_67 : i_SD_replay 67 = some (.iload_n 1, 1) := rfl
theorem i_SD_replay_68 : i_SD_replay 68 = some (.aload_n 0, 1) := rfl
theorem i_SD_replay_69 : i_SD_replay 69 = some (.getfield 64, 3) := rfl
theorem i_SD_replay_72 : i_SD_replay 72 = some (.aload_n 0, 1) := rfl
theorem i_SD_replay_73 : i_SD_replay 73 = some (.getfield 72, 3) := rfl
theorem i_SD_replay_76 : i_SD_replay 76 = some (.invokevirtual 214, 3) := rfl
theorem i_SD_replay_79 : i_SD_replay 79 = some (.ireturn, 1) := rfl
abbrev w_SD_replay : List Jvm.Cond := Jvm.Cond.code y_SD_replay b_SD_replay 2 (some .int) :: vw_W
theorem c_SD_replay : Jvm.Cond.code y_SD_replay b_SD_replay 2 (some .int) ∈ vw_W := vw_t 769 (by decide +kernel) (by decide +kernel)
abbrev r_SD_replay : Room := { frames := 6, cells := 0, slots := 0, locals := 146 }
abbrev b_RF_runAgain : ByteArray := prog_8_method_3_code
abbrev y_RF_runAgain : MethodName := ⟨"ServerDesk$Referee", "runAgain", "(LServerDesk$RuleBook;I[II)I"⟩
def q_RF_runAgain : List (Nat × Instr × Nat) := [(0, .aload_n 0, 1), (1, .getfield 21, 3), (4, .aload_n 1, 1), (5, .iload_n 2, 1), (6, .invokevirtual 33, 3), (9, .aload_n 0, 1), (10, .invokevirtual 39, 3), (13, .iconst 0, 1), (14, .istore 5, 2), (16, .iconst 0, 1), (17, .istore 6, 2), (19, .iload 6, 2), (21, .iload 4, 2), (23, .if_icmp .ge 64, 3), (26, .iload 6, 2), (28, .aload_n 3, 1), (29, .arraylength, 1), (30, .if_icmp .ge 57, 3), (33, .aload_n 0, 1), (34, .getfield 21, 3), (37, .getfield 42, 3), (40, .iload 6, 2), (42, .invokevirtual 46, 3), (45, .aload_n 0, 1), (46, .iload 6, 2), (48, .iload 5, 2), (50, .invokevirtual 52, 3), (53, .istore 5, 2), (55, .aload_n 0, 1), (56, .getfield 21, 3), (59, .iload 6, 2), (61, .invokevirtual 56, 3), (64, .aload_n 3, 1), (65, .iload 6, 2), (67, .iaload, 1), (68, .if_icmp .ne 13, 3), (71, .aload_n 0, 1), (72, .dup, 1), (73, .getfield 15, 3), (76, .iconst 1, 1), (77, .iadd, 1), (78, .putfield 15, 3), (81, .iinc 6 1, 3), (84, .goto (-65), 3), (87, .aload_n 0, 1), (88, .aload_n 0, 1), (89, .getfield 21, 3), (92, .getfield 60, 3), (95, .putfield 18, 3), (98, .aload_n 0, 1), (99, .invokevirtual 61, 3), (102, .ireturn, 1)]
def i_RF_runAgain : Nat → Option (Instr × Nat) := am_find q_RF_runAgain
theorem d_RF_runAgain_0 : decode b_RF_runAgain 0 = .ok (.aload_n 0, 1) := by decide +kernel
theorem d_RF_runAgain_1 : decode b_RF_runAgain 1 = .ok (.getfield 21, 3) := by decide +kernel
theorem d_RF_runAgain_4 : decode b_RF_runAgain 4 = .ok (.aload_n 1, 1) := by decide +kernel
theorem d_RF_runAgain_5 : decode b_RF_runAgain 5 = .ok (.iload_n 2, 1) := by decide +kernel
theorem d_RF_runAgain_6 : decode b_RF_runAgain 6 = .ok (.invokevirtual 33, 3) := by decide +kernel
theorem d_RF_runAgain_9 : decode b_RF_runAgain 9 = .ok (.aload_n 0, 1) := by decide +kernel
theorem d_RF_runAgain_10 : decode b_RF_runAgain 10 = .ok (.invokevirtual 39, 3) := by decide +kernel
theorem d_RF_runAgain_13 : decode b_RF_runAgain 13 = .ok (.iconst 0, 1) := by decide +kernel
theorem d_RF_runAgain_14 : decode b_RF_runAgain 14 = .ok (.istore 5, 2) := by decide +kernel
theorem d_RF_runAgain_16 : decode b_RF_runAgain 16 = .ok (.iconst 0, 1) := by decide +kernel
theorem d_RF_runAgain_17 : decode b_RF_runAgain 17 = .ok (.istore 6, 2) := by decide +kernel
theorem d_RF_runAgain_19 : decode b_RF_runAgain 19 = .ok (.iload 6, 2) := by decide +kernel
theorem d_RF_runAgain_21 : decode b_RF_runAgain 21 = .ok (.iload 4, 2) := by decide +kernel
theorem d_RF_runAgain_23 : decode b_RF_runAgain 23 = .ok (.if_icmp .ge 64, 3) := by decide +kernel
theorem d_RF_runAgain_26 : decode b_RF_runAgain 26 = .ok (.iload 6, 2) := by decide +kernel
theorem d_RF_runAgain_28 : decode b_RF_runAgain 28 = .ok (.aload_n 3, 1) := by decide +kernel
theorem d_RF_runAgain_29 : decode b_RF_runAgain 29 = .ok (.arraylength, 1) := by decide +kernel
theorem d_RF_runAgain_30 : decode b_RF_runAgain 30 = .ok (.if_icmp .ge 57, 3) := by decide +kernel
theorem d_RF_runAgain_33 : decode b_RF_runAgain 33 = .ok (.aload_n 0, 1) := by decide +kernel
theorem d_RF_runAgain_34 : decode b_RF_runAgain 34 = .ok (.getfield 21, 3) := by decide +kernel
theorem d_RF_runAgain_37 : decode b_RF_runAgain 37 = .ok (.getfield 42, 3) := by decide +kernel
theorem d_RF_runAgain_40 : decode b_RF_runAgain 40 = .ok (.iload 6, 2) := by decide +kernel
theorem d_RF_runAgain_42 : decode b_RF_runAgain 42 = .ok (.invokevirtual 46, 3) := by decide +kernel
theorem d_RF_runAgain_45 : decode b_RF_runAgain 45 = .ok (.aload_n 0, 1) := by decide +kernel
theorem d_RF_runAgain_46 : decode b_RF_runAgain 46 = .ok (.iload 6, 2) := by decide +kernel
theorem d_RF_runAgain_48 : decode b_RF_runAgain 48 = .ok (.iload 5, 2) := by decide +kernel
theorem d_RF_runAgain_50 : decode b_RF_runAgain 50 = .ok (.invokevirtual 52, 3) := by decide +kernel
theorem d_RF_runAgain_53 : decode b_RF_runAgain 53 = .ok (.istore 5, 2) := by decide +kernel
theorem d_RF_runAgain_55 : decode b_RF_runAgain 55 = .ok (.aload_n 0, 1) := by decide +kernel
theorem d_RF_runAgain_56 : decode b_RF_runAgain 56 = .ok (.getfield 21, 3) := by decide +kernel
theorem d_RF_runAgain_59 : decode b_RF_runAgain 59 = .ok (.iload 6, 2) := by decide +kernel
theorem d_RF_runAgain_61 : decode b_RF_runAgain 61 = .ok (.invokevirtual 56, 3) := by decide +kernel
theorem d_RF_runAgain_64 : decode b_RF_runAgain 64 = .ok (.aload_n 3, 1) := by decide +kernel
theorem d_RF_runAgain_65 : decode b_RF_runAgain 65 = .ok (.iload 6, 2) := by decide +kernel
theorem d_RF_runAgain_67 : decode b_RF_runAgain 67 = .ok (.iaload, 1) := by decide +kernel
theorem d_RF_runAgain_68 : decode b_RF_runAgain 68 = .ok (.if_icmp .ne 13, 3) := by decide +kernel
theorem d_RF_runAgain_71 : decode b_RF_runAgain 71 = .ok (.aload_n 0, 1) := by decide +kernel
theorem d_RF_runAgain_72 : decode b_RF_runAgain 72 = .ok (.dup, 1) := by decide +kernel
theorem d_RF_runAgain_73 : decode b_RF_runAgain 73 = .ok (.getfield 15, 3) := by decide +kernel
theorem d_RF_runAgain_76 : decode b_RF_runAgain 76 = .ok (.iconst 1, 1) := by decide +kernel
theorem d_RF_runAgain_77 : decode b_RF_runAgain 77 = .ok (.iadd, 1) := by decide +kernel
theorem d_RF_runAgain_78 : decode b_RF_runAgain 78 = .ok (.putfield 15, 3) := by decide +kernel
theorem d_RF_runAgain_81 : decode b_RF_runAgain 81 = .ok (.iinc 6 1, 3) := by decide +kernel
theorem d_RF_runAgain_84 : decode b_RF_runAgain 84 = .ok (.goto (-65), 3) := by decide +kernel
theorem d_RF_runAgain_87 : decode b_RF_runAgain 87 = .ok (.aload_n 0, 1) := by decide +kernel
theorem d_RF_runAgain_88 : decode b_RF_runAgain 88 = .ok (.aload_n 0, 1) := by decide +kernel
theorem d_RF_runAgain_89 : decode b_RF_runAgain 89 = .ok (.getfield 21, 3) := by decide +kernel
theorem d_RF_runAgain_92 : decode b_RF_runAgain 92 = .ok (.getfield 60, 3) := by decide +kernel
theorem d_RF_runAgain_95 : decode b_RF_runAgain 95 = .ok (.putfield 18, 3) := by decide +kernel
theorem d_RF_runAgain_98 : decode b_RF_runAgain 98 = .ok (.aload_n 0, 1) := by decide +kernel
theorem d_RF_runAgain_99 : decode b_RF_runAgain 99 = .ok (.invokevirtual 61, 3) := by decide +kernel
theorem d_RF_runAgain_102 : decode b_RF_runAgain 102 = .ok (.ireturn, 1) := by decide +kernel
theorem d_RF_runAgain : ∀ z ∈ q_RF_runAgain, decode b_RF_runAgain z.1 = .ok z.2 := List.forall_mem_cons.mpr ⟨d_RF_runAgain_0, List.forall_mem_cons.mpr ⟨d_RF_runAgain_1, List.forall_mem_cons.mpr ⟨d_RF_runAgain_4, List.forall_mem_cons.mpr ⟨d_RF_runAgain_5, List.forall_mem_cons.mpr ⟨d_RF_runAgain_6, List.forall_mem_cons.mpr ⟨d_RF_runAgain_9, List.forall_mem_cons.mpr ⟨d_RF_runAgain_10, List.forall_mem_cons.mpr ⟨d_RF_runAgain_13, List.forall_mem_cons.mpr ⟨d_RF_runAgain_14, List.forall_mem_cons.mpr ⟨d_RF_runAgain_16, List.forall_mem_cons.mpr ⟨d_RF_runAgain_17, List.forall_mem_cons.mpr ⟨d_RF_runAgain_19, List.forall_mem_cons.mpr ⟨d_RF_runAgain_21, List.forall_mem_cons.mpr ⟨d_RF_runAgain_23, List.forall_mem_cons.mpr ⟨d_RF_runAgain_26, List.forall_mem_cons.mpr ⟨d_RF_runAgain_28, List.forall_mem_cons.mpr ⟨d_RF_runAgain_29, List.forall_mem_cons.mpr ⟨d_RF_runAgain_30, List.forall_mem_cons.mpr ⟨d_RF_runAgain_33, List.forall_mem_cons.mpr ⟨d_RF_runAgain_34, List.forall_mem_cons.mpr ⟨d_RF_runAgain_37, List.forall_mem_cons.mpr ⟨d_RF_runAgain_40, List.forall_mem_cons.mpr ⟨d_RF_runAgain_42, List.forall_mem_cons.mpr ⟨d_RF_runAgain_45, List.forall_mem_cons.mpr ⟨d_RF_runAgain_46, List.forall_mem_cons.mpr ⟨d_RF_runAgain_48, List.forall_mem_cons.mpr ⟨d_RF_runAgain_50, List.forall_mem_cons.mpr ⟨d_RF_runAgain_53, List.forall_mem_cons.mpr ⟨d_RF_runAgain_55, List.forall_mem_cons.mpr ⟨d_RF_runAgain_56, List.forall_mem_cons.mpr ⟨d_RF_runAgain_59, List.forall_mem_cons.mpr ⟨d_RF_runAgain_61, List.forall_mem_cons.mpr ⟨d_RF_runAgain_64, List.forall_mem_cons.mpr ⟨d_RF_runAgain_65, List.forall_mem_cons.mpr ⟨d_RF_runAgain_67, List.forall_mem_cons.mpr ⟨d_RF_runAgain_68, List.forall_mem_cons.mpr ⟨d_RF_runAgain_71, List.forall_mem_cons.mpr ⟨d_RF_runAgain_72, List.forall_mem_cons.mpr ⟨d_RF_runAgain_73, List.forall_mem_cons.mpr ⟨d_RF_runAgain_76, List.forall_mem_cons.mpr ⟨d_RF_runAgain_77, List.forall_mem_cons.mpr ⟨d_RF_runAgain_78, List.forall_mem_cons.mpr ⟨d_RF_runAgain_81, List.forall_mem_cons.mpr ⟨d_RF_runAgain_84, List.forall_mem_cons.mpr ⟨d_RF_runAgain_87, List.forall_mem_cons.mpr ⟨d_RF_runAgain_88, List.forall_mem_cons.mpr ⟨d_RF_runAgain_89, List.forall_mem_cons.mpr ⟨d_RF_runAgain_92, List.forall_mem_cons.mpr ⟨d_RF_runAgain_95, List.forall_mem_cons.mpr ⟨d_RF_runAgain_98, List.forall_mem_cons.mpr ⟨d_RF_runAgain_99, List.forall_mem_cons.mpr ⟨d_RF_runAgain_102, fun _ h => absurd h List.not_mem_nil⟩⟩⟩⟩⟩⟩⟩⟩⟩⟩⟩⟩⟩⟩⟩⟩⟩⟩⟩⟩⟩⟩⟩⟩⟩⟩⟩⟩⟩⟩⟩⟩⟩⟩⟩⟩⟩⟩⟩⟩⟩⟩⟩⟩⟩⟩⟩⟩⟩⟩⟩⟩
theorem i_RF_runAgain_ok : ∀ pc i n, i_RF_runAgain pc = some (i, n) → decode b_RF_runAgain pc = .ok (i, n) := fun pc i n h => d_RF_runAgain (pc, i, n) (am_find_mem h)
theorem i_RF_runAgain_0 : i_RF_runAgain 0 = some (.aload_n 0, 1) := rfl
theorem i_RF_runAgain_1 : i_RF_runAgain 1 = some (.getfield 21, 3) := rfl
theorem i_RF_runAgain_4 : i_RF_runAgain 4 = some (.aload_n 1, 1) := rfl
theorem i_RF_runAgain_5 : i_RF_runAgain 5 = some (.iload_n 2, 1) := rfl
theorem i_RF_runAgain_6 : i_RF_runAgain 6 = some (.invokevirtual 33, 3) := rfl
theorem i_RF_runAgain_9 : i_RF_runAgain 9 = some (.aload_n 0, 1) := rfl
theorem i_RF_runAgain_10 : i_RF_runAgain 10 = some (.invokevirtual 39, 3) := rfl
theorem i_RF_runAgain_13 : i_RF_runAgain 13 = some (.iconst 0, 1) := rfl
theorem i_RF_runAgain_14 : i_RF_runAgain 14 = some (.istore 5, 2) := rfl
theorem i_RF_runAgain_16 : i_RF_runAgain 16 = some (.iconst 0, 1) := rfl
theorem i_RF_runAgain_17 : i_RF_runAgain 17 = some (.istore 6, 2) := rfl
theorem i_RF_runAgain_19 : i_RF_runAgain 19 = some (.iload 6, 2) := rfl
theorem i_RF_runAgain_21 : i_RF_runAgain 21 = some (.iload 4, 2) := rfl
theorem i_RF_runAgain_23 : i_RF_runAgain 23 = some (.if_icmp .ge 64, 3) := rfl
theorem i_RF_runAgain_26 : i_RF_runAgain 26 = some (.iload 6, 2) := rfl
theorem i_RF_runAgain_28 : i_RF_runAgain 28 = some (.aload_n 3, 1) := rfl
theorem i_RF_runAgain_29 : i_RF_runAgain 29 = some (.arraylength, 1) := rfl
theorem i_RF_runAgain_30 : i_RF_runAgain 30 = some (.if_icmp .ge 57, 3) := rfl
theorem i_RF_runAgain_33 : i_RF_runAgain 33 = some (.aload_n 0, 1) := rfl
theorem i_RF_runAgain_34 : i_RF_runAgain 34 = some (.getfield 21, 3) := rfl
theorem i_RF_runAgain_37 : i_RF_runAgain 37 = some (.getfield 42, 3) := rfl
theorem i_RF_runAgain_40 : i_RF_runAgain 40 = some (.iload 6, 2) := rfl
theorem i_RF_runAgain_42 : i_RF_runAgain 42 = some (.invokevirtual 46, 3) := rfl
theorem i_RF_runAgain_45 : i_RF_runAgain 45 = some (.aload_n 0, 1) := rfl
theorem i_RF_runAgain_46 : i_RF_runAgain 46 = some (.iload 6, 2) := rfl
theorem i_RF_runAgain_48 : i_RF_runAgain 48 = some (.iload 5, 2) := rfl
theorem i_RF_runAgain_50 : i_RF_runAgain 50 = some (.invokevirtual 52, 3) := rfl
theorem i_RF_runAgain_53 : i_RF_runAgain 53 = some (.istore 5, 2) := rfl
theorem i_RF_runAgain_55 : i_RF_runAgain 55 = some (.aload_n 0, 1) := rfl
theorem i_RF_runAgain_56 : i_RF_runAgain 56 = some (.getfield 21, 3) := rfl
theorem i_RF_runAgain_59 : i_RF_runAgain 59 = some (.iload 6, 2) := rfl
theorem i_RF_runAgain_61 : i_RF_runAgain 61 = some (.invokevirtual 56, 3) := rfl
theorem i_RF_runAgain_64 : i_RF_runAgain 64 = some (.aload_n 3, 1) := rfl
theorem i_RF_runAgain_65 : i_RF_runAgain 65 = some (.iload 6, 2) := rfl
theorem i_RF_runAgain_67 : i_RF_runAgain 67 = some (.iaload, 1) := rfl
theorem i_RF_runAgain_68 : i_RF_runAgain 68 = some (.if_icmp .ne 13, 3) := rfl
theorem i_RF_runAgain_71 : i_RF_runAgain 71 = some (.aload_n 0, 1) := rfl
theorem i_RF_runAgain_72 : i_RF_runAgain 72 = some (.dup, 1) := rfl
theorem i_RF_runAgain_73 : i_RF_runAgain 73 = some (.getfield 15, 3) := rfl
theorem i_RF_runAgain_76 : i_RF_runAgain 76 = some (.iconst 1, 1) := rfl
theorem i_RF_runAgain_77 : i_RF_runAgain 77 = some (.iadd, 1) := rfl
theorem i_RF_runAgain_78 : i_RF_runAgain 78 = some (.putfield 15, 3) := rfl
theorem i_RF_runAgain_81 : i_RF_runAgain 81 = some (.iinc 6 1, 3) := rfl
theorem i_RF_runAgain_84 : i_RF_runAgain 84 = some (.goto (-65), 3) := rfl
theorem i_RF_runAgain_87 : i_RF_runAgain 87 = some (.aload_n 0, 1) := rfl
theorem i_RF_runAgain_88 : i_RF_runAgain 88 = some (.aload_n 0, 1) := rfl
theorem i_RF_runAgain_89 : i_RF_runAgain 89 = some (.getfield 21, 3) := rfl
theorem i_RF_runAgain_92 : i_RF_runAgain 92 = some (.getfield 60, 3) := rfl
theorem i_RF_runAgain_95 : i_RF_runAgain 95 = some (.putfield 18, 3) := rfl
theorem i_RF_runAgain_98 : i_RF_runAgain 98 = some (.aload_n 0, 1) := rfl
theorem i_RF_runAgain_99 : i_RF_runAgain 99 = some (.invokevirtual 61, 3) := rfl
theorem i_RF_runAgain_102 : i_RF_runAgain 102 = some (.ireturn, 1) := rfl
abbrev w_RF_runAgain : List Jvm.Cond := Jvm.Cond.code y_RF_runAgain b_RF_runAgain 7 (some .int) :: vw_W
theorem c_RF_runAgain : Jvm.Cond.code y_RF_runAgain b_RF_runAgain 7 (some .int) ∈ vw_W := vw_t 775 (by decide +kernel) (by decide +kernel)
abbrev r_RF_runAgain : Room := { frames := 5, cells := 0, slots := 0, locals := 120 }
abbrev b_RF_tellUpTo : ByteArray := prog_8_method_4_code
abbrev y_RF_tellUpTo : MethodName := ⟨"ServerDesk$Referee", "tellUpTo", "(II)I"⟩
def q_RF_tellUpTo : List (Nat × Instr × Nat) := [(0, .iload_n 2, 1), (1, .istore_n 3, 1), (2, .iload_n 3, 1), (3, .aload_n 0, 1), (4, .getfield 29, 3), (7, .getfield 65, 3), (10, .if_icmp .ge 50, 3), (13, .aload_n 0, 1), (14, .getfield 29, 3), (17, .getfield 70, 3), (20, .iload_n 3, 1), (21, .iaload, 1), (22, .iload_n 1, 1), (23, .if_icmp .gt 37, 3), (26, .aload_n 0, 1), (27, .getfield 21, 3), (30, .getfield 74, 3), (33, .aload_n 0, 1), (34, .getfield 29, 3), (37, .getfield 78, 3), (40, .iload_n 3, 1), (41, .iaload, 1), (42, .aload_n 0, 1), (43, .getfield 29, 3), (46, .getfield 81, 3), (49, .iload_n 3, 1), (50, .iaload, 1), (51, .invokevirtual 84, 3), (54, .iinc 3 1, 3), (57, .goto (-55), 3), (60, .iload_n 3, 1), (61, .ireturn, 1)]
def i_RF_tellUpTo : Nat → Option (Instr × Nat) := am_find q_RF_tellUpTo
theorem d_RF_tellUpTo_0 : decode b_RF_tellUpTo 0 = .ok (.iload_n 2, 1) := by decide +kernel
theorem d_RF_tellUpTo_1 : decode b_RF_tellUpTo 1 = .ok (.istore_n 3, 1) := by decide +kernel
theorem d_RF_tellUpTo_2 : decode b_RF_tellUpTo 2 = .ok (.iload_n 3, 1) := by decide +kernel
theorem d_RF_tellUpTo_3 : decode b_RF_tellUpTo 3 = .ok (.aload_n 0, 1) := by decide +kernel
theorem d_RF_tellUpTo_4 : decode b_RF_tellUpTo 4 = .ok (.getfield 29, 3) := by decide +kernel
theorem d_RF_tellUpTo_7 : decode b_RF_tellUpTo 7 = .ok (.getfield 65, 3) := by decide +kernel
theorem d_RF_tellUpTo_10 : decode b_RF_tellUpTo 10 = .ok (.if_icmp .ge 50, 3) := by decide +kernel
theorem d_RF_tellUpTo_13 : decode b_RF_tellUpTo 13 = .ok (.aload_n 0, 1) := by decide +kernel
theorem d_RF_tellUpTo_14 : decode b_RF_tellUpTo 14 = .ok (.getfield 29, 3) := by decide +kernel
theorem d_RF_tellUpTo_17 : decode b_RF_tellUpTo 17 = .ok (.getfield 70, 3) := by decide +kernel
theorem d_RF_tellUpTo_20 : decode b_RF_tellUpTo 20 = .ok (.iload_n 3, 1) := by decide +kernel
theorem d_RF_tellUpTo_21 : decode b_RF_tellUpTo 21 = .ok (.iaload, 1) := by decide +kernel
theorem d_RF_tellUpTo_22 : decode b_RF_tellUpTo 22 = .ok (.iload_n 1, 1) := by decide +kernel
theorem d_RF_tellUpTo_23 : decode b_RF_tellUpTo 23 = .ok (.if_icmp .gt 37, 3) := by decide +kernel
theorem d_RF_tellUpTo_26 : decode b_RF_tellUpTo 26 = .ok (.aload_n 0, 1) := by decide +kernel
theorem d_RF_tellUpTo_27 : decode b_RF_tellUpTo 27 = .ok (.getfield 21, 3) := by decide +kernel
theorem d_RF_tellUpTo_30 : decode b_RF_tellUpTo 30 = .ok (.getfield 74, 3) := by decide +kernel
theorem d_RF_tellUpTo_33 : decode b_RF_tellUpTo 33 = .ok (.aload_n 0, 1) := by decide +kernel
theorem d_RF_tellUpTo_34 : decode b_RF_tellUpTo 34 = .ok (.getfield 29, 3) := by decide +kernel
theorem d_RF_tellUpTo_37 : decode b_RF_tellUpTo 37 = .ok (.getfield 78, 3) := by decide +kernel
theorem d_RF_tellUpTo_40 : decode b_RF_tellUpTo 40 = .ok (.iload_n 3, 1) := by decide +kernel
theorem d_RF_tellUpTo_41 : decode b_RF_tellUpTo 41 = .ok (.iaload, 1) := by decide +kernel
theorem d_RF_tellUpTo_42 : decode b_RF_tellUpTo 42 = .ok (.aload_n 0, 1) := by decide +kernel
theorem d_RF_tellUpTo_43 : decode b_RF_tellUpTo 43 = .ok (.getfield 29, 3) := by decide +kernel
theorem d_RF_tellUpTo_46 : decode b_RF_tellUpTo 46 = .ok (.getfield 81, 3) := by decide +kernel
theorem d_RF_tellUpTo_49 : decode b_RF_tellUpTo 49 = .ok (.iload_n 3, 1) := by decide +kernel
theorem d_RF_tellUpTo_50 : decode b_RF_tellUpTo 50 = .ok (.iaload, 1) := by decide +kernel
theorem d_RF_tellUpTo_51 : decode b_RF_tellUpTo 51 = .ok (.invokevirtual 84, 3) := by decide +kernel
theorem d_RF_tellUpTo_54 : decode b_RF_tellUpTo 54 = .ok (.iinc 3 1, 3) := by decide +kernel
theorem d_RF_tellUpTo_57 : decode b_RF_tellUpTo 57 = .ok (.goto (-55), 3) := by decide +kernel
theorem d_RF_tellUpTo_60 : decode b_RF_tellUpTo 60 = .ok (.iload_n 3, 1) := by decide +kernel
theorem d_RF_tellUpTo_61 : decode b_RF_tellUpTo 61 = .ok (.ireturn, 1) := by decide +kernel
theorem d_RF_tellUpTo : ∀ z ∈ q_RF_tellUpTo, decode b_RF_tellUpTo z.1 = .ok z.2 := List.forall_mem_cons.mpr ⟨d_RF_tellUpTo_0, List.forall_mem_cons.mpr ⟨d_RF_tellUpTo_1, List.forall_mem_cons.mpr ⟨d_RF_tellUpTo_2, List.forall_mem_cons.mpr ⟨d_RF_tellUpTo_3, List.forall_mem_cons.mpr ⟨d_RF_tellUpTo_4, List.forall_mem_cons.mpr ⟨d_RF_tellUpTo_7, List.forall_mem_cons.mpr ⟨d_RF_tellUpTo_10, List.forall_mem_cons.mpr ⟨d_RF_tellUpTo_13, List.forall_mem_cons.mpr ⟨d_RF_tellUpTo_14, List.forall_mem_cons.mpr ⟨d_RF_tellUpTo_17, List.forall_mem_cons.mpr ⟨d_RF_tellUpTo_20, List.forall_mem_cons.mpr ⟨d_RF_tellUpTo_21, List.forall_mem_cons.mpr ⟨d_RF_tellUpTo_22, List.forall_mem_cons.mpr ⟨d_RF_tellUpTo_23, List.forall_mem_cons.mpr ⟨d_RF_tellUpTo_26, List.forall_mem_cons.mpr ⟨d_RF_tellUpTo_27, List.forall_mem_cons.mpr ⟨d_RF_tellUpTo_30, List.forall_mem_cons.mpr ⟨d_RF_tellUpTo_33, List.forall_mem_cons.mpr ⟨d_RF_tellUpTo_34, List.forall_mem_cons.mpr ⟨d_RF_tellUpTo_37, List.forall_mem_cons.mpr ⟨d_RF_tellUpTo_40, List.forall_mem_cons.mpr ⟨d_RF_tellUpTo_41, List.forall_mem_cons.mpr ⟨d_RF_tellUpTo_42, List.forall_mem_cons.mpr ⟨d_RF_tellUpTo_43, List.forall_mem_cons.mpr ⟨d_RF_tellUpTo_46, List.forall_mem_cons.mpr ⟨d_RF_tellUpTo_49, List.forall_mem_cons.mpr ⟨d_RF_tellUpTo_50, List.forall_mem_cons.mpr ⟨d_RF_tellUpTo_51, List.forall_mem_cons.mpr ⟨d_RF_tellUpTo_54, List.forall_mem_cons.mpr ⟨d_RF_tellUpTo_57, List.forall_mem_cons.mpr ⟨d_RF_tellUpTo_60, List.forall_mem_cons.mpr ⟨d_RF_tellUpTo_61, fun _ h => absurd h List.not_mem_nil⟩⟩⟩⟩⟩⟩⟩⟩⟩⟩⟩⟩⟩⟩⟩⟩⟩⟩⟩⟩⟩⟩⟩⟩⟩⟩⟩⟩⟩⟩⟩⟩
theorem i_RF_tellUpTo_ok : ∀ pc i n, i_RF_tellUpTo pc = some (i, n) → decode b_RF_tellUpTo pc = .ok (i, n) := fun pc i n h => d_RF_tellUpTo (pc, i, n) (am_find_mem h)
theorem i_RF_tellUpTo_0 : i_RF_tellUpTo 0 = some (.iload_n 2, 1) := rfl
theorem i_RF_tellUpTo_1 : i_RF_tellUpTo 1 = some (.istore_n 3, 1) := rfl
theorem i_RF_tellUpTo_2 : i_RF_tellUpTo 2 = some (.iload_n 3, 1) := rfl
theorem i_RF_tellUpTo_3 : i_RF_tellUpTo 3 = some (.aload_n 0, 1) := rfl
theorem i_RF_tellUpTo_4 : i_RF_tellUpTo 4 = some (.getfield 29, 3) := rfl
theorem i_RF_tellUpTo_7 : i_RF_tellUpTo 7 = some (.getfield 65, 3) := rfl
theorem i_RF_tellUpTo_10 : i_RF_tellUpTo 10 = some (.if_icmp .ge 50, 3) := rfl
theorem i_RF_tellUpTo_13 : i_RF_tellUpTo 13 = some (.aload_n 0, 1) := rfl
theorem i_RF_tellUpTo_14 : i_RF_tellUpTo 14 = some (.getfield 29, 3) := rfl
theorem i_RF_tellUpTo_17 : i_RF_tellUpTo 17 = some (.getfield 70, 3) := rfl
theorem i_RF_tellUpTo_20 : i_RF_tellUpTo 20 = some (.iload_n 3, 1) := rfl
theorem i_RF_tellUpTo_21 : i_RF_tellUpTo 21 = some (.iaload, 1) := rfl
theorem i_RF_tellUpTo_22 : i_RF_tellUpTo 22 = some (.iload_n 1, 1) := rfl
theorem i_RF_tellUpTo_23 : i_RF_tellUpTo 23 = some (.if_icmp .gt 37, 3) := rfl
theorem i_RF_tellUpTo_26 : i_RF_tellUpTo 26 = some (.aload_n 0, 1) := rfl
theorem i_RF_tellUpTo_27 : i_RF_tellUpTo 27 = some (.getfield 21, 3) := rfl
theorem i_RF_tellUpTo_30 : i_RF_tellUpTo 30 = some (.getfield 74, 3) := rfl
theorem i_RF_tellUpTo_33 : i_RF_tellUpTo 33 = some (.aload_n 0, 1) := rfl
theorem i_RF_tellUpTo_34 : i_RF_tellUpTo 34 = some (.getfield 29, 3) := rfl
theorem i_RF_tellUpTo_37 : i_RF_tellUpTo 37 = some (.getfield 78, 3) := rfl
theorem i_RF_tellUpTo_40 : i_RF_tellUpTo 40 = some (.iload_n 3, 1) := rfl
theorem i_RF_tellUpTo_41 : i_RF_tellUpTo 41 = some (.iaload, 1) := rfl
theorem i_RF_tellUpTo_42 : i_RF_tellUpTo 42 = some (.aload_n 0, 1) := rfl
theorem i_RF_tellUpTo_43 : i_RF_tellUpTo 43 = some (.getfield 29, 3) := rfl
theorem i_RF_tellUpTo_46 : i_RF_tellUpTo 46 = some (.getfield 81, 3) := rfl
theorem i_RF_tellUpTo_49 : i_RF_tellUpTo 49 = some (.iload_n 3, 1) := rfl
theorem i_RF_tellUpTo_50 : i_RF_tellUpTo 50 = some (.iaload, 1) := rfl
theorem i_RF_tellUpTo_51 : i_RF_tellUpTo 51 = some (.invokevirtual 84, 3) := rfl
theorem i_RF_tellUpTo_54 : i_RF_tellUpTo 54 = some (.iinc 3 1, 3) := rfl
theorem i_RF_tellUpTo_57 : i_RF_tellUpTo 57 = some (.goto (-55), 3) := rfl
theorem i_RF_tellUpTo_60 : i_RF_tellUpTo 60 = some (.iload_n 3, 1) := rfl
theorem i_RF_tellUpTo_61 : i_RF_tellUpTo 61 = some (.ireturn, 1) := rfl
abbrev w_RF_tellUpTo : List Jvm.Cond := Jvm.Cond.code y_RF_tellUpTo b_RF_tellUpTo 4 (some .int) :: vw_W
theorem c_RF_tellUpTo : Jvm.Cond.code y_RF_tellUpTo b_RF_tellUpTo 4 (some .int) ∈ vw_W := vw_t 782 (by decide +kernel) (by decide +kernel)
abbrev r_RF_tellUpTo : Room := { frames := 2, cells := 0, slots := 0, locals := 44 }
abbrev b_RF_sumOfTimes : ByteArray := prog_8_method_5_code
abbrev y_RF_sumOfTimes : MethodName := ⟨"ServerDesk$Referee", "sumOfTimes", "()I"⟩
def q_RF_sumOfTimes : List (Nat × Instr × Nat) := [(0, .iconst 0, 1), (1, .istore_n 1, 1), (2, .iconst 0, 1), (3, .istore_n 2, 1), (4, .iload_n 2, 1), (5, .aload_n 0, 1), (6, .getfield 21, 3), (9, .getfield 42, 3), (12, .getfield 90, 3), (15, .if_icmp .ge 60, 3), (18, .aload_n 0, 1), (19, .getfield 21, 3), (22, .getfield 42, 3), (25, .getfield 93, 3), (28, .iload_n 2, 1), (29, .iaload, 1), (30, .iconst (-1), 1), (31, .if_icmp .eq 38, 3), (34, .aload_n 0, 1), (35, .dup, 1), (36, .getfield 9, 3), (39, .iconst 1, 1), (40, .iadd, 1), (41, .putfield 9, 3), (44, .iload_n 1, 1), (45, .aload_n 0, 1), (46, .getfield 21, 3), (49, .getfield 42, 3), (52, .getfield 93, 3), (55, .iload_n 2, 1), (56, .iaload, 1), (57, .aload_n 0, 1), (58, .getfield 25, 3), (61, .getfield 96, 3), (64, .iload_n 2, 1), (65, .iaload, 1), (66, .isub, 1), (67, .iadd, 1), (68, .istore_n 1, 1), (69, .iinc 2 1, 3), (72, .goto (-68), 3), (75, .iload_n 1, 1), (76, .ireturn, 1)]
def i_RF_sumOfTimes : Nat → Option (Instr × Nat) := am_find q_RF_sumOfTimes
theorem d_RF_sumOfTimes_0 : decode b_RF_sumOfTimes 0 = .ok (.iconst 0, 1) := by decide +kernel
theorem d_RF_sumOfTimes_1 : decode b_RF_sumOfTimes 1 = .ok (.istore_n 1, 1) := by decide +kernel
theorem d_RF_sumOfTimes_2 : decode b_RF_sumOfTimes 2 = .ok (.iconst 0, 1) := by decide +kernel
theorem d_RF_sumOfTimes_3 : decode b_RF_sumOfTimes 3 = .ok (.istore_n 2, 1) := by decide +kernel
theorem d_RF_sumOfTimes_4 : decode b_RF_sumOfTimes 4 = .ok (.iload_n 2, 1) := by decide +kernel
theorem d_RF_sumOfTimes_5 : decode b_RF_sumOfTimes 5 = .ok (.aload_n 0, 1) := by decide +kernel
theorem d_RF_sumOfTimes_6 : decode b_RF_sumOfTimes 6 = .ok (.getfield 21, 3) := by decide +kernel
theorem d_RF_sumOfTimes_9 : decode b_RF_sumOfTimes 9 = .ok (.getfield 42, 3) := by decide +kernel
theorem d_RF_sumOfTimes_12 : decode b_RF_sumOfTimes 12 = .ok (.getfield 90, 3) := by decide +kernel
theorem d_RF_sumOfTimes_15 : decode b_RF_sumOfTimes 15 = .ok (.if_icmp .ge 60, 3) := by decide +kernel
theorem d_RF_sumOfTimes_18 : decode b_RF_sumOfTimes 18 = .ok (.aload_n 0, 1) := by decide +kernel
theorem d_RF_sumOfTimes_19 : decode b_RF_sumOfTimes 19 = .ok (.getfield 21, 3) := by decide +kernel
theorem d_RF_sumOfTimes_22 : decode b_RF_sumOfTimes 22 = .ok (.getfield 42, 3) := by decide +kernel
theorem d_RF_sumOfTimes_25 : decode b_RF_sumOfTimes 25 = .ok (.getfield 93, 3) := by decide +kernel
theorem d_RF_sumOfTimes_28 : decode b_RF_sumOfTimes 28 = .ok (.iload_n 2, 1) := by decide +kernel
theorem d_RF_sumOfTimes_29 : decode b_RF_sumOfTimes 29 = .ok (.iaload, 1) := by decide +kernel
theorem d_RF_sumOfTimes_30 : decode b_RF_sumOfTimes 30 = .ok (.iconst (-1), 1) := by decide +kernel
theorem d_RF_sumOfTimes_31 : decode b_RF_sumOfTimes 31 = .ok (.if_icmp .eq 38, 3) := by decide +kernel
theorem d_RF_sumOfTimes_34 : decode b_RF_sumOfTimes 34 = .ok (.aload_n 0, 1) := by decide +kernel
theorem d_RF_sumOfTimes_35 : decode b_RF_sumOfTimes 35 = .ok (.dup, 1) := by decide +kernel
theorem d_RF_sumOfTimes_36 : decode b_RF_sumOfTimes 36 = .ok (.getfield 9, 3) := by decide +kernel
theorem d_RF_sumOfTimes_39 : decode b_RF_sumOfTimes 39 = .ok (.iconst 1, 1) := by decide +kernel
theorem d_RF_sumOfTimes_40 : decode b_RF_sumOfTimes 40 = .ok (.iadd, 1) := by decide +kernel
theorem d_RF_sumOfTimes_41 : decode b_RF_sumOfTimes 41 = .ok (.putfield 9, 3) := by decide +kernel
theorem d_RF_sumOfTimes_44 : decode b_RF_sumOfTimes 44 = .ok (.iload_n 1, 1) := by decide +kernel
theorem d_RF_sumOfTimes_45 : decode b_RF_sumOfTimes 45 = .ok (.aload_n 0, 1) := by decide +kernel
theorem d_RF_sumOfTimes_46 : decode b_RF_sumOfTimes 46 = .ok (.getfield 21, 3) := by decide +kernel
theorem d_RF_sumOfTimes_49 : decode b_RF_sumOfTimes 49 = .ok (.getfield 42, 3) := by decide +kernel
theorem d_RF_sumOfTimes_52 : decode b_RF_sumOfTimes 52 = .ok (.getfield 93, 3) := by decide +kernel
theorem d_RF_sumOfTimes_55 : decode b_RF_sumOfTimes 55 = .ok (.iload_n 2, 1) := by decide +kernel
theorem d_RF_sumOfTimes_56 : decode b_RF_sumOfTimes 56 = .ok (.iaload, 1) := by decide +kernel
theorem d_RF_sumOfTimes_57 : decode b_RF_sumOfTimes 57 = .ok (.aload_n 0, 1) := by decide +kernel
theorem d_RF_sumOfTimes_58 : decode b_RF_sumOfTimes 58 = .ok (.getfield 25, 3) := by decide +kernel
theorem d_RF_sumOfTimes_61 : decode b_RF_sumOfTimes 61 = .ok (.getfield 96, 3) := by decide +kernel
theorem d_RF_sumOfTimes_64 : decode b_RF_sumOfTimes 64 = .ok (.iload_n 2, 1) := by decide +kernel
theorem d_RF_sumOfTimes_65 : decode b_RF_sumOfTimes 65 = .ok (.iaload, 1) := by decide +kernel
theorem d_RF_sumOfTimes_66 : decode b_RF_sumOfTimes 66 = .ok (.isub, 1) := by decide +kernel
theorem d_RF_sumOfTimes_67 : decode b_RF_sumOfTimes 67 = .ok (.iadd, 1) := by decide +kernel
theorem d_RF_sumOfTimes_68 : decode b_RF_sumOfTimes 68 = .ok (.istore_n 1, 1) := by decide +kernel
theorem d_RF_sumOfTimes_69 : decode b_RF_sumOfTimes 69 = .ok (.iinc 2 1, 3) := by decide +kernel
theorem d_RF_sumOfTimes_72 : decode b_RF_sumOfTimes 72 = .ok (.goto (-68), 3) := by decide +kernel
theorem d_RF_sumOfTimes_75 : decode b_RF_sumOfTimes 75 = .ok (.iload_n 1, 1) := by decide +kernel
theorem d_RF_sumOfTimes_76 : decode b_RF_sumOfTimes 76 = .ok (.ireturn, 1) := by decide +kernel
theorem d_RF_sumOfTimes : ∀ z ∈ q_RF_sumOfTimes, decode b_RF_sumOfTimes z.1 = .ok z.2 := List.forall_mem_cons.mpr ⟨d_RF_sumOfTimes_0, List.forall_mem_cons.mpr ⟨d_RF_sumOfTimes_1, List.forall_mem_cons.mpr ⟨d_RF_sumOfTimes_2, List.forall_mem_cons.mpr ⟨d_RF_sumOfTimes_3, List.forall_mem_cons.mpr ⟨d_RF_sumOfTimes_4, List.forall_mem_cons.mpr ⟨d_RF_sumOfTimes_5, List.forall_mem_cons.mpr ⟨d_RF_sumOfTimes_6, List.forall_mem_cons.mpr ⟨d_RF_sumOfTimes_9, List.forall_mem_cons.mpr ⟨d_RF_sumOfTimes_12, List.forall_mem_cons.mpr ⟨d_RF_sumOfTimes_15, List.forall_mem_cons.mpr ⟨d_RF_sumOfTimes_18, List.forall_mem_cons.mpr ⟨d_RF_sumOfTimes_19, List.forall_mem_cons.mpr ⟨d_RF_sumOfTimes_22, List.forall_mem_cons.mpr ⟨d_RF_sumOfTimes_25, List.forall_mem_cons.mpr ⟨d_RF_sumOfTimes_28, List.forall_mem_cons.mpr ⟨d_RF_sumOfTimes_29, List.forall_mem_cons.mpr ⟨d_RF_sumOfTimes_30, List.forall_mem_cons.mpr ⟨d_RF_sumOfTimes_31, List.forall_mem_cons.mpr ⟨d_RF_sumOfTimes_34, List.forall_mem_cons.mpr ⟨d_RF_sumOfTimes_35, List.forall_mem_cons.mpr ⟨d_RF_sumOfTimes_36, List.forall_mem_cons.mpr ⟨d_RF_sumOfTimes_39, List.forall_mem_cons.mpr ⟨d_RF_sumOfTimes_40, List.forall_mem_cons.mpr ⟨d_RF_sumOfTimes_41, List.forall_mem_cons.mpr ⟨d_RF_sumOfTimes_44, List.forall_mem_cons.mpr ⟨d_RF_sumOfTimes_45, List.forall_mem_cons.mpr ⟨d_RF_sumOfTimes_46, List.forall_mem_cons.mpr ⟨d_RF_sumOfTimes_49, List.forall_mem_cons.mpr ⟨d_RF_sumOfTimes_52, List.forall_mem_cons.mpr ⟨d_RF_sumOfTimes_55, List.forall_mem_cons.mpr ⟨d_RF_sumOfTimes_56, List.forall_mem_cons.mpr ⟨d_RF_sumOfTimes_57, List.forall_mem_cons.mpr ⟨d_RF_sumOfTimes_58, List.forall_mem_cons.mpr ⟨d_RF_sumOfTimes_61, List.forall_mem_cons.mpr ⟨d_RF_sumOfTimes_64, List.forall_mem_cons.mpr ⟨d_RF_sumOfTimes_65, List.forall_mem_cons.mpr ⟨d_RF_sumOfTimes_66, List.forall_mem_cons.mpr ⟨d_RF_sumOfTimes_67, List.forall_mem_cons.mpr ⟨d_RF_sumOfTimes_68, List.forall_mem_cons.mpr ⟨d_RF_sumOfTimes_69, List.forall_mem_cons.mpr ⟨d_RF_sumOfTimes_72, List.forall_mem_cons.mpr ⟨d_RF_sumOfTimes_75, List.forall_mem_cons.mpr ⟨d_RF_sumOfTimes_76, fun _ h => absurd h List.not_mem_nil⟩⟩⟩⟩⟩⟩⟩⟩⟩⟩⟩⟩⟩⟩⟩⟩⟩⟩⟩⟩⟩⟩⟩⟩⟩⟩⟩⟩⟩⟩⟩⟩⟩⟩⟩⟩⟩⟩⟩⟩⟩⟩⟩
theorem i_RF_sumOfTimes_ok : ∀ pc i n, i_RF_sumOfTimes pc = some (i, n) → decode b_RF_sumOfTimes pc = .ok (i, n) := fun pc i n h => d_RF_sumOfTimes (pc, i, n) (am_find_mem h)
theorem i_RF_sumOfTimes_0 : i_RF_sumOfTimes 0 = some (.iconst 0, 1) := rfl
theorem i_RF_sumOfTimes_1 : i_RF_sumOfTimes 1 = some (.istore_n 1, 1) := rfl
theorem i_RF_sumOfTimes_2 : i_RF_sumOfTimes 2 = some (.iconst 0, 1) := rfl
theorem i_RF_sumOfTimes_3 : i_RF_sumOfTimes 3 = some (.istore_n 2, 1) := rfl
theorem i_RF_sumOfTimes_4 : i_RF_sumOfTimes 4 = some (.iload_n 2, 1) := rfl
theorem i_RF_sumOfTimes_5 : i_RF_sumOfTimes 5 = some (.aload_n 0, 1) := rfl
theorem i_RF_sumOfTimes_6 : i_RF_sumOfTimes 6 = some (.getfield 21, 3) := rfl
theorem i_RF_sumOfTimes_9 : i_RF_sumOfTimes 9 = some (.getfield 42, 3) := rfl
theorem i_RF_sumOfTimes_12 : i_RF_sumOfTimes 12 = some (.getfield 90, 3) := rfl
theorem i_RF_sumOfTimes_15 : i_RF_sumOfTimes 15 = some (.if_icmp .ge 60, 3) := rfl
theorem i_RF_sumOfTimes_18 : i_RF_sumOfTimes 18 = some (.aload_n 0, 1) := rfl
theorem i_RF_sumOfTimes_19 : i_RF_sumOfTimes 19 = some (.getfield 21, 3) := rfl
theorem i_RF_sumOfTimes_22 : i_RF_sumOfTimes 22 = some (.getfield 42, 3) := rfl
theorem i_RF_sumOfTimes_25 : i_RF_sumOfTimes 25 = some (.getfield 93, 3) := rfl
theorem i_RF_sumOfTimes_28 : i_RF_sumOfTimes 28 = some (.iload_n 2, 1) := rfl
theorem i_RF_sumOfTimes_29 : i_RF_sumOfTimes 29 = some (.iaload, 1) := rfl
theorem i_RF_sumOfTimes_30 : i_RF_sumOfTimes 30 = some (.iconst (-1), 1) := rfl
theorem i_RF_sumOfTimes_31 : i_RF_sumOfTimes 31 = some (.if_icmp .eq 38, 3) := rfl
theorem i_RF_sumOfTimes_34 : i_RF_sumOfTimes 34 = some (.aload_n 0, 1) := rfl
theorem i_RF_sumOfTimes_35 : i_RF_sumOfTimes 35 = some (.dup, 1) := rfl
theorem i_RF_sumOfTimes_36 : i_RF_sumOfTimes 36 = some (.getfield 9, 3) := rfl
theorem i_RF_sumOfTimes_39 : i_RF_sumOfTimes 39 = some (.iconst 1, 1) := rfl
theorem i_RF_sumOfTimes_40 : i_RF_sumOfTimes 40 = some (.iadd, 1) := rfl
theorem i_RF_sumOfTimes_41 : i_RF_sumOfTimes 41 = some (.putfield 9, 3) := rfl
theorem i_RF_sumOfTimes_44 : i_RF_sumOfTimes 44 = some (.iload_n 1, 1) := rfl
theorem i_RF_sumOfTimes_45 : i_RF_sumOfTimes 45 = some (.aload_n 0, 1) := rfl
theorem i_RF_sumOfTimes_46 : i_RF_sumOfTimes 46 = some (.getfield 21, 3) := rfl
theorem i_RF_sumOfTimes_49 : i_RF_sumOfTimes 49 = some (.getfield 42, 3) := rfl
theorem i_RF_sumOfTimes_52 : i_RF_sumOfTimes 52 = some (.getfield 93, 3) := rfl
theorem i_RF_sumOfTimes_55 : i_RF_sumOfTimes 55 = some (.iload_n 2, 1) := rfl
theorem i_RF_sumOfTimes_56 : i_RF_sumOfTimes 56 = some (.iaload, 1) := rfl
theorem i_RF_sumOfTimes_57 : i_RF_sumOfTimes 57 = some (.aload_n 0, 1) := rfl
theorem i_RF_sumOfTimes_58 : i_RF_sumOfTimes 58 = some (.getfield 25, 3) := rfl
theorem i_RF_sumOfTimes_61 : i_RF_sumOfTimes 61 = some (.getfield 96, 3) := rfl
theorem i_RF_sumOfTimes_64 : i_RF_sumOfTimes 64 = some (.iload_n 2, 1) := rfl
theorem i_RF_sumOfTimes_65 : i_RF_sumOfTimes 65 = some (.iaload, 1) := rfl
theorem i_RF_sumOfTimes_66 : i_RF_sumOfTimes 66 = some (.isub, 1) := rfl
theorem i_RF_sumOfTimes_67 : i_RF_sumOfTimes 67 = some (.iadd, 1) := rfl
theorem i_RF_sumOfTimes_68 : i_RF_sumOfTimes 68 = some (.istore_n 1, 1) := rfl
theorem i_RF_sumOfTimes_69 : i_RF_sumOfTimes 69 = some (.iinc 2 1, 3) := rfl
theorem i_RF_sumOfTimes_72 : i_RF_sumOfTimes 72 = some (.goto (-68), 3) := rfl
theorem i_RF_sumOfTimes_75 : i_RF_sumOfTimes 75 = some (.iload_n 1, 1) := rfl
theorem i_RF_sumOfTimes_76 : i_RF_sumOfTimes 76 = some (.ireturn, 1) := rfl
abbrev w_RF_sumOfTimes : List Jvm.Cond := Jvm.Cond.code y_RF_sumOfTimes b_RF_sumOfTimes 3 (some .int) :: vw_W
theorem c_RF_sumOfTimes : Jvm.Cond.code y_RF_sumOfTimes b_RF_sumOfTimes 3 (some .int) ∈ vw_W := vw_t 788 (by decide +kernel) (by decide +kernel)
abbrev r_RF_sumOfTimes : Room := { frames := 0, cells := 0, slots := 0, locals := 0 }
abbrev b_LW_state : ByteArray := method_15_code
abbrev y_LW_state : MethodName := ⟨"ServerDeskLaw", "state", "(LServerDesk;I[J)I"⟩
def q_LW_state : List (Nat × Instr × Nat) := [(0, .aload_n 2, 1), (1, .iconst 0, 1), (2, .aload_n 0, 1), (3, .iload_n 1, 1), (4, .invokevirtual 61, 3), (7, .i2l, 1), (8, .lastore, 1), (9, .goto 6, 3), (12, .astore_n 3, 1), (13, .iconst 1, 1), (14, .ireturn, 1), (15, .iconst 0, 1), (16, .ireturn, 1)]
def i_LW_state : Nat → Option (Instr × Nat) := am_find q_LW_state
theorem d_LW_state_0 : decode b_LW_state 0 = .ok (.aload_n 2, 1) := by decide +kernel
theorem d_LW_state_1 : decode b_LW_state 1 = .ok (.iconst 0, 1) := by decide +kernel
theorem d_LW_state_2 : decode b_LW_state 2 = .ok (.aload_n 0, 1) := by decide +kernel
theorem d_LW_state_3 : decode b_LW_state 3 = .ok (.iload_n 1, 1) := by decide +kernel
theorem d_LW_state_4 : decode b_LW_state 4 = .ok (.invokevirtual 61, 3) := by decide +kernel
theorem d_LW_state_7 : decode b_LW_state 7 = .ok (.i2l, 1) := by decide +kernel
theorem d_LW_state_8 : decode b_LW_state 8 = .ok (.lastore, 1) := by decide +kernel
theorem d_LW_state_9 : decode b_LW_state 9 = .ok (.goto 6, 3) := by decide +kernel
theorem d_LW_state_12 : decode b_LW_state 12 = .ok (.astore_n 3, 1) := by decide +kernel
theorem d_LW_state_13 : decode b_LW_state 13 = .ok (.iconst 1, 1) := by decide +kernel
theorem d_LW_state_14 : decode b_LW_state 14 = .ok (.ireturn, 1) := by decide +kernel
theorem d_LW_state_15 : decode b_LW_state 15 = .ok (.iconst 0, 1) := by decide +kernel
theorem d_LW_state_16 : decode b_LW_state 16 = .ok (.ireturn, 1) := by decide +kernel
theorem d_LW_state : ∀ z ∈ q_LW_state, decode b_LW_state z.1 = .ok z.2 := List.forall_mem_cons.mpr ⟨d_LW_state_0, List.forall_mem_cons.mpr ⟨d_LW_state_1, List.forall_mem_cons.mpr ⟨d_LW_state_2, List.forall_mem_cons.mpr ⟨d_LW_state_3, List.forall_mem_cons.mpr ⟨d_LW_state_4, List.forall_mem_cons.mpr ⟨d_LW_state_7, List.forall_mem_cons.mpr ⟨d_LW_state_8, List.forall_mem_cons.mpr ⟨d_LW_state_9, List.forall_mem_cons.mpr ⟨d_LW_state_12, List.forall_mem_cons.mpr ⟨d_LW_state_13, List.forall_mem_cons.mpr ⟨d_LW_state_14, List.forall_mem_cons.mpr ⟨d_LW_state_15, List.forall_mem_cons.mpr ⟨d_LW_state_16, fun _ h => absurd h List.not_mem_nil⟩⟩⟩⟩⟩⟩⟩⟩⟩⟩⟩⟩⟩
theorem i_LW_state_ok : ∀ pc i n, i_LW_state pc = some (i, n) → decode b_LW_state pc = .ok (i, n) := fun pc i n h => d_LW_state (pc, i, n) (am_find_mem h)
theorem i_LW_state_0 : i_LW_state 0 = some (.aload_n 2, 1) := rfl
theorem i_LW_state_1 : i_LW_state 1 = some (.iconst 0, 1) := rfl
theorem i_LW_state_2 : i_LW_state 2 = some (.aload_n 0, 1) := rfl
theorem i_LW_state_3 : i_LW_state 3 = some (.iload_n 1, 1) := rfl
theorem i_LW_state_4 : i_LW_state 4 = some (.invokevirtual 61, 3) := rfl
theorem i_LW_state_7 : i_LW_state 7 = some (.i2l, 1) := rfl
theorem i_LW_state_8 : i_LW_state 8 = some (.lastore, 1) := rfl
theorem i_LW_state_9 : i_LW_state 9 = some (.goto 6, 3) := rfl
theorem i_LW_state_12 : i_LW_state 12 = some (.astore_n 3, 1) := rfl
theorem i_LW_state_13 : i_LW_state 13 = some (.iconst 1, 1) := rfl
theorem i_LW_state_14 : i_LW_state 14 = some (.ireturn, 1) := rfl
theorem i_LW_state_15 : i_LW_state 15 = some (.iconst 0, 1) := rfl
theorem i_LW_state_16 : i_LW_state 16 = some (.ireturn, 1) := rfl
abbrev b_SD_state : ByteArray := prog_1_method_14_code
abbrev y_SD_state : MethodName := ⟨"ServerDesk", "state", "(I)I"⟩
def q_SD_state : List (Nat × Instr × Nat) := [(0, .iload_n 1, 1), (1, .tableswitch 114 0 7 #[47, 55, 63, 71, 79, 84, 95, 103], 47), (48, .aload_n 0, 1), (49, .getfield 60, 3), (52, .getfield 218, 3), (55, .ireturn, 1), (56, .aload_n 0, 1), (57, .getfield 60, 3), (60, .getfield 221, 3), (63, .ireturn, 1), (64, .aload_n 0, 1), (65, .getfield 51, 3), (68, .getfield 224, 3), (71, .ireturn, 1), (72, .aload_n 0, 1), (73, .getfield 60, 3), (76, .getfield 227, 3), (79, .ireturn, 1), (80, .aload_n 0, 1), (81, .getfield 72, 3), (84, .ireturn, 1), (85, .aload_n 0, 1), (86, .getfield 51, 3), (89, .getfield 156, 3), (92, .getfield 228, 3), (95, .ireturn, 1), (96, .aload_n 0, 1), (97, .getfield 10, 3), (100, .getfield 231, 3), (103, .ireturn, 1), (104, .aload_n 0, 1), (105, .getfield 51, 3), (108, .getfield 234, 3), (111, .getfield 238, 3), (114, .ireturn, 1), (115, .new 80, 3), (118, .dup, 1), (119, .ldc 243, 2), (121, .invokespecial 84, 3), (124, .athrow, 1)]
def i_SD_state : Nat → Option (Instr × Nat) := am_find q_SD_state
theorem d_SD_state_0 : decode b_SD_state 0 = .ok (.iload_n 1, 1) := by decide +kernel
theorem d_SD_state_1 : decode b_SD_state 1 = .ok (.tableswitch 114 0 7 #[47, 55, 63, 71, 79, 84, 95, 103], 47) := by decide +kernel
theorem d_SD_state_48 : decode b_SD_state 48 = .ok (.aload_n 0, 1) := by decide +kernel
theorem d_SD_state_49 : decode b_SD_state 49 = .ok (.getfield 60, 3) := by decide +kernel
theorem d_SD_state_52 : decode b_SD_state 52 = .ok (.getfield 218, 3) := by decide +kernel
theorem d_SD_state_55 : decode b_SD_state 55 = .ok (.ireturn, 1) := by decide +kernel
theorem d_SD_state_56 : decode b_SD_state 56 = .ok (.aload_n 0, 1) := by decide +kernel
theorem d_SD_state_57 : decode b_SD_state 57 = .ok (.getfield 60, 3) := by decide +kernel
theorem d_SD_state_60 : decode b_SD_state 60 = .ok (.getfield 221, 3) := by decide +kernel
theorem d_SD_state_63 : decode b_SD_state 63 = .ok (.ireturn, 1) := by decide +kernel
theorem d_SD_state_64 : decode b_SD_state 64 = .ok (.aload_n 0, 1) := by decide +kernel
theorem d_SD_state_65 : decode b_SD_state 65 = .ok (.getfield 51, 3) := by decide +kernel
theorem d_SD_state_68 : decode b_SD_state 68 = .ok (.getfield 224, 3) := by decide +kernel
theorem d_SD_state_71 : decode b_SD_state 71 = .ok (.ireturn, 1) := by decide +kernel
theorem d_SD_state_72 : decode b_SD_state 72 = .ok (.aload_n 0, 1) := by decide +kernel
theorem d_SD_state_73 : decode b_SD_state 73 = .ok (.getfield 60, 3) := by decide +kernel
theorem d_SD_state_76 : decode b_SD_state 76 = .ok (.getfield 227, 3) := by decide +kernel
theorem d_SD_state_79 : decode b_SD_state 79 = .ok (.ireturn, 1) := by decide +kernel
theorem d_SD_state_80 : decode b_SD_state 80 = .ok (.aload_n 0, 1) := by decide +kernel
theorem d_SD_state_81 : decode b_SD_state 81 = .ok (.getfield 72, 3) := by decide +kernel
theorem d_SD_state_84 : decode b_SD_state 84 = .ok (.ireturn, 1) := by decide +kernel
theorem d_SD_state_85 : decode b_SD_state 85 = .ok (.aload_n 0, 1) := by decide +kernel
theorem d_SD_state_86 : decode b_SD_state 86 = .ok (.getfield 51, 3) := by decide +kernel
theorem d_SD_state_89 : decode b_SD_state 89 = .ok (.getfield 156, 3) := by decide +kernel
theorem d_SD_state_92 : decode b_SD_state 92 = .ok (.getfield 228, 3) := by decide +kernel
theorem d_SD_state_95 : decode b_SD_state 95 = .ok (.ireturn, 1) := by decide +kernel
theorem d_SD_state_96 : decode b_SD_state 96 = .ok (.aload_n 0, 1) := by decide +kernel
theorem d_SD_state_97 : decode b_SD_state 97 = .ok (.getfield 10, 3) := by decide +kernel
theorem d_SD_state_100 : decode b_SD_state 100 = .ok (.getfield 231, 3) := by decide +kernel
theorem d_SD_state_103 : decode b_SD_state 103 = .ok (.ireturn, 1) := by decide +kernel
theorem d_SD_state_104 : decode b_SD_state 104 = .ok (.aload_n 0, 1) := by decide +kernel
theorem d_SD_state_105 : decode b_SD_state 105 = .ok (.getfield 51, 3) := by decide +kernel
theorem d_SD_state_108 : decode b_SD_state 108 = .ok (.getfield 234, 3) := by decide +kernel
theorem d_SD_state_111 : decode b_SD_state 111 = .ok (.getfield 238, 3) := by decide +kernel
theorem d_SD_state_114 : decode b_SD_state 114 = .ok (.ireturn, 1) := by decide +kernel
theorem d_SD_state_115 : decode b_SD_state 115 = .ok (.new 80, 3) := by decide +kernel
theorem d_SD_state_118 : decode b_SD_state 118 = .ok (.dup, 1) := by decide +kernel
theorem d_SD_state_119 : decode b_SD_state 119 = .ok (.ldc 243, 2) := by decide +kernel
theorem d_SD_state_121 : decode b_SD_state 121 = .ok (.invokespecial 84, 3) := by decide +kernel
theorem d_SD_state_124 : decode b_SD_state 124 = .ok (.athrow, 1) := by decide +kernel
theorem d_SD_state : ∀ z ∈ q_SD_state, decode b_SD_state z.1 = .ok z.2 := List.forall_mem_cons.mpr ⟨d_SD_state_0, List.forall_mem_cons.mpr ⟨d_SD_state_1, List.forall_mem_cons.mpr ⟨d_SD_state_48, List.forall_mem_cons.mpr ⟨d_SD_state_49, List.forall_mem_cons.mpr ⟨d_SD_state_52, List.forall_mem_cons.mpr ⟨d_SD_state_55, List.forall_mem_cons.mpr ⟨d_SD_state_56, List.forall_mem_cons.mpr ⟨d_SD_state_57, List.forall_mem_cons.mpr ⟨d_SD_state_60, List.forall_mem_cons.mpr ⟨d_SD_state_63, List.forall_mem_cons.mpr ⟨d_SD_state_64, List.forall_mem_cons.mpr ⟨d_SD_state_65, List.forall_mem_cons.mpr ⟨d_SD_state_68, List.forall_mem_cons.mpr ⟨d_SD_state_71, List.forall_mem_cons.mpr ⟨d_SD_state_72, List.forall_mem_cons.mpr ⟨d_SD_state_73, List.forall_mem_cons.mpr ⟨d_SD_state_76, List.forall_mem_cons.mpr ⟨d_SD_state_79, List.forall_mem_cons.mpr ⟨d_SD_state_80, List.forall_mem_cons.mpr ⟨d_SD_state_81, List.forall_mem_cons.mpr ⟨d_SD_state_84, List.forall_mem_cons.mpr ⟨d_SD_state_85, List.forall_mem_cons.mpr ⟨d_SD_state_86, List.forall_mem_cons.mpr ⟨d_SD_state_89, List.forall_mem_cons.mpr ⟨d_SD_state_92, List.forall_mem_cons.mpr ⟨d_SD_state_95, List.forall_mem_cons.mpr ⟨d_SD_state_96, List.forall_mem_cons.mpr ⟨d_SD_state_97, List.forall_mem_cons.mpr ⟨d_SD_state_100, List.forall_mem_cons.mpr ⟨d_SD_state_103, List.forall_mem_cons.mpr ⟨d_SD_state_104, List.forall_mem_cons.mpr ⟨d_SD_state_105, List.forall_mem_cons.mpr ⟨d_SD_state_108, List.forall_mem_cons.mpr ⟨d_SD_state_111, List.forall_mem_cons.mpr ⟨d_SD_state_114, List.forall_mem_cons.mpr ⟨d_SD_state_115, List.forall_mem_cons.mpr ⟨d_SD_state_118, List.forall_mem_cons.mpr ⟨d_SD_state_119, List.forall_mem_cons.mpr ⟨d_SD_state_121, List.forall_mem_cons.mpr ⟨d_SD_state_124, fun _ h => absurd h List.not_mem_nil⟩⟩⟩⟩⟩⟩⟩⟩⟩⟩⟩⟩⟩⟩⟩⟩⟩⟩⟩⟩⟩⟩⟩⟩⟩⟩⟩⟩⟩⟩⟩⟩⟩⟩⟩⟩⟩⟩⟩⟩
theorem i_SD_state_ok : ∀ pc i n, i_SD_state pc = some (i, n) → decode b_SD_state pc = .ok (i, n) := fun pc i n h => d_SD_state (pc, i, n) (am_find_mem h)
theorem i_SD_state_0 : i_SD_state 0 = some (.iload_n 1, 1) := rfl
theorem i_SD_state_1 : i_SD_state 1 = some (.tableswitch 114 0 7 #[47, 55, 63, 71, 79, 84, 95, 103], 47) := rfl
theorem i_SD_state_48 : i_SD_state 48 = some (.aload_n 0, 1) := rfl
theorem i_SD_state_49 : i_SD_state 49 = some (.getfield 60, 3) := rfl
theorem i_SD_state_52 : i_SD_state 52 = some (.getfield 218, 3) := rfl
theorem i_SD_state_55 : i_SD_state 55 = some (.ireturn, 1) := rfl
theorem i_SD_state_56 : i_SD_state 56 = some (.aload_n 0, 1) := rfl
theorem i_SD_state_57 : i_SD_state 57 = some (.getfield 60, 3) := rfl
theorem i_SD_state_60 : i_SD_state 60 = some (.getfield 221, 3) := rfl
theorem i_SD_state_63 : i_SD_state 63 = some (.ireturn, 1) := rfl
theorem i_SD_state_64 : i_SD_state 64 = some (.aload_n 0, 1) := rfl
theorem i_SD_state_65 : i_SD_state 65 = some (.getfield 51, 3) := rfl
theorem i_SD_state_68 : i_SD_state 68 = some (.getfield 224, 3) := rfl
theorem i_SD_state_71 : i_SD_state 71 = some (.ireturn, 1) := rfl
theorem i_SD_state_72 : i_SD_state 72 = some (.aload_n 0, 1) := rfl
theorem i_SD_state_73 : i_SD_state 73 = some (.getfield 60, 3) := rfl
theorem i_SD_state_76 : i_SD_state 76 = some (.getfield 227, 3) := rfl
theorem i_SD_state_79 : i_SD_state 79 = some (.ireturn, 1) := rfl
theorem i_SD_state_80 : i_SD_state 80 = some (.aload_n 0, 1) := rfl
theorem i_SD_state_81 : i_SD_state 81 = some (.getfield 72, 3) := rfl
theorem i_SD_state_84 : i_SD_state 84 = some (.ireturn, 1) := rfl
theorem i_SD_state_85 : i_SD_state 85 = some (.aload_n 0, 1) := rfl
theorem i_SD_state_86 : i_SD_state 86 = some (.getfield 51, 3) := rfl
theorem i_SD_state_89 : i_SD_state 89 = some (.getfield 156, 3) := rfl
theorem i_SD_state_92 : i_SD_state 92 = some (.getfield 228, 3) := rfl
theorem i_SD_state_95 : i_SD_state 95 = some (.ireturn, 1) := rfl
theorem i_SD_state_96 : i_SD_state 96 = some (.aload_n 0, 1) := rfl
theorem i_SD_state_97 : i_SD_state 97 = some (.getfield 10, 3) := rfl
theorem i_SD_state_100 : i_SD_state 100 = some (.getfield 231, 3) := rfl
theorem i_SD_state_103 : i_SD_state 103 = some (.ireturn, 1) := rfl
theorem i_SD_state_104 : i_SD_state 104 = some (.aload_n 0, 1) := rfl
theorem i_SD_state_105 : i_SD_state 105 = some (.getfield 51, 3) := rfl
theorem i_SD_state_108 : i_SD_state 108 = some (.getfield 234, 3) := rfl
theorem i_SD_state_111 : i_SD_state 111 = some (.getfield 238, 3) := rfl
theorem i_SD_state_114 : i_SD_state 114 = some (.ireturn, 1) := rfl
theorem i_SD_state_115 : i_SD_state 115 = some (.new 80, 3) := rfl
theorem i_SD_state_118 : i_SD_state 118 = some (.dup, 1) := rfl
theorem i_SD_state_119 : i_SD_state 119 = some (.ldc 243, 2) := rfl
theorem i_SD_state_121 : i_SD_state 121 = some (.invokespecial 84, 3) := rfl
theorem i_SD_state_124 : i_SD_state 124 = some (.athrow, 1) := rfl
abbrev w_SD_state : List Jvm.Cond := Jvm.Cond.code y_SD_state b_SD_state 2 (some .int) :: vw_W
theorem c_SD_state : Jvm.Cond.code y_SD_state b_SD_state 2 (some .int) ∈ vw_W := vw_t 795 (by decide +kernel) (by decide +kernel)
abbrev r_SD_state : Room := { frames := 6, cells := 0, slots := 0, locals := 100 }
