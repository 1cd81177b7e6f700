/-! contracts: the reference, keep, layBack, and what only answers (wip/whole/p46.py) -/
/-- n places of a cell into another -/
def mo_cp (a b n : Nat) (M : am_M) : am_M := fun p q => if p = a ∧ q < n then M b q else M p q
def mo_mv (a b : Nat) (M : am_M) : am_M := am_up M 50 a (M 50 b)
theorem mo_cp_0 (a b : Nat) (M : am_M) : mo_cp a b 0 M = M := by funext p q; simp [mo_cp]
theorem mo_cp_k (a b n : Nat) (M : am_M) {p q : Nat} (h : p ≠ a) : mo_cp a b n M p q = M p q := by simp [mo_cp, h]
theorem mo_cp_s {a b n : Nat} {M : am_M} (h : b ≠ a) : am_up (mo_cp a b n M) a n (M b n) = mo_cp a b (n + 1) M := by
  funext p q
  simp only [mo_cp, am_up]
  by_cases e1 : p = a
  · by_cases e2 : q = n
    · subst e1; subst e2
      rw [if_pos ⟨rfl, rfl⟩, if_pos ⟨rfl, by omega⟩]
    · rw [if_neg (fun z => e2 z.2)]
      by_cases e3 : q < n
      · rw [if_pos ⟨e1, e3⟩, if_pos ⟨e1, by omega⟩]
      · rw [if_neg (fun z => e3 z.2), if_neg (fun z => by omega)]
  · rw [if_neg (fun z => e1 z.1), if_neg (fun z => e1 z.1), if_neg (fun z => e1 z.1)]
theorem mo_cp_up {a b n c j : Nat} {v : Int} {M : am_M} (h1 : c ≠ a) (h2 : c ≠ b) : am_up (mo_cp a b n M) c j v = mo_cp a b n (am_up M c j v) := by
  funext p q
  simp only [mo_cp, am_up]
  by_cases e1 : p = a
  · rw [if_neg (fun z => h1 (by omega))]
    by_cases e3 : q < n
    · rw [if_pos ⟨e1, e3⟩, if_pos ⟨e1, e3⟩, if_neg (fun z => h2 (by omega))]
    · rw [if_neg (fun z => e3 z.2), if_neg (fun z => e3 z.2), if_neg (fun z => h1 (by omega))]
  · rw [if_neg (c := p = a ∧ q < n) (fun z => e1 z.1), if_neg (c := p = a ∧ q < n) (fun z => e1 z.1)]
theorem mo_cp2_s {a b c d n : Nat} {M : am_M} (h1 : a ≠ c) (h2 : a ≠ d) (h3 : b ≠ a) (h4 : d ≠ c) (h5 : b ≠ c) : am_up (am_up (mo_cp c d n (mo_cp a b n M)) a n (mo_cp c d n (mo_cp a b n M) b n)) c n (am_up (mo_cp c d n (mo_cp a b n M)) a n (mo_cp c d n (mo_cp a b n M) b n) d n) = mo_cp c d (n + 1) (mo_cp a b (n + 1) M) := by
  rw [mo_cp_k c d n _ h5, mo_cp_k a b n _ h3, mo_cp_up h1 h2, mo_cp_s h3, mo_cp_k c d n _ h4, mo_cp_s h4]

def mo_kp0 (M : am_M) : am_M := mo_mv 35 29 (mo_mv 34 26 (mo_mv 33 24 (mo_mv 32 20 (mo_mv 31 19 M))))
def mo_kp1 (n : Nat) (M : am_M) : am_M := mo_cp 73 66 n (mo_cp 72 65 n (mo_cp 71 64 n M))
theorem mo_kp1_0 (M : am_M) : mo_kp1 0 M = M := by simp only [mo_kp1, mo_cp_0]
theorem mo_kp1_s (n : Nat) (M : am_M) : am_up (am_up (am_up (mo_kp1 n M) 71 n ((mo_kp1 n M) 64 n)) 72 n ((am_up (mo_kp1 n M) 71 n ((mo_kp1 n M) 64 n)) 65 n)) 73 n ((am_up (am_up (mo_kp1 n M) 71 n ((mo_kp1 n M) 64 n)) 72 n ((am_up (mo_kp1 n M) 71 n ((mo_kp1 n M) 64 n)) 65 n)) 66 n) = mo_kp1 (n + 1) M := by
  simp only [mo_kp1]
  rw [mo_cp_k 73 66 n _ (show 64 ≠ 73 by decide), mo_cp_k 72 65 n _ (show 64 ≠ 72 by decide), mo_cp_k 71 64 n _ (show 64 ≠ 71 by decide)]
  rw [mo_cp_up (a := 73) (c := 71) (by decide) (by decide), mo_cp_up (a := 72) (c := 71) (by decide) (by decide), mo_cp_s (a := 71) (by decide)]
  rw [mo_cp_k 73 66 n _ (show 65 ≠ 73 by decide), mo_cp_k 72 65 n _ (show 65 ≠ 72 by decide)]
  rw [mo_cp_up (a := 73) (c := 72) (by decide) (by decide), mo_cp_s (a := 72) (by decide)]
  rw [mo_cp_k 73 66 n _ (show 66 ≠ 73 by decide), mo_cp_s (a := 73) (by decide)]
def mo_kp2 (n : Nat) (M : am_M) : am_M := mo_cp 76 69 n (mo_cp 75 68 n M)
theorem mo_kp2_0 (M : am_M) : mo_kp2 0 M = M := by simp only [mo_kp2, mo_cp_0]
theorem mo_kp2_s (n : Nat) (M : am_M) : am_up (am_up (mo_kp2 n M) 75 n ((mo_kp2 n M) 68 n)) 76 n ((am_up (mo_kp2 n M) 75 n ((mo_kp2 n M) 68 n)) 69 n) = mo_kp2 (n + 1) M := mo_cp2_s (by decide) (by decide) (by decide) (by decide) (by decide)
def mo_kp3 (n : Nat) (M : am_M) : am_M := mo_cp 77 70 n (mo_cp 74 67 n M)
theorem mo_kp3_0 (M : am_M) : mo_kp3 0 M = M := by simp only [mo_kp3, mo_cp_0]
theorem mo_kp3_s (n : Nat) (M : am_M) : am_up (am_up (mo_kp3 n M) 74 n ((mo_kp3 n M) 67 n)) 77 n ((am_up (mo_kp3 n M) 74 n ((mo_kp3 n M) 67 n)) 70 n) = mo_kp3 (n + 1) M := mo_cp2_s (by decide) (by decide) (by decide) (by decide) (by decide)
def mo_kp (M : am_M) : am_M := mo_kp3 2001 (mo_kp2 40 (mo_kp1 5 (mo_kp0 M)))
def P_MO_keep : am_P := fun av M => match av with
  | [.inr (.inl i)] => i = 50
  | _ => False
def f_MO_keep : am_Fr := fun av M => match av with
  | [.inr (.inl i)] => none
  | _ => none
def g_MO_keep : am_Fm := fun av M => match av with
  | [.inr (.inl i)] => mo_kp M
  | _ => M
def inv_MO_keep : List am_V → am_M → Nat → am_K := fun av M μ pc ls st M2 => match av with
  | [.inr (.inl i)] => (pc = 0 ∧ ls = am_l0 [.inr (.inl i)] 2 ∧ st = [] ∧ M = M2 ∧ μ = 100000) ∨ (∃ t : Nat, pc = 42 ∧ ls = [some (.inr (.inl i)), some (.inl (t : Int))] ∧ st = [] ∧ M2 = mo_kp1 t (mo_kp0 M) ∧ t ≤ 5 ∧ μ = 20000 - t) ∨ (∃ t : Nat, pc = 91 ∧ ls = [some (.inr (.inl i)), some (.inl (t : Int))] ∧ st = [] ∧ M2 = mo_kp2 t (mo_kp1 5 (mo_kp0 M)) ∧ t ≤ 40 ∧ μ = 10000 - t) ∨ (∃ t : Nat, pc = 129 ∧ ls = [some (.inr (.inl i)), some (.inl (t : Int))] ∧ st = [] ∧ M2 = mo_kp3 t (mo_kp2 40 (mo_kp1 5 (mo_kp0 M))) ∧ t ≤ 2001 ∧ μ = 2001 - t)
  | _ => False
theorem m_MO_keep (l : Launch) : am_MF l y_MO_keep w_MO_keep r_MO_keep P_MO_keep f_MO_keep g_MO_keep := by
  refine am_mkL (fun pc => pc == 42 || pc == 91 || pc == 129) i_MO_keep_ok fd_MO_ok am_CC0 (plainFor_of_name (by decide +kernel)) (by decide) ?_ 60 inv_MO_keep ?_ ?_
  · intro av M h
    unfold P_MO_keep at h
    split at h
    · exact ⟨Nat.le_of_ble_eq_true rfl, rfl⟩
    · exact h.elim
  · intro av M h
    unfold P_MO_keep at h
    split at h
    · exact ⟨_, Or.inl ⟨rfl, rfl, rfl, rfl, rfl⟩⟩
    · exact h.elim
  · intro av M h μ pc ls st M2 hi
    unfold P_MO_keep at h
    split at h
    · rename_i i
      subst h
      rcases hi with ⟨rfl, rfl, rfl, rfl, rfl⟩ | ⟨t, rfl, rfl, rfl, rfl, ht, rfl⟩ | ⟨t, rfl, rfl, rfl, rfl, ht, rfl⟩ | ⟨t, rfl, rfl, rfl, rfl, ht, rfl⟩
      · skip
        refine xs_aload_n (q := 1) i_MO_keep_0 rfl rfl (xs_n rfl ?_)
        refine xs_aload_n (q := 2) i_MO_keep_1 rfl rfl (xs_n rfl ?_)
        refine xs_geti (q := 5) i_MO_keep_2 rfl fd_MO_132 sg_50 rfl (xs_n rfl ?_)
        refine xs_puti (q := 8) i_MO_keep_5 rfl fd_MO_211 sg_50 rfl (xs_n rfl ?_)
        refine xs_aload_n (q := 9) i_MO_keep_8 rfl rfl (xs_n rfl ?_)
        refine xs_aload_n (q := 10) i_MO_keep_9 rfl rfl (xs_n rfl ?_)
        refine xs_geti (q := 13) i_MO_keep_10 rfl fd_MO_135 sg_50 rfl (xs_n rfl ?_)
        refine xs_puti (q := 16) i_MO_keep_13 rfl fd_MO_214 sg_50 rfl (xs_n rfl ?_)
        refine xs_aload_n (q := 17) i_MO_keep_16 rfl rfl (xs_n rfl ?_)
        refine xs_aload_n (q := 18) i_MO_keep_17 rfl rfl (xs_n rfl ?_)
        refine xs_geti (q := 21) i_MO_keep_18 rfl fd_MO_138 sg_50 rfl (xs_n rfl ?_)
        refine xs_puti (q := 24) i_MO_keep_21 rfl fd_MO_217 sg_50 rfl (xs_n rfl ?_)
        refine xs_aload_n (q := 25) i_MO_keep_24 rfl rfl (xs_n rfl ?_)
        refine xs_aload_n (q := 26) i_MO_keep_25 rfl rfl (xs_n rfl ?_)
        refine xs_geti (q := 29) i_MO_keep_26 rfl fd_MO_141 sg_50 rfl (xs_n rfl ?_)
        refine xs_puti (q := 32) i_MO_keep_29 rfl fd_MO_220 sg_50 rfl (xs_n rfl ?_)
        refine xs_aload_n (q := 33) i_MO_keep_32 rfl rfl (xs_n rfl ?_)
        refine xs_aload_n (q := 34) i_MO_keep_33 rfl rfl (xs_n rfl ?_)
        refine xs_geti (q := 37) i_MO_keep_34 rfl fd_MO_144 sg_50 rfl (xs_n rfl ?_)
        refine xs_puti (q := 40) i_MO_keep_37 rfl fd_MO_223 sg_50 rfl (xs_n rfl ?_)
        refine xs_iconst (q := 41) i_MO_keep_40 rfl (xs_n rfl ?_)
        refine xs_istore_n (q := 42) (ls2 := [_, _]) i_MO_keep_41 rfl rfl rfl (xs_z rfl ?_)
        exact ⟨20000, by omega, Or.inr (Or.inl ⟨0, rfl, rfl, rfl, (mo_kp1_0 _).symm, by omega, rfl⟩)⟩
      · skip
        refine xs_iload_n (q := 43) i_MO_keep_42 rfl rfl (xs_n rfl ?_)
        refine xs_iconst (q := 44) i_MO_keep_43 rfl (xs_n rfl ?_)
        refine xs_ic_ge (q := 89) (r := 47) i_MO_keep_44 rfl rfl ⟨by unfold am_R; omega, by unfold am_R; omega⟩ (fun h44 => (xs_n rfl ?_)) (fun h44 => (xs_n rfl ?_))
        · refine xs_iconst (q := 90) i_MO_keep_89 rfl (xs_n rfl ?_)
          refine xs_istore_n (q := 91) (ls2 := [_, _]) i_MO_keep_90 rfl rfl rfl (xs_z rfl ?_)
          obtain rfl : t = 5 := by omega
          exact ⟨10000, by omega, Or.inr (Or.inr (Or.inl ⟨0, rfl, rfl, rfl, (mo_kp2_0 _).symm, by omega, rfl⟩))⟩
        · refine xs_aload_n (q := 48) i_MO_keep_47 rfl rfl (xs_n rfl ?_)
          refine xs_getr (q := 51) i_MO_keep_48 rfl fd_MO_71 sg_50 rfl (xs_n rfl ?_)
          refine xs_iload_n (q := 52) i_MO_keep_51 rfl rfl (xs_n rfl ?_)
          refine xs_aload_n (q := 53) i_MO_keep_52 rfl rfl (xs_n rfl ?_)
          refine xs_getr (q := 56) i_MO_keep_53 rfl fd_MO_50 sg_50 rfl (xs_n rfl ?_)
          refine xs_iload_n (q := 57) i_MO_keep_56 rfl rfl (xs_n rfl ?_)
          refine xs_iaload (q := 58) i_MO_keep_57 rfl sg_64 rfl (by omega) (xs_n rfl ?_)
          refine xs_iastore (q := 59) i_MO_keep_58 rfl sg_71 (by omega) (xs_n rfl ?_)
          refine xs_aload_n (q := 60) i_MO_keep_59 rfl rfl (xs_n rfl ?_)
          refine xs_getr (q := 63) i_MO_keep_60 rfl fd_MO_74 sg_50 rfl (xs_n rfl ?_)
          refine xs_iload_n (q := 64) i_MO_keep_63 rfl rfl (xs_n rfl ?_)
          refine xs_aload_n (q := 65) i_MO_keep_64 rfl rfl (xs_n rfl ?_)
          refine xs_getr (q := 68) i_MO_keep_65 rfl fd_MO_53 sg_50 rfl (xs_n rfl ?_)
          refine xs_iload_n (q := 69) i_MO_keep_68 rfl rfl (xs_n rfl ?_)
          refine xs_iaload (q := 70) i_MO_keep_69 rfl sg_65 rfl (by omega) (xs_n rfl ?_)
          refine xs_iastore (q := 71) i_MO_keep_70 rfl sg_72 (by omega) (xs_n rfl ?_)
          refine xs_aload_n (q := 72) i_MO_keep_71 rfl rfl (xs_n rfl ?_)
          refine xs_getr (q := 75) i_MO_keep_72 rfl fd_MO_77 sg_50 rfl (xs_n rfl ?_)
          refine xs_iload_n (q := 76) i_MO_keep_75 rfl rfl (xs_n rfl ?_)
          refine xs_aload_n (q := 77) i_MO_keep_76 rfl rfl (xs_n rfl ?_)
          refine xs_getr (q := 80) i_MO_keep_77 rfl fd_MO_56 sg_50 rfl (xs_n rfl ?_)
          refine xs_iload_n (q := 81) i_MO_keep_80 rfl rfl (xs_n rfl ?_)
          refine xs_iaload (q := 82) i_MO_keep_81 rfl sg_66 rfl (by omega) (xs_n rfl ?_)
          refine xs_iastore (q := 83) i_MO_keep_82 rfl sg_73 (by omega) (xs_n rfl ?_)
          refine xs_iinc (q := 86) (ls2 := [_, _]) i_MO_keep_83 rfl rfl rfl (xs_n rfl ?_)
          refine xs_goto (q := 42) i_MO_keep_86 rfl (xs_z rfl ?_)
          exact ⟨20000 - (t + 1), by omega, Or.inr (Or.inl ⟨t + 1, rfl, rfl, rfl, by simp only [Int.toNat_natCast]; exact mo_kp1_s _ _, by omega, rfl⟩)⟩
      · skip
        refine xs_iload_n (q := 92) i_MO_keep_91 rfl rfl (xs_n rfl ?_)
        refine xs_bipush (q := 94) i_MO_keep_92 rfl (by decide) (xs_n rfl ?_)
        refine xs_ic_ge (q := 127) (r := 97) i_MO_keep_94 rfl rfl ⟨by unfold am_R; omega, by unfold am_R; omega⟩ (fun h94 => (xs_n rfl ?_)) (fun h94 => (xs_n rfl ?_))
        · refine xs_iconst (q := 128) i_MO_keep_127 rfl (xs_n rfl ?_)
          refine xs_istore_n (q := 129) (ls2 := [_, _]) i_MO_keep_128 rfl rfl rfl (xs_z rfl ?_)
          obtain rfl : t = 40 := by omega
          exact ⟨2001, by omega, Or.inr (Or.inr (Or.inr ⟨0, rfl, rfl, rfl, (mo_kp3_0 _).symm, by omega, rfl⟩))⟩
        · refine xs_aload_n (q := 98) i_MO_keep_97 rfl rfl (xs_n rfl ?_)
          refine xs_getr (q := 101) i_MO_keep_98 rfl fd_MO_83 sg_50 rfl (xs_n rfl ?_)
          refine xs_iload_n (q := 102) i_MO_keep_101 rfl rfl (xs_n rfl ?_)
          refine xs_aload_n (q := 103) i_MO_keep_102 rfl rfl (xs_n rfl ?_)
          refine xs_getr (q := 106) i_MO_keep_103 rfl fd_MO_62 sg_50 rfl (xs_n rfl ?_)
          refine xs_iload_n (q := 107) i_MO_keep_106 rfl rfl (xs_n rfl ?_)
          refine xs_iaload (q := 108) i_MO_keep_107 rfl sg_68 rfl (by omega) (xs_n rfl ?_)
          refine xs_iastore (q := 109) i_MO_keep_108 rfl sg_75 (by omega) (xs_n rfl ?_)
          refine xs_aload_n (q := 110) i_MO_keep_109 rfl rfl (xs_n rfl ?_)
          refine xs_getr (q := 113) i_MO_keep_110 rfl fd_MO_86 sg_50 rfl (xs_n rfl ?_)
          refine xs_iload_n (q := 114) i_MO_keep_113 rfl rfl (xs_n rfl ?_)
          refine xs_aload_n (q := 115) i_MO_keep_114 rfl rfl (xs_n rfl ?_)
          refine xs_getr (q := 118) i_MO_keep_115 rfl fd_MO_65 sg_50 rfl (xs_n rfl ?_)
          refine xs_iload_n (q := 119) i_MO_keep_118 rfl rfl (xs_n rfl ?_)
          refine xs_iaload (q := 120) i_MO_keep_119 rfl sg_69 rfl (by omega) (xs_n rfl ?_)
          refine xs_iastore (q := 121) i_MO_keep_120 rfl sg_76 (by omega) (xs_n rfl ?_)
          refine xs_iinc (q := 124) (ls2 := [_, _]) i_MO_keep_121 rfl rfl rfl (xs_n rfl ?_)
          refine xs_goto (q := 91) i_MO_keep_124 rfl (xs_z rfl ?_)
          exact ⟨10000 - (t + 1), by omega, Or.inr (Or.inr (Or.inl ⟨t + 1, rfl, rfl, rfl, by simp only [Int.toNat_natCast]; exact mo_kp2_s _ _, by omega, rfl⟩))⟩
      · skip
        refine xs_iload_n (q := 130) i_MO_keep_129 rfl rfl (xs_n rfl ?_)
        refine xs_sipush (q := 133) i_MO_keep_130 rfl (by decide) (xs_n rfl ?_)
        refine xs_ic_gt (q := 166) (r := 136) i_MO_keep_133 rfl rfl ⟨by unfold am_R; omega, by unfold am_R; omega⟩ (fun h133 => (xs_n rfl ?_)) (fun h133 => (xs_n rfl ?_))
        · refine xs_ret i_MO_keep_166 ?_
          obtain rfl : t = 2001 := by omega
          exact xs_fin rfl rfl trivial
        · refine xs_aload_n (q := 137) i_MO_keep_136 rfl rfl (xs_n rfl ?_)
          refine xs_getr (q := 140) i_MO_keep_137 rfl fd_MO_80 sg_50 rfl (xs_n rfl ?_)
          refine xs_iload_n (q := 141) i_MO_keep_140 rfl rfl (xs_n rfl ?_)
          refine xs_aload_n (q := 142) i_MO_keep_141 rfl rfl (xs_n rfl ?_)
          refine xs_getr (q := 145) i_MO_keep_142 rfl fd_MO_59 sg_50 rfl (xs_n rfl ?_)
          refine xs_iload_n (q := 146) i_MO_keep_145 rfl rfl (xs_n rfl ?_)
          refine xs_iaload (q := 147) i_MO_keep_146 rfl sg_67 rfl (by omega) (xs_n rfl ?_)
          refine xs_iastore (q := 148) i_MO_keep_147 rfl sg_74 (by omega) (xs_n rfl ?_)
          refine xs_aload_n (q := 149) i_MO_keep_148 rfl rfl (xs_n rfl ?_)
          refine xs_getr (q := 152) i_MO_keep_149 rfl fd_MO_89 sg_50 rfl (xs_n rfl ?_)
          refine xs_iload_n (q := 153) i_MO_keep_152 rfl rfl (xs_n rfl ?_)
          refine xs_aload_n (q := 154) i_MO_keep_153 rfl rfl (xs_n rfl ?_)
          refine xs_getr (q := 157) i_MO_keep_154 rfl fd_MO_68 sg_50 rfl (xs_n rfl ?_)
          refine xs_iload_n (q := 158) i_MO_keep_157 rfl rfl (xs_n rfl ?_)
          refine xs_iaload (q := 159) i_MO_keep_158 rfl sg_70 rfl (by omega) (xs_n rfl ?_)
          refine xs_iastore (q := 160) i_MO_keep_159 rfl sg_77 (by omega) (xs_n rfl ?_)
          refine xs_iinc (q := 163) (ls2 := [_, _]) i_MO_keep_160 rfl rfl rfl (xs_n rfl ?_)
          refine xs_goto (q := 129) i_MO_keep_163 rfl (xs_z rfl ?_)
          exact ⟨2001 - (t + 1), by omega, Or.inr (Or.inr (Or.inr ⟨t + 1, rfl, rfl, rfl, by simp only [Int.toNat_natCast]; exact mo_kp3_s _ _, by omega, rfl⟩))⟩
    · exact h.elim
def mo_lb0 (M : am_M) : am_M := mo_mv 29 35 (mo_mv 26 34 (mo_mv 24 33 (mo_mv 20 32 (mo_mv 19 31 M))))
def mo_lb1 (n : Nat) (M : am_M) : am_M := mo_cp 66 73 n (mo_cp 65 72 n (mo_cp 64 71 n M))
theorem mo_lb1_0 (M : am_M) : mo_lb1 0 M = M := by simp only [mo_lb1, mo_cp_0]
theorem mo_lb1_s (n : Nat) (M : am_M) : am_up (am_up (am_up (mo_lb1 n M) 64 n ((mo_lb1 n M) 71 n)) 65 n ((am_up (mo_lb1 n M) 64 n ((mo_lb1 n M) 71 n)) 72 n)) 66 n ((am_up (am_up (mo_lb1 n M) 64 n ((mo_lb1 n M) 71 n)) 65 n ((am_up (mo_lb1 n M) 64 n ((mo_lb1 n M) 71 n)) 72 n)) 73 n) = mo_lb1 (n + 1) M := by
  simp only [mo_lb1]
  rw [mo_cp_k 66 73 n _ (show 71 ≠ 66 by decide), mo_cp_k 65 72 n _ (show 71 ≠ 65 by decide), mo_cp_k 64 71 n _ (show 71 ≠ 64 by decide)]
  rw [mo_cp_up (a := 66) (c := 64) (by decide) (by decide), mo_cp_up (a := 65) (c := 64) (by decide) (by decide), mo_cp_s (a := 64) (by decide)]
  rw [mo_cp_k 66 73 n _ (show 72 ≠ 66 by decide), mo_cp_k 65 72 n _ (show 72 ≠ 65 by decide)]
  rw [mo_cp_up (a := 66) (c := 65) (by decide) (by decide), mo_cp_s (a := 65) (by decide)]
  rw [mo_cp_k 66 73 n _ (show 73 ≠ 66 by decide), mo_cp_s (a := 66) (by decide)]
def mo_lb2 (n : Nat) (M : am_M) : am_M := mo_cp 69 76 n (mo_cp 68 75 n M)
theorem mo_lb2_0 (M : am_M) : mo_lb2 0 M = M := by simp only [mo_lb2, mo_cp_0]
theorem mo_lb2_s (n : Nat) (M : am_M) : am_up (am_up (mo_lb2 n M) 68 n ((mo_lb2 n M) 75 n)) 69 n ((am_up (mo_lb2 n M) 68 n ((mo_lb2 n M) 75 n)) 76 n) = mo_lb2 (n + 1) M := mo_cp2_s (by decide) (by decide) (by decide) (by decide) (by decide)
def mo_lb3 (n : Nat) (M : am_M) : am_M := mo_cp 70 77 n (mo_cp 67 74 n M)
theorem mo_lb3_0 (M : am_M) : mo_lb3 0 M = M := by simp only [mo_lb3, mo_cp_0]
theorem mo_lb3_s (n : Nat) (M : am_M) : am_up (am_up (mo_lb3 n M) 67 n ((mo_lb3 n M) 74 n)) 70 n ((am_up (mo_lb3 n M) 67 n ((mo_lb3 n M) 74 n)) 77 n) = mo_lb3 (n + 1) M := mo_cp2_s (by decide) (by decide) (by decide) (by decide) (by decide)
def mo_lb (M : am_M) : am_M := mo_lb3 2001 (mo_lb2 40 (mo_lb1 5 (mo_lb0 M)))
def P_MO_layBack : am_P := fun av M => match av with
  | [.inr (.inl i)] => i = 50
  | _ => False
def f_MO_layBack : am_Fr := fun av M => match av with
  | [.inr (.inl i)] => none
  | _ => none
def g_MO_layBack : am_Fm := fun av M => match av with
  | [.inr (.inl i)] => mo_lb M
  | _ => M
def inv_MO_layBack : List am_V → am_M → Nat → am_K := fun av M μ pc ls st M2 => match av with
  | [.inr (.inl i)] => (pc = 0 ∧ ls = am_l0 [.inr (.inl i)] 2 ∧ st = [] ∧ M = M2 ∧ μ = 100000) ∨ (∃ t : Nat, pc = 42 ∧ ls = [some (.inr (.inl i)), some (.inl (t : Int))] ∧ st = [] ∧ M2 = mo_lb1 t (mo_lb0 M) ∧ t ≤ 5 ∧ μ = 20000 - t) ∨ (∃ t : Nat, pc = 91 ∧ ls = [some (.inr (.inl i)), some (.inl (t : Int))] ∧ st = [] ∧ M2 = mo_lb2 t (mo_lb1 5 (mo_lb0 M)) ∧ t ≤ 40 ∧ μ = 10000 - t) ∨ (∃ t : Nat, pc = 129 ∧ ls = [some (.inr (.inl i)), some (.inl (t : Int))] ∧ st = [] ∧ M2 = mo_lb3 t (mo_lb2 40 (mo_lb1 5 (mo_lb0 M))) ∧ t ≤ 2001 ∧ μ = 2001 - t)
  | _ => False
theorem m_MO_layBack (l : Launch) : am_MF l y_MO_layBack w_MO_layBack r_MO_layBack P_MO_layBack f_MO_layBack g_MO_layBack := by
  refine am_mkL (fun pc => pc == 42 || pc == 91 || pc == 129) i_MO_layBack_ok fd_MO_ok am_CC0 (plainFor_of_name (by decide +kernel)) (by decide) ?_ 60 inv_MO_layBack ?_ ?_
  · intro av M h
    unfold P_MO_layBack at h
    split at h
    · exact ⟨Nat.le_of_ble_eq_true rfl, rfl⟩
    · exact h.elim
  · intro av M h
    unfold P_MO_layBack at h
    split at h
    · exact ⟨_, Or.inl ⟨rfl, rfl, rfl, rfl, rfl⟩⟩
    · exact h.elim
  · intro av M h μ pc ls st M2 hi
    unfold P_MO_layBack at h
    split at h
    · rename_i i
      subst h
      rcases hi with ⟨rfl, rfl, rfl, rfl, rfl⟩ | ⟨t, rfl, rfl, rfl, rfl, ht, rfl⟩ | ⟨t, rfl, rfl, rfl, rfl, ht, rfl⟩ | ⟨t, rfl, rfl, rfl, rfl, ht, rfl⟩
      · skip
        refine xs_aload_n (q := 1) i_MO_layBack_0 rfl rfl (xs_n rfl ?_)
        refine xs_aload_n (q := 2) i_MO_layBack_1 rfl rfl (xs_n rfl ?_)
        refine xs_geti (q := 5) i_MO_layBack_2 rfl fd_MO_211 sg_50 rfl (xs_n rfl ?_)
        refine xs_puti (q := 8) i_MO_layBack_5 rfl fd_MO_132 sg_50 rfl (xs_n rfl ?_)
        refine xs_aload_n (q := 9) i_MO_layBack_8 rfl rfl (xs_n rfl ?_)
        refine xs_aload_n (q := 10) i_MO_layBack_9 rfl rfl (xs_n rfl ?_)
        refine xs_geti (q := 13) i_MO_layBack_10 rfl fd_MO_214 sg_50 rfl (xs_n rfl ?_)
        refine xs_puti (q := 16) i_MO_layBack_13 rfl fd_MO_135 sg_50 rfl (xs_n rfl ?_)
        refine xs_aload_n (q := 17) i_MO_layBack_16 rfl rfl (xs_n rfl ?_)
        refine xs_aload_n (q := 18) i_MO_layBack_17 rfl rfl (xs_n rfl ?_)
        refine xs_geti (q := 21) i_MO_layBack_18 rfl fd_MO_217 sg_50 rfl (xs_n rfl ?_)
        refine xs_puti (q := 24) i_MO_layBack_21 rfl fd_MO_138 sg_50 rfl (xs_n rfl ?_)
        refine xs_aload_n (q := 25) i_MO_layBack_24 rfl rfl (xs_n rfl ?_)
        refine xs_aload_n (q := 26) i_MO_layBack_25 rfl rfl (xs_n rfl ?_)
        refine xs_geti (q := 29) i_MO_layBack_26 rfl fd_MO_220 sg_50 rfl (xs_n rfl ?_)
        refine xs_puti (q := 32) i_MO_layBack_29 rfl fd_MO_141 sg_50 rfl (xs_n rfl ?_)
        refine xs_aload_n (q := 33) i_MO_layBack_32 rfl rfl (xs_n rfl ?_)
        refine xs_aload_n (q := 34) i_MO_layBack_33 rfl rfl (xs_n rfl ?_)
        refine xs_geti (q := 37) i_MO_layBack_34 rfl fd_MO_223 sg_50 rfl (xs_n rfl ?_)
        refine xs_puti (q := 40) i_MO_layBack_37 rfl fd_MO_144 sg_50 rfl (xs_n rfl ?_)
        refine xs_iconst (q := 41) i_MO_layBack_40 rfl (xs_n rfl ?_)
        refine xs_istore_n (q := 42) (ls2 := [_, _]) i_MO_layBack_41 rfl rfl rfl (xs_z rfl ?_)
        exact ⟨20000, by omega, Or.inr (Or.inl ⟨0, rfl, rfl, rfl, (mo_lb1_0 _).symm, by omega, rfl⟩)⟩
      · skip
        refine xs_iload_n (q := 43) i_MO_layBack_42 rfl rfl (xs_n rfl ?_)
        refine xs_iconst (q := 44) i_MO_layBack_43 rfl (xs_n rfl ?_)
        refine xs_ic_ge (q := 89) (r := 47) i_MO_layBack_44 rfl rfl ⟨by unfold am_R; omega, by unfold am_R; omega⟩ (fun h44 => (xs_n rfl ?_)) (fun h44 => (xs_n rfl ?_))
        · refine xs_iconst (q := 90) i_MO_layBack_89 rfl (xs_n rfl ?_)
          refine xs_istore_n (q := 91) (ls2 := [_, _]) i_MO_layBack_90 rfl rfl rfl (xs_z rfl ?_)
          obtain rfl : t = 5 := by omega
          exact ⟨10000, by omega, Or.inr (Or.inr (Or.inl ⟨0, rfl, rfl, rfl, (mo_lb2_0 _).symm, by omega, rfl⟩))⟩
        · refine xs_aload_n (q := 48) i_MO_layBack_47 rfl rfl (xs_n rfl ?_)
          refine xs_getr (q := 51) i_MO_layBack_48 rfl fd_MO_50 sg_50 rfl (xs_n rfl ?_)
          refine xs_iload_n (q := 52) i_MO_layBack_51 rfl rfl (xs_n rfl ?_)
          refine xs_aload_n (q := 53) i_MO_layBack_52 rfl rfl (xs_n rfl ?_)
          refine xs_getr (q := 56) i_MO_layBack_53 rfl fd_MO_71 sg_50 rfl (xs_n rfl ?_)
          refine xs_iload_n (q := 57) i_MO_layBack_56 rfl rfl (xs_n rfl ?_)
          refine xs_iaload (q := 58) i_MO_layBack_57 rfl sg_71 rfl (by omega) (xs_n rfl ?_)
          refine xs_iastore (q := 59) i_MO_layBack_58 rfl sg_64 (by omega) (xs_n rfl ?_)
          refine xs_aload_n (q := 60) i_MO_layBack_59 rfl rfl (xs_n rfl ?_)
          refine xs_getr (q := 63) i_MO_layBack_60 rfl fd_MO_53 sg_50 rfl (xs_n rfl ?_)
          refine xs_iload_n (q := 64) i_MO_layBack_63 rfl rfl (xs_n rfl ?_)
          refine xs_aload_n (q := 65) i_MO_layBack_64 rfl rfl (xs_n rfl ?_)
          refine xs_getr (q := 68) i_MO_layBack_65 rfl fd_MO_74 sg_50 rfl (xs_n rfl ?_)
          refine xs_iload_n (q := 69) i_MO_layBack_68 rfl rfl (xs_n rfl ?_)
          refine xs_iaload (q := 70) i_MO_layBack_69 rfl sg_72 rfl (by omega) (xs_n rfl ?_)
          refine xs_iastore (q := 71) i_MO_layBack_70 rfl sg_65 (by omega) (xs_n rfl ?_)
          refine xs_aload_n (q := 72) i_MO_layBack_71 rfl rfl (xs_n rfl ?_)
          refine xs_getr (q := 75) i_MO_layBack_72 rfl fd_MO_56 sg_50 rfl (xs_n rfl ?_)
          refine xs_iload_n (q := 76) i_MO_layBack_75 rfl rfl (xs_n rfl ?_)
          refine xs_aload_n (q := 77) i_MO_layBack_76 rfl rfl (xs_n rfl ?_)
          refine xs_getr (q := 80) i_MO_layBack_77 rfl fd_MO_77 sg_50 rfl (xs_n rfl ?_)
          refine xs_iload_n (q := 81) i_MO_layBack_80 rfl rfl (xs_n rfl ?_)
          refine xs_iaload (q := 82) i_MO_layBack_81 rfl sg_73 rfl (by omega) (xs_n rfl ?_)
          refine xs_iastore (q := 83) i_MO_layBack_82 rfl sg_66 (by omega) (xs_n rfl ?_)
          refine xs_iinc (q := 86) (ls2 := [_, _]) i_MO_layBack_83 rfl rfl rfl (xs_n rfl ?_)
          refine xs_goto (q := 42) i_MO_layBack_86 rfl (xs_z rfl ?_)
          exact ⟨20000 - (t + 1), by omega, Or.inr (Or.inl ⟨t + 1, rfl, rfl, rfl, by simp only [Int.toNat_natCast]; exact mo_lb1_s _ _, by omega, rfl⟩)⟩
      · skip
        refine xs_iload_n (q := 92) i_MO_layBack_91 rfl rfl (xs_n rfl ?_)
        refine xs_bipush (q := 94) i_MO_layBack_92 rfl (by decide) (xs_n rfl ?_)
        refine xs_ic_ge (q := 127) (r := 97) i_MO_layBack_94 rfl rfl ⟨by unfold am_R; omega, by unfold am_R; omega⟩ (fun h94 => (xs_n rfl ?_)) (fun h94 => (xs_n rfl ?_))
        · refine xs_iconst (q := 128) i_MO_layBack_127 rfl (xs_n rfl ?_)
          refine xs_istore_n (q := 129) (ls2 := [_, _]) i_MO_layBack_128 rfl rfl rfl (xs_z rfl ?_)
          obtain rfl : t = 40 := by omega
          exact ⟨2001, by omega, Or.inr (Or.inr (Or.inr ⟨0, rfl, rfl, rfl, (mo_lb3_0 _).symm, by omega, rfl⟩))⟩
        · refine xs_aload_n (q := 98) i_MO_layBack_97 rfl rfl (xs_n rfl ?_)
          refine xs_getr (q := 101) i_MO_layBack_98 rfl fd_MO_62 sg_50 rfl (xs_n rfl ?_)
          refine xs_iload_n (q := 102) i_MO_layBack_101 rfl rfl (xs_n rfl ?_)
          refine xs_aload_n (q := 103) i_MO_layBack_102 rfl rfl (xs_n rfl ?_)
          refine xs_getr (q := 106) i_MO_layBack_103 rfl fd_MO_83 sg_50 rfl (xs_n rfl ?_)
          refine xs_iload_n (q := 107) i_MO_layBack_106 rfl rfl (xs_n rfl ?_)
          refine xs_iaload (q := 108) i_MO_layBack_107 rfl sg_75 rfl (by omega) (xs_n rfl ?_)
          refine xs_iastore (q := 109) i_MO_layBack_108 rfl sg_68 (by omega) (xs_n rfl ?_)
          refine xs_aload_n (q := 110) i_MO_layBack_109 rfl rfl (xs_n rfl ?_)
          refine xs_getr (q := 113) i_MO_layBack_110 rfl fd_MO_65 sg_50 rfl (xs_n rfl ?_)
          refine xs_iload_n (q := 114) i_MO_layBack_113 rfl rfl (xs_n rfl ?_)
          refine xs_aload_n (q := 115) i_MO_layBack_114 rfl rfl (xs_n rfl ?_)
          refine xs_getr (q := 118) i_MO_layBack_115 rfl fd_MO_86 sg_50 rfl (xs_n rfl ?_)
          refine xs_iload_n (q := 119) i_MO_layBack_118 rfl rfl (xs_n rfl ?_)
          refine xs_iaload (q := 120) i_MO_layBack_119 rfl sg_76 rfl (by omega) (xs_n rfl ?_)
          refine xs_iastore (q := 121) i_MO_layBack_120 rfl sg_69 (by omega) (xs_n rfl ?_)
          refine xs_iinc (q := 124) (ls2 := [_, _]) i_MO_layBack_121 rfl rfl rfl (xs_n rfl ?_)
          refine xs_goto (q := 91) i_MO_layBack_124 rfl (xs_z rfl ?_)
          exact ⟨10000 - (t + 1), by omega, Or.inr (Or.inr (Or.inl ⟨t + 1, rfl, rfl, rfl, by simp only [Int.toNat_natCast]; exact mo_lb2_s _ _, by omega, rfl⟩))⟩
      · skip
        refine xs_iload_n (q := 130) i_MO_layBack_129 rfl rfl (xs_n rfl ?_)
        refine xs_sipush (q := 133) i_MO_layBack_130 rfl (by decide) (xs_n rfl ?_)
        refine xs_ic_gt (q := 166) (r := 136) i_MO_layBack_133 rfl rfl ⟨by unfold am_R; omega, by unfold am_R; omega⟩ (fun h133 => (xs_n rfl ?_)) (fun h133 => (xs_n rfl ?_))
        · refine xs_ret i_MO_layBack_166 ?_
          obtain rfl : t = 2001 := by omega
          exact xs_fin rfl rfl trivial
        · refine xs_aload_n (q := 137) i_MO_layBack_136 rfl rfl (xs_n rfl ?_)
          refine xs_getr (q := 140) i_MO_layBack_137 rfl fd_MO_59 sg_50 rfl (xs_n rfl ?_)
          refine xs_iload_n (q := 141) i_MO_layBack_140 rfl rfl (xs_n rfl ?_)
          refine xs_aload_n (q := 142) i_MO_layBack_141 rfl rfl (xs_n rfl ?_)
          refine xs_getr (q := 145) i_MO_layBack_142 rfl fd_MO_80 sg_50 rfl (xs_n rfl ?_)
          refine xs_iload_n (q := 146) i_MO_layBack_145 rfl rfl (xs_n rfl ?_)
          refine xs_iaload (q := 147) i_MO_layBack_146 rfl sg_74 rfl (by omega) (xs_n rfl ?_)
          refine xs_iastore (q := 148) i_MO_layBack_147 rfl sg_67 (by omega) (xs_n rfl ?_)
          refine xs_aload_n (q := 149) i_MO_layBack_148 rfl rfl (xs_n rfl ?_)
          refine xs_getr (q := 152) i_MO_layBack_149 rfl fd_MO_68 sg_50 rfl (xs_n rfl ?_)
          refine xs_iload_n (q := 153) i_MO_layBack_152 rfl rfl (xs_n rfl ?_)
          refine xs_aload_n (q := 154) i_MO_layBack_153 rfl rfl (xs_n rfl ?_)
          refine xs_getr (q := 157) i_MO_layBack_154 rfl fd_MO_89 sg_50 rfl (xs_n rfl ?_)
          refine xs_iload_n (q := 158) i_MO_layBack_157 rfl rfl (xs_n rfl ?_)
          refine xs_iaload (q := 159) i_MO_layBack_158 rfl sg_77 rfl (by omega) (xs_n rfl ?_)
          refine xs_iastore (q := 160) i_MO_layBack_159 rfl sg_70 (by omega) (xs_n rfl ?_)
          refine xs_iinc (q := 163) (ls2 := [_, _]) i_MO_layBack_160 rfl rfl rfl (xs_n rfl ?_)
          refine xs_goto (q := 129) i_MO_layBack_163 rfl (xs_z rfl ?_)
          exact ⟨2001 - (t + 1), by omega, Or.inr (Or.inr (Or.inr ⟨t + 1, rfl, rfl, rfl, by simp only [Int.toNat_natCast]; exact mo_lb3_s _ _, by omega, rfl⟩))⟩
    · exact h.elim
