/-! contracts: the reference, its ticks (wip/whole/p41.py) -/
def mo_b1 (k : Int) (M : am_M) : am_M := am_up (am_up M 50 19 0) 50 20 k
def mo_b2 (n : Nat) (M : am_M) : am_M := am_fill 66 n 0 (am_fill 65 n 0 (am_fill 64 n 0 M))
def mo_b3 (k : Int) (M : am_M) : am_M := am_up (mo_b2 5 (mo_b1 k M)) 50 24 (if k = 1 ∨ k = 2 then M 56 k.toNat else 0)
theorem mo_b2_0 (M : am_M) : mo_b2 0 M = M := by simp [mo_b2, am_fill_0]
theorem mo_b2_s (n : Nat) (M : am_M) : am_up (am_up (am_up (mo_b2 n M) 64 n 0) 65 n 0) 66 n 0 = mo_b2 (n + 1) M := by
  funext p q
  simp only [mo_b2, am_fill, am_up]
  (repeat' split) <;> (first | rfl | omega)
theorem mo_b2_k {n k j : Nat} {M : am_M} (h : k < 64 ∨ 66 < k) : mo_b2 n M k j = M k j := by
  simp only [mo_b2, am_fill]
  rw [if_neg (by omega), if_neg (by omega), if_neg (by omega)]
def P_MO_begin : am_P := fun av M => match av with
  | [.inr (.inl i), .inl k] => i = 50 ∧ (0 ≤ k ∧ k ≤ 3)
  | _ => False
def f_MO_begin : am_Fr := fun av M => match av with
  | [.inr (.inl i), .inl k] => none
  | _ => none
def g_MO_begin : am_Fm := fun av M => match av with
  | [.inr (.inl i), .inl k] => am_up (am_up (am_fill 67 2001 0 (mo_b3 k M)) 50 26 0) 50 29 0
  | _ => M
def inv_MO_begin : List am_V → am_M → Nat → am_K := fun av M μ pc ls st M2 => match av with
  | [.inr (.inl i), .inl k] => (pc = 0 ∧ ls = am_l0 [.inr (.inl i), .inl k] 3 ∧ st = [] ∧ M = M2 ∧ μ = 100000) ∨ (∃ t : Nat, pc = 12 ∧ ls = [some (.inr (.inl i)), some (.inl k), some (.inl (t : Int))] ∧ st = [] ∧ M2 = mo_b2 t (mo_b1 k M) ∧ t ≤ 5 ∧ μ = 10000 - t) ∨ (∃ t : Nat, pc = 70 ∧ ls = [some (.inr (.inl i)), some (.inl k), some (.inl (t : Int))] ∧ st = [] ∧ M2 = am_fill 67 t 0 (mo_b3 k M) ∧ t ≤ 2001 ∧ μ = 2001 - t)
  | _ => False
theorem m_MO_begin (l : Launch) : am_MF l y_MO_begin w_MO_begin r_MO_begin P_MO_begin f_MO_begin g_MO_begin := by
  refine am_mkL (fun pc => pc == 12 || pc == 70) i_MO_begin_ok fd_MO_ok am_CC0 (plainFor_of_name (by decide +kernel)) (by decide) ?_ 40 inv_MO_begin ?_ ?_
  · intro av M h
    unfold P_MO_begin at h
    split at h
    · exact ⟨Nat.le_of_ble_eq_true rfl, rfl⟩
    · exact h.elim
  · intro av M h
    unfold P_MO_begin at h
    split at h
    · exact ⟨_, Or.inl ⟨rfl, rfl, rfl, rfl, rfl⟩⟩
    · exact h.elim
  · intro av M h μ pc ls st M2 hi
    unfold P_MO_begin at h
    split at h
    · rename_i i k
      obtain ⟨rfl, h1⟩ := h
      rcases hi with ⟨rfl, rfl, rfl, rfl, rfl⟩ | ⟨t, rfl, rfl, rfl, rfl, ht, rfl⟩ | ⟨t, rfl, rfl, rfl, rfl, ht, rfl⟩
      · skip
        refine xs_aload_n (q := 1) i_MO_begin_0 rfl rfl (xs_n rfl ?_)
        refine xs_iconst (q := 2) i_MO_begin_1 rfl (xs_n rfl ?_)
        refine xs_puti (q := 5) i_MO_begin_2 rfl fd_MO_132 sg_50 rfl (xs_n rfl ?_)
        refine xs_aload_n (q := 6) i_MO_begin_5 rfl rfl (xs_n rfl ?_)
        refine xs_iload_n (q := 7) i_MO_begin_6 rfl rfl (xs_n rfl ?_)
        refine xs_puti (q := 10) i_MO_begin_7 rfl fd_MO_135 sg_50 rfl (xs_n rfl ?_)
        refine xs_iconst (q := 11) i_MO_begin_10 rfl (xs_n rfl ?_)
        refine xs_istore_n (q := 12) (ls2 := [_, _, _]) i_MO_begin_11 rfl rfl rfl (xs_z rfl ?_)
        exact ⟨10000, by omega, Or.inr (Or.inl ⟨0, rfl, rfl, rfl, (mo_b2_0 _).symm, by omega, rfl⟩)⟩
      · skip
        refine xs_iload_n (q := 13) i_MO_begin_12 rfl rfl (xs_n rfl ?_)
        refine xs_iconst (q := 14) i_MO_begin_13 rfl (xs_n rfl ?_)
        refine xs_ic_ge (q := 44) (r := 17) i_MO_begin_14 rfl rfl ⟨by unfold am_R; omega, by unfold am_R; omega⟩ (fun h14 => (xs_n rfl ?_)) (fun h14 => (xs_n rfl ?_))
        · refine xs_aload_n (q := 45) i_MO_begin_44 rfl rfl (xs_n rfl ?_)
          refine xs_iload_n (q := 46) i_MO_begin_45 rfl rfl (xs_n rfl ?_)
          refine xs_iconst (q := 47) i_MO_begin_46 rfl (xs_n rfl ?_)
          refine xs_ic_eq (q := 55) (r := 50) i_MO_begin_47 rfl rfl ⟨by unfold am_R; omega, by unfold am_R; omega⟩ (fun h47 => (xs_n rfl ?_)) (fun h47 => (xs_n rfl ?_))
          · refine xs_aload_n (q := 56) i_MO_begin_55 rfl rfl (xs_n rfl ?_)
            refine xs_getr (q := 59) i_MO_begin_56 rfl fd_MO_25 sg_50 rfl (xs_n rfl ?_)
            refine xs_iload_n (q := 60) i_MO_begin_59 rfl rfl (xs_n rfl ?_)
            refine xs_iaload (q := 61) i_MO_begin_60 rfl sg_56 rfl (by omega) (xs_n rfl ?_)
            refine xs_goto (q := 65) i_MO_begin_61 rfl (xs_n rfl ?_)
            refine xs_puti (q := 68) i_MO_begin_65 rfl fd_MO_138 sg_50 rfl (xs_n rfl ?_)
            refine xs_iconst (q := 69) i_MO_begin_68 rfl (xs_n rfl ?_)
            refine xs_istore_n (q := 70) (ls2 := [_, _, _]) i_MO_begin_69 rfl rfl rfl (xs_z rfl ?_)
            obtain rfl : t = 5 := by omega
            exact ⟨2001, by omega, Or.inr (Or.inr ⟨0, rfl, rfl, rfl, by rw [am_fill_0]; unfold mo_b3; rw [if_pos (by omega)]; rw [mo_b2_k (by omega)]; simp [mo_b1, am_up], by omega, rfl⟩)⟩
          · refine xs_iload_n (q := 51) i_MO_begin_50 rfl rfl (xs_n rfl ?_)
            refine xs_iconst (q := 52) i_MO_begin_51 rfl (xs_n rfl ?_)
            refine xs_ic_ne (q := 64) (r := 55) i_MO_begin_52 rfl rfl ⟨by unfold am_R; omega, by unfold am_R; omega⟩ (fun h52 => (xs_n rfl ?_)) (fun h52 => (xs_n rfl ?_))
            · refine xs_iconst (q := 65) i_MO_begin_64 rfl (xs_n rfl ?_)
              refine xs_puti (q := 68) i_MO_begin_65 rfl fd_MO_138 sg_50 rfl (xs_n rfl ?_)
              refine xs_iconst (q := 69) i_MO_begin_68 rfl (xs_n rfl ?_)
              refine xs_istore_n (q := 70) (ls2 := [_, _, _]) i_MO_begin_69 rfl rfl rfl (xs_z rfl ?_)
              obtain rfl : t = 5 := by omega
              exact ⟨2001, by omega, Or.inr (Or.inr ⟨0, rfl, rfl, rfl, by rw [am_fill_0]; unfold mo_b3; rw [if_neg (by omega)], by omega, rfl⟩)⟩
            · refine xs_aload_n (q := 56) i_MO_begin_55 rfl rfl (xs_n rfl ?_)
              refine xs_getr (q := 59) i_MO_begin_56 rfl fd_MO_25 sg_50 rfl (xs_n rfl ?_)
              refine xs_iload_n (q := 60) i_MO_begin_59 rfl rfl (xs_n rfl ?_)
              refine xs_iaload (q := 61) i_MO_begin_60 rfl sg_56 rfl (by omega) (xs_n rfl ?_)
              refine xs_goto (q := 65) i_MO_begin_61 rfl (xs_n rfl ?_)
              refine xs_puti (q := 68) i_MO_begin_65 rfl fd_MO_138 sg_50 rfl (xs_n rfl ?_)
              refine xs_iconst (q := 69) i_MO_begin_68 rfl (xs_n rfl ?_)
              refine xs_istore_n (q := 70) (ls2 := [_, _, _]) i_MO_begin_69 rfl rfl rfl (xs_z rfl ?_)
              obtain rfl : t = 5 := by omega
              exact ⟨2001, by omega, Or.inr (Or.inr ⟨0, rfl, rfl, rfl, by rw [am_fill_0]; unfold mo_b3; rw [if_pos (by omega)]; rw [mo_b2_k (by omega)]; simp [mo_b1, am_up], by omega, rfl⟩)⟩
        · refine xs_aload_n (q := 18) i_MO_begin_17 rfl rfl (xs_n rfl ?_)
          refine xs_getr (q := 21) i_MO_begin_18 rfl fd_MO_50 sg_50 rfl (xs_n rfl ?_)
          refine xs_iload_n (q := 22) i_MO_begin_21 rfl rfl (xs_n rfl ?_)
          refine xs_iconst (q := 23) i_MO_begin_22 rfl (xs_n rfl ?_)
          refine xs_iastore (q := 24) i_MO_begin_23 rfl sg_64 (by omega) (xs_n rfl ?_)
          refine xs_aload_n (q := 25) i_MO_begin_24 rfl rfl (xs_n rfl ?_)
          refine xs_getr (q := 28) i_MO_begin_25 rfl fd_MO_53 sg_50 rfl (xs_n rfl ?_)
          refine xs_iload_n (q := 29) i_MO_begin_28 rfl rfl (xs_n rfl ?_)
          refine xs_iconst (q := 30) i_MO_begin_29 rfl (xs_n rfl ?_)
          refine xs_iastore (q := 31) i_MO_begin_30 rfl sg_65 (by omega) (xs_n rfl ?_)
          refine xs_aload_n (q := 32) i_MO_begin_31 rfl rfl (xs_n rfl ?_)
          refine xs_getr (q := 35) i_MO_begin_32 rfl fd_MO_56 sg_50 rfl (xs_n rfl ?_)
          refine xs_iload_n (q := 36) i_MO_begin_35 rfl rfl (xs_n rfl ?_)
          refine xs_iconst (q := 37) i_MO_begin_36 rfl (xs_n rfl ?_)
          refine xs_iastore (q := 38) i_MO_begin_37 rfl sg_66 (by omega) (xs_n rfl ?_)
          refine xs_iinc (q := 41) (ls2 := [_, _, _]) i_MO_begin_38 rfl rfl rfl (xs_n rfl ?_)
          refine xs_goto (q := 12) i_MO_begin_41 rfl (xs_z rfl ?_)
          exact ⟨10000 - (t + 1), by omega, Or.inr (Or.inl ⟨t + 1, rfl, rfl, rfl, by simp only [Int.toNat_natCast]; exact mo_b2_s _ _, by omega, rfl⟩)⟩
      · skip
        refine xs_iload_n (q := 71) i_MO_begin_70 rfl rfl (xs_n rfl ?_)
        refine xs_sipush (q := 74) i_MO_begin_71 rfl (by decide) (xs_n rfl ?_)
        refine xs_ic_gt (q := 90) (r := 77) i_MO_begin_74 rfl rfl ⟨by unfold am_R; omega, by unfold am_R; omega⟩ (fun h74 => (xs_n rfl ?_)) (fun h74 => (xs_n rfl ?_))
        · refine xs_aload_n (q := 91) i_MO_begin_90 rfl rfl (xs_n rfl ?_)
          refine xs_iconst (q := 92) i_MO_begin_91 rfl (xs_n rfl ?_)
          refine xs_puti (q := 95) i_MO_begin_92 rfl fd_MO_141 sg_50 rfl (xs_n rfl ?_)
          refine xs_aload_n (q := 96) i_MO_begin_95 rfl rfl (xs_n rfl ?_)
          refine xs_iconst (q := 97) i_MO_begin_96 rfl (xs_n rfl ?_)
          refine xs_puti (q := 100) i_MO_begin_97 rfl fd_MO_144 sg_50 rfl (xs_n rfl ?_)
          refine xs_ret i_MO_begin_100 ?_
          obtain rfl : t = 2001 := by omega
          exact xs_fin rfl rfl trivial
        · refine xs_aload_n (q := 78) i_MO_begin_77 rfl rfl (xs_n rfl ?_)
          refine xs_getr (q := 81) i_MO_begin_78 rfl fd_MO_59 sg_50 rfl (xs_n rfl ?_)
          refine xs_iload_n (q := 82) i_MO_begin_81 rfl rfl (xs_n rfl ?_)
          refine xs_iconst (q := 83) i_MO_begin_82 rfl (xs_n rfl ?_)
          refine xs_iastore (q := 84) i_MO_begin_83 rfl sg_67 (by omega) (xs_n rfl ?_)
          refine xs_iinc (q := 87) (ls2 := [_, _, _]) i_MO_begin_84 rfl rfl rfl (xs_n rfl ?_)
          refine xs_goto (q := 70) i_MO_begin_87 rfl (xs_z rfl ?_)
          exact ⟨2001 - (t + 1), by omega, Or.inr (Or.inr ⟨t + 1, rfl, rfl, rfl, by simp only [Int.toNat_natCast]; exact am_fill_s _ _ _ _, by omega, rfl⟩)⟩
    · exact h.elim
def P_MO_comeBack : am_P := fun av M => match av with
  | [.inr (.inl i)] => i = 50 ∧ (0 ≤ M 50 19 ∧ M 50 19 ≤ 2000) ∧ am_R (M 50 20) ∧ mo_rb M
  | _ => False
def f_MO_comeBack : am_Fr := fun av M => match av with
  | [.inr (.inl i)] => none
  | _ => none
def g_MO_comeBack : am_Fm := fun av M => match av with
  | [.inr (.inl i)] => (if M 50 20 = 1 ∧ M 50 19 % M 57 1 = 0 then am_up M 50 24 (M 56 1) else if M 50 20 = 2 ∧ M 57 2 ≤ M 50 19 then am_up M 50 24 (M 50 24 + M 67 (M 50 19 - M 57 2).toNat) else M)
  | _ => M
theorem m_MO_comeBack (l : Launch) : am_MF l y_MO_comeBack w_MO_comeBack r_MO_comeBack P_MO_comeBack f_MO_comeBack g_MO_comeBack := by
  refine am_mk0 i_MO_comeBack_ok fd_MO_ok am_CC0 (plainFor_of_name (by decide +kernel)) (by decide) ?_ 50 ?_
  · intro av M h
    unfold P_MO_comeBack at h
    split at h
    · exact ⟨Nat.le_of_ble_eq_true rfl, rfl⟩
    · exact h.elim
  · intro av M Z h
    unfold P_MO_comeBack at h
    split at h
    · rename_i i
      obtain ⟨rfl, h1, h2, h3, h4⟩ := h
      have e1 := Int.emod_nonneg (M 50 19) (show M 57 1 ≠ 0 by omega)
      have e2 := Int.emod_lt_of_pos (M 50 19) (show 0 < M 57 1 by omega)
      refine xs_aload_n (q := 1) i_MO_comeBack_0 rfl rfl (xs_n rfl ?_)
      refine xs_geti (q := 4) i_MO_comeBack_1 rfl fd_MO_135 sg_50 rfl (xs_n rfl ?_)
      refine xs_iconst (q := 5) i_MO_comeBack_4 rfl (xs_n rfl ?_)
      refine xs_ic_ne (q := 32) (r := 8) i_MO_comeBack_5 rfl rfl ⟨h2, by unfold am_R; omega⟩ (fun h5 => (xs_n rfl ?_)) (fun h5 => (xs_n rfl ?_))
      · refine xs_aload_n (q := 33) i_MO_comeBack_32 rfl rfl (xs_n rfl ?_)
        refine xs_geti (q := 36) i_MO_comeBack_33 rfl fd_MO_135 sg_50 rfl (xs_n rfl ?_)
        refine xs_iconst (q := 37) i_MO_comeBack_36 rfl (xs_n rfl ?_)
        refine xs_ic_ne (q := 78) (r := 40) i_MO_comeBack_37 rfl rfl ⟨h2, by unfold am_R; omega⟩ (fun h37 => (xs_n rfl ?_)) (fun h37 => (xs_n rfl ?_))
        · refine xs_ret i_MO_comeBack_78 ?_
          exact xs_fin rfl (by simp only [g_MO_comeBack]; rw [if_neg (fun z => h5 z.1), if_neg (fun z => h37 z.1)]) trivial
        · refine xs_aload_n (q := 41) i_MO_comeBack_40 rfl rfl (xs_n rfl ?_)
          refine xs_geti (q := 44) i_MO_comeBack_41 rfl fd_MO_132 sg_50 rfl (xs_n rfl ?_)
          refine xs_aload_n (q := 45) i_MO_comeBack_44 rfl rfl (xs_n rfl ?_)
          refine xs_getr (q := 48) i_MO_comeBack_45 rfl fd_MO_28 sg_50 rfl (xs_n rfl ?_)
          refine xs_iconst (q := 49) i_MO_comeBack_48 rfl (xs_n rfl ?_)
          refine xs_iaload (q := 50) i_MO_comeBack_49 rfl sg_57 rfl (by omega) (xs_n rfl ?_)
          refine xs_ic_lt (q := 78) (r := 53) i_MO_comeBack_50 rfl rfl ⟨by unfold am_R; omega, by show am_R (M 57 2); unfold am_R; omega⟩ (fun h50 => (xs_n rfl ?_)) (fun h50 => (xs_n rfl ?_))
          · refine xs_ret i_MO_comeBack_78 ?_
            exact xs_fin rfl (by simp only [g_MO_comeBack]; rw [if_neg (fun z => h5 z.1), if_neg (fun z => absurd z.2 (by show ¬ M 57 2 ≤ M 50 19; have h51 : M 50 19 < M 57 2 := h50; omega))]) trivial
          · refine xs_aload_n (q := 54) i_MO_comeBack_53 rfl rfl (xs_n rfl ?_)
            refine xs_dupr (q := 55) i_MO_comeBack_54 rfl (xs_n rfl ?_)
            refine xs_geti (q := 58) i_MO_comeBack_55 rfl fd_MO_138 sg_50 rfl (xs_n rfl ?_)
            refine xs_aload_n (q := 59) i_MO_comeBack_58 rfl rfl (xs_n rfl ?_)
            refine xs_getr (q := 62) i_MO_comeBack_59 rfl fd_MO_59 sg_50 rfl (xs_n rfl ?_)
            refine xs_aload_n (q := 63) i_MO_comeBack_62 rfl rfl (xs_n rfl ?_)
            refine xs_geti (q := 66) i_MO_comeBack_63 rfl fd_MO_132 sg_50 rfl (xs_n rfl ?_)
            refine xs_aload_n (q := 67) i_MO_comeBack_66 rfl rfl (xs_n rfl ?_)
            refine xs_getr (q := 70) i_MO_comeBack_67 rfl fd_MO_28 sg_50 rfl (xs_n rfl ?_)
            refine xs_iconst (q := 71) i_MO_comeBack_70 rfl (xs_n rfl ?_)
            refine xs_iaload (q := 72) i_MO_comeBack_71 rfl sg_57 rfl (by omega) (xs_n rfl ?_)
            refine xs_isub (q := 73) i_MO_comeBack_72 rfl (xs_n rfl ?_)
            refine xs_iaload (q := 74) i_MO_comeBack_73 rfl sg_67 rfl (by have h51 : M 57 2 ≤ M 50 19 := h50; show (0 ≤ M 50 19 - M 57 2 ∧ M 50 19 - M 57 2 < 2001); omega) (xs_n rfl ?_)
            refine xs_iadd (q := 75) i_MO_comeBack_74 rfl (xs_n rfl ?_)
            refine xs_puti (q := 78) i_MO_comeBack_75 rfl fd_MO_138 sg_50 rfl (xs_n rfl ?_)
            refine xs_ret i_MO_comeBack_78 ?_
            exact xs_fin rfl (by simp only [g_MO_comeBack]; rw [if_neg (fun z => h5 z.1), if_pos ⟨h37, h50⟩]; rfl) trivial
      · refine xs_aload_n (q := 9) i_MO_comeBack_8 rfl rfl (xs_n rfl ?_)
        refine xs_geti (q := 12) i_MO_comeBack_9 rfl fd_MO_132 sg_50 rfl (xs_n rfl ?_)
        refine xs_aload_n (q := 13) i_MO_comeBack_12 rfl rfl (xs_n rfl ?_)
        refine xs_getr (q := 16) i_MO_comeBack_13 rfl fd_MO_28 sg_50 rfl (xs_n rfl ?_)
        refine xs_iconst (q := 17) i_MO_comeBack_16 rfl (xs_n rfl ?_)
        refine xs_iaload (q := 18) i_MO_comeBack_17 rfl sg_57 rfl (by omega) (xs_n rfl ?_)
        refine xs_irem (q := 19) i_MO_comeBack_18 rfl (by show (0 ≤ M 50 19 ∧ M 50 19 < 2147483648 ∧ 0 < M 57 1 ∧ M 57 1 < 2147483648); omega) (xs_n rfl ?_)
        refine xs_if_ne (q := 32) (r := 22) i_MO_comeBack_19 rfl rfl (by show am_R (M 50 19 % M 57 1); unfold am_R; omega) (fun h19 => (xs_n rfl ?_)) (fun h19 => (xs_n rfl ?_))
        · refine xs_aload_n (q := 33) i_MO_comeBack_32 rfl rfl (xs_n rfl ?_)
          refine xs_geti (q := 36) i_MO_comeBack_33 rfl fd_MO_135 sg_50 rfl (xs_n rfl ?_)
          refine xs_iconst (q := 37) i_MO_comeBack_36 rfl (xs_n rfl ?_)
          refine xs_ic_ne (q := 78) (r := 40) i_MO_comeBack_37 rfl rfl ⟨h2, by unfold am_R; omega⟩ (fun h37 => (xs_n rfl ?_)) (fun h37 => (xs_n rfl ?_))
          · refine xs_ret i_MO_comeBack_78 ?_
            exact xs_fin rfl (by simp only [g_MO_comeBack]; rw [if_neg (fun z => h19 z.2), if_neg (fun z => by omega)]) trivial
          · omega
        · refine xs_aload_n (q := 23) i_MO_comeBack_22 rfl rfl (xs_n rfl ?_)
          refine xs_aload_n (q := 24) i_MO_comeBack_23 rfl rfl (xs_n rfl ?_)
          refine xs_getr (q := 27) i_MO_comeBack_24 rfl fd_MO_25 sg_50 rfl (xs_n rfl ?_)
          refine xs_iconst (q := 28) i_MO_comeBack_27 rfl (xs_n rfl ?_)
          refine xs_iaload (q := 29) i_MO_comeBack_28 rfl sg_56 rfl (by omega) (xs_n rfl ?_)
          refine xs_puti (q := 32) i_MO_comeBack_29 rfl fd_MO_138 sg_50 rfl (xs_n rfl ?_)
          refine xs_aload_n (q := 33) i_MO_comeBack_32 rfl rfl (xs_n rfl ?_)
          refine xs_geti (q := 36) i_MO_comeBack_33 rfl fd_MO_135 sg_50 rfl (xs_n rfl ?_)
          refine xs_iconst (q := 37) i_MO_comeBack_36 rfl (xs_n rfl ?_)
          refine xs_ic_ne (q := 78) (r := 40) i_MO_comeBack_37 rfl rfl ⟨by simp only [am_up]; exact h2, by unfold am_R; omega⟩ (fun h37 => (xs_n rfl ?_)) (fun h37 => (xs_n rfl ?_))
          · refine xs_ret i_MO_comeBack_78 ?_
            try simp only [am_up] at h37
            exact xs_fin rfl (by simp only [g_MO_comeBack]; rw [if_pos ⟨h5, h19⟩]; rfl) trivial
          · exfalso; simp [am_up] at h37; omega
    · exact h.elim
def P_MO_nextOf : am_P := fun av M => match av with
  | [.inr (.inl i), .inl t, .inl z] => i = 50 ∧ (0 ≤ t ∧ t < 5) ∧ (0 ≤ M 50 19 ∧ M 50 19 ≤ 100000) ∧ (0 ≤ M 52 t.toNat ∧ M 52 t.toNat ≤ 60) ∧ (1 ≤ M 51 t.toNat ∧ M 51 t.toNat ≤ 60) ∧ (z = 0 ∨ z = 1)
  | _ => False
def f_MO_nextOf : am_Fr := fun av M => match av with
  | [.inr (.inl i), .inl t, .inl z] => some (.inl (ma_nx (M 52 t.toNat) (M 51 t.toNat) (M 50 19 + z)))
  | _ => none
abbrev g_MO_nextOf : am_Fm := g_id
def ct_MO_nextOf : am_T := fun pc => if pc = 21 then some (3, am_ctV vw_S 11 P_MO_begins (am_po f_MO_begins g_MO_begins)) else none
theorem e_MO_nextOf_21 : ct_MO_nextOf 21 = some (3, am_ctV vw_S 11 P_MO_begins (am_po f_MO_begins g_MO_begins)) := rfl
theorem ct_MO_nextOf_ok (l : Launch) : am_CC b_MO_nextOf 4 w_MO_nextOf y_MO_nextOf.cls l r_MO_nextOf ct_MO_nextOf := by
  intro p e s m args below meth c H0 A D G ad Q S hK hN hA pc q ct h
  have hts := S.2.2.2.2
  unfold ct_MO_nextOf at h
  split at h
  · rename_i hpc
    subst hpc; cases h
    exact am_callV S vw_N_ok hK hN hA ⟨Nat.zero_le _, Nat.zero_le _⟩ (m_MO_begins l) (s_MO_147 hts am_vW hN ⟨by decide, by decide⟩) (by rfl) d_MO_nextOf_21
  cases h
def inv_MO_nextOf : List am_V → am_M → Nat → am_K := fun av M μ pc ls st M2 => match av with
  | [.inr (.inl i), .inl t, .inl z] => (pc = 0 ∧ ls = am_l0 [.inr (.inl i), .inl t, .inl z] 4 ∧ st = [] ∧ M = M2 ∧ μ = 1000000) ∨ ∃ a : Int, pc = 18 ∧ ls = [some (.inr (.inl i)), some (.inl t), some (.inl z), some (.inl a)] ∧ st = [] ∧ M = M2 ∧ (M 50 19 ≤ a ∧ ma_nx (M 52 t.toNat) (M 51 t.toNat) a = ma_nx (M 52 t.toNat) (M 51 t.toNat) (M 50 19 + z)) ∧ μ = (ma_nx (M 52 t.toNat) (M 51 t.toNat) (M 50 19 + z) - a).toNat
  | _ => False
theorem ma_nx_b {o p y : Int} (hp : 0 < p) (ho : 0 ≤ o) (hy : 0 ≤ y) : ma_nx o p y ≤ y + p + o := by
  by_cases h : o ≤ y
  · have := ma_nx_lt hp h; omega
  · unfold ma_nx
    rw [ma_rc_le (by omega)]
    omega
theorem m_MO_nextOf (l : Launch) : am_MF l y_MO_nextOf w_MO_nextOf r_MO_nextOf P_MO_nextOf f_MO_nextOf g_MO_nextOf := by
  refine am_mkL (fun pc => pc == 18) i_MO_nextOf_ok fd_MO_ok (ct_MO_nextOf_ok l) (plainFor_of_name (by decide +kernel)) (by decide) ?_ 40 inv_MO_nextOf ?_ ?_
  · intro av M h
    unfold P_MO_nextOf at h
    split at h
    · exact ⟨Nat.le_of_ble_eq_true rfl, rfl⟩
    · exact h.elim
  · intro av M h
    unfold P_MO_nextOf at h
    split at h
    · exact ⟨_, Or.inl ⟨rfl, rfl, rfl, rfl, rfl⟩⟩
    · exact h.elim
  · intro av M h μ pc ls st M2 hi
    unfold P_MO_nextOf at h
    split at h
    · rename_i i t z
      obtain ⟨rfl, h1, h2, h3, h4, h5⟩ := h
      have hnb := ma_nx_b (o := M 52 t.toNat) (p := M 51 t.toNat) (y := M 50 19 + z) (by omega) (by omega) (by omega)
      rcases hi with ⟨rfl, rfl, rfl, rfl, rfl⟩ | ⟨a, rfl, rfl, rfl, rfl, ha, rfl⟩
      · skip
        refine xs_iload_n (q := 1) i_MO_nextOf_0 rfl rfl (xs_n rfl ?_)
        refine xs_if_eq (q := 13) (r := 4) i_MO_nextOf_1 rfl rfl (by unfold am_R; omega) (fun h1 => (xs_n rfl ?_)) (fun h1 => (xs_n rfl ?_))
        · refine xs_aload_n (q := 14) i_MO_nextOf_13 rfl rfl (xs_n rfl ?_)
          refine xs_geti (q := 17) i_MO_nextOf_14 rfl fd_MO_132 sg_50 rfl (xs_n rfl ?_)
          refine xs_istore_n (q := 18) (ls2 := [_, _, _, _]) i_MO_nextOf_17 rfl rfl rfl (xs_z rfl ?_)
          obtain rfl : z = 0 := by omega
          exact ⟨_, by omega, Or.inr ⟨M 50 19, rfl, rfl, rfl, rfl, ⟨by omega, by simp⟩, rfl⟩⟩
        · refine xs_aload_n (q := 5) i_MO_nextOf_4 rfl rfl (xs_n rfl ?_)
          refine xs_geti (q := 8) i_MO_nextOf_5 rfl fd_MO_132 sg_50 rfl (xs_n rfl ?_)
          refine xs_iconst (q := 9) i_MO_nextOf_8 rfl (xs_n rfl ?_)
          refine xs_iadd (q := 10) i_MO_nextOf_9 rfl (xs_n rfl ?_)
          refine xs_goto (q := 17) i_MO_nextOf_10 rfl (xs_n rfl ?_)
          refine xs_istore_n (q := 18) (ls2 := [_, _, _, _]) i_MO_nextOf_17 rfl rfl rfl (xs_z rfl ?_)
          obtain rfl : z = 1 := by omega
          exact ⟨_, by omega, Or.inr ⟨M 50 19 + 1, rfl, rfl, rfl, rfl, ⟨by omega, by simp⟩, rfl⟩⟩
      · skip
        have hga := ma_nx_ge (o := M 52 t.toNat) (p := M 51 t.toNat) (y := a) (by omega)
        refine xs_aload_n (q := 19) i_MO_nextOf_18 rfl rfl (xs_n rfl ?_)
        refine xs_iload_n (q := 20) i_MO_nextOf_19 rfl rfl (xs_n rfl ?_)
        refine xs_iload_n (q := 21) i_MO_nextOf_20 rfl rfl (xs_n rfl ?_)
        refine xs_cv (q := 24) (av := [_, _, _]) (rest := []) i_MO_nextOf_21 rfl (e_MO_nextOf_21) ⟨rfl, rfl⟩ rfl rfl ?_
        rw [am_V_iff]
        refine ⟨⟨_, sg_50⟩, ⟨rfl, h1, by omega, h3, h4⟩, ?_⟩
        refine xs_r1 rfl (xs_n rfl ?_)
        refine xs_if_ne (q := 33) (r := 27) i_MO_nextOf_24 rfl rfl am_ite (fun h24 => (xs_n rfl ?_)) (fun h24 => (xs_n rfl ?_))
        · refine xs_iload_n (q := 34) i_MO_nextOf_33 rfl rfl (xs_n rfl ?_)
          refine xs_iret i_MO_nextOf_34 ?_
          have hb := am_ite1 h24
          exact xs_fin (by simp only [f_MO_nextOf]; rw [← ha.2, ma_be_nx (by omega) hb]) rfl trivial
        · refine xs_iinc (q := 30) (ls2 := [_, _, _, _]) i_MO_nextOf_27 rfl rfl rfl (xs_n rfl ?_)
          refine xs_goto (q := 18) i_MO_nextOf_30 rfl (xs_z rfl ?_)
          have hnb2 := am_ite0 h24
          have hn := ma_nx_n (o := M 52 t.toNat) (p := M 51 t.toNat) (y := a) (by omega) (fun z9 => hnb2 z9)
          have hge := ma_nx_ge (o := M 52 t.toNat) (p := M 51 t.toNat) (y := a + 1) (by omega)
          exact ⟨(ma_nx (M 52 t.toNat) (M 51 t.toNat) (M 50 19 + z) - (a + 1)).toNat, by omega, Or.inr ⟨a + 1, rfl, rfl, rfl, rfl, ⟨by omega, by rw [hn]; exact ha.2⟩, rfl⟩⟩
    · exact h.elim
def P_MO_comes : am_P := fun av M => match av with
  | [.inr (.inl i), .inl t, .inl a, .inl z] => P_MO_nextOf [.inr (.inl i), .inl t, .inl z] M ∧ am_R a ∧ am_R (M 66 t.toNat)
  | _ => False
def f_MO_comes : am_Fr := fun av M => match av with
  | [.inr (.inl i), .inl t, .inl a, .inl z] => some (.inl (if 0 < M 66 t.toNat ∧ a = ma_nx (M 52 t.toNat) (M 51 t.toNat) (M 50 19 + z) then M 66 t.toNat else M 53 t.toNat))
  | _ => none
abbrev g_MO_comes : am_Fm := g_id
def ct_MO_comes : am_T := fun pc => if pc = 13 then some (3, am_ctV vw_S 11 P_MO_nextOf (am_po f_MO_nextOf g_MO_nextOf)) else none
theorem e_MO_comes_13 : ct_MO_comes 13 = some (3, am_ctV vw_S 11 P_MO_nextOf (am_po f_MO_nextOf g_MO_nextOf)) := rfl
theorem ct_MO_comes_ok (l : Launch) : am_CC b_MO_comes 4 w_MO_comes y_MO_comes.cls l r_MO_comes ct_MO_comes := by
  intro p e s m args below meth c H0 A D G ad Q S hK hN hA pc q ct h
  have hts := S.2.2.2.2
  unfold ct_MO_comes at h
  split at h
  · rename_i hpc
    subst hpc; cases h
    exact am_callV S vw_N_ok hK hN hA ⟨Nat.zero_le _, Nat.zero_le _⟩ (m_MO_nextOf l) (s_MO_155 hts am_vW hN ⟨by decide, by decide⟩) (by rfl) d_MO_comes_13
  cases h
theorem m_MO_comes (l : Launch) : am_MF l y_MO_comes w_MO_comes r_MO_comes P_MO_comes f_MO_comes g_MO_comes := by
  refine am_mk0 i_MO_comes_ok fd_MO_ok (ct_MO_comes_ok l) (plainFor_of_name (by decide +kernel)) (by decide) ?_ 30 ?_
  · intro av M h
    unfold P_MO_comes at h
    split at h
    · exact ⟨Nat.le_of_ble_eq_true rfl, rfl⟩
    · exact h.elim
  · intro av M Z h
    unfold P_MO_comes at h
    split at h
    · rename_i i t a z
      obtain ⟨⟨rfl, h1, h2, h3, h4, h5⟩, h6c, h7⟩ := h
      have hnb := ma_nx_b (o := M 52 t.toNat) (p := M 51 t.toNat) (y := M 50 19 + z) (by omega) (by omega) (by omega)
      have hga := ma_nx_ge (o := M 52 t.toNat) (p := M 51 t.toNat) (y := M 50 19 + z) (by omega)
      refine xs_aload_n (q := 1) i_MO_comes_0 rfl rfl (xs_n rfl ?_)
      refine xs_getr (q := 4) i_MO_comes_1 rfl fd_MO_56 sg_50 rfl (xs_n rfl ?_)
      refine xs_iload_n (q := 5) i_MO_comes_4 rfl rfl (xs_n rfl ?_)
      refine xs_iaload (q := 6) i_MO_comes_5 rfl sg_66 rfl (by omega) (xs_n rfl ?_)
      refine xs_if_le (q := 28) (r := 9) i_MO_comes_6 rfl rfl h7 (fun h6 => (xs_n rfl ?_)) (fun h6 => (xs_n rfl ?_))
      · refine xs_aload_n (q := 29) i_MO_comes_28 rfl rfl (xs_n rfl ?_)
        refine xs_getr (q := 32) i_MO_comes_29 rfl fd_MO_16 sg_50 rfl (xs_n rfl ?_)
        refine xs_iload_n (q := 33) i_MO_comes_32 rfl rfl (xs_n rfl ?_)
        refine xs_iaload (q := 34) i_MO_comes_33 rfl sg_53 rfl (by omega) (xs_n rfl ?_)
        refine xs_iret i_MO_comes_34 ?_
        exact xs_fin (by simp only [f_MO_comes]; rw [if_neg (fun q => by omega)]) rfl trivial
      · refine xs_iload_n (q := 10) i_MO_comes_9 rfl rfl (xs_n rfl ?_)
        refine xs_aload_n (q := 11) i_MO_comes_10 rfl rfl (xs_n rfl ?_)
        refine xs_iload_n (q := 12) i_MO_comes_11 rfl rfl (xs_n rfl ?_)
        refine xs_iload_n (q := 13) i_MO_comes_12 rfl rfl (xs_n rfl ?_)
        refine xs_cv (q := 16) (av := [_, _, _]) (rest := [_]) i_MO_comes_13 rfl (e_MO_comes_13) ⟨rfl, rfl⟩ rfl rfl ?_
        rw [am_V_iff]
        refine ⟨⟨_, sg_50⟩, ⟨rfl, h1, h2, h3, h4, h5⟩, ?_⟩
        dsimp only [g_MO_nextOf, g_id]
        refine xs_r1 rfl (xs_n rfl ?_)
        refine xs_ic_ne (q := 28) (r := 19) i_MO_comes_16 rfl rfl ⟨h6c, by unfold am_R; omega⟩ (fun h16 => (xs_n rfl ?_)) (fun h16 => (xs_n rfl ?_))
        · refine xs_aload_n (q := 29) i_MO_comes_28 rfl rfl (xs_n rfl ?_)
          refine xs_getr (q := 32) i_MO_comes_29 rfl fd_MO_16 sg_50 rfl (xs_n rfl ?_)
          refine xs_iload_n (q := 33) i_MO_comes_32 rfl rfl (xs_n rfl ?_)
          refine xs_iaload (q := 34) i_MO_comes_33 rfl sg_53 rfl (by omega) (xs_n rfl ?_)
          refine xs_iret i_MO_comes_34 ?_
          exact xs_fin (by simp only [f_MO_comes]; rw [if_neg (fun q => h16 q.2)]) rfl trivial
        · refine xs_aload_n (q := 20) i_MO_comes_19 rfl rfl (xs_n rfl ?_)
          refine xs_getr (q := 23) i_MO_comes_20 rfl fd_MO_56 sg_50 rfl (xs_n rfl ?_)
          refine xs_iload_n (q := 24) i_MO_comes_23 rfl rfl (xs_n rfl ?_)
          refine xs_iaload (q := 25) i_MO_comes_24 rfl sg_66 rfl (by omega) (xs_n rfl ?_)
          refine xs_goto (q := 34) i_MO_comes_25 rfl (xs_n rfl ?_)
          refine xs_iret i_MO_comes_34 ?_
          exact xs_fin (by simp only [f_MO_comes]; rw [if_pos ⟨h6, h16⟩]) rfl trivial
    · exact h.elim
