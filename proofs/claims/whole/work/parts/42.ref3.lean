/-! contracts: the reference, getReady, firstJob (wip/whole/p42.py) -/
def h_MO_getReady (M : am_M) : Nat → Nat → Int := fun k j => if M 52 j ≤ M 50 19 ∧ (M 50 19 - M 52 j) % M 51 j = 0 then (if k = 64 then M 64 j + (if 0 < M 66 j then M 66 j else M 53 j) else if k = 65 then M 50 19 + M 54 j else if k = 66 then 0 else M k j) else M k j
def mo_lt (M : am_M) (n : Nat) : Int := ma_su (fun j => if 0 < M 64 j ∧ M 65 j = M 50 19 then 1 else 0) n
def mo_gr (M : am_M) (n : Nat) : am_M := am_up (am_col M n (h_MO_getReady M)) 50 29 (M 50 29 + mo_lt M n)
theorem mo_gr_0 (M : am_M) : mo_gr M 0 = M := by
  funext p q
  simp only [mo_gr, am_up, am_col_0, mo_lt, ma_su]
  by_cases h : p = 50 ∧ q = 29
  · obtain ⟨rfl, rfl⟩ := h
    rw [if_pos ⟨rfl, rfl⟩]
    omega
  · rw [if_neg h]
theorem mo_gr_k {M : am_M} {n k j : Nat} (h : k < 64 ∨ 66 < k) (h2 : ¬ (k = 50 ∧ j = 29)) : mo_gr M n k j = M k j := by
  simp only [mo_gr, am_up]
  rw [if_neg h2]
  exact am_col_k (by simp only [h_MO_getReady]; (repeat' split) <;> (first | rfl | omega))
theorem mo_gr_c {M : am_M} {n k : Nat} (h : n ≠ 29) : mo_gr M n k n = M k n := by
  simp only [mo_gr, am_up]
  rw [if_neg (fun z => h z.2)]
  exact am_col_ge (Nat.le_refl _)
theorem mo_gr_s {M M3 : am_M} {n : Nat} (hn : n < 29) (h1 : ∀ k, M3 k n = h_MO_getReady M k n) (h2 : ∀ k j, j ≠ n → ¬ (k = 50 ∧ j = 29) → M3 k j = mo_gr M n k j) (h3 : M3 50 29 = M 50 29 + mo_lt M (n + 1)) : M3 = mo_gr M (n + 1) := by
  funext k j
  by_cases c : k = 50 ∧ j = 29
  · obtain ⟨rfl, rfl⟩ := c
    rw [h3]
    simp [mo_gr, am_up]
  · by_cases e : j = n
    · subst e
      rw [h1]
      simp only [mo_gr, am_up]
      rw [if_neg c, am_col_lt (by omega)]
    · rw [h2 k j e c]
      simp only [mo_gr, am_up]
      rw [if_neg c, if_neg c]
      by_cases e2 : j < n
      · rw [am_col_lt e2, am_col_lt (by omega)]
      · rw [am_col_ge (by omega), am_col_ge (by omega)]
def P_MO_getReady : am_P := fun av M => match av with
  | [.inr (.inl i)] => i = 50 ∧ mo_ok M ∧ (0 ≤ M 50 19 ∧ M 50 19 ≤ 100000) ∧ ∀ j, j < 5 → am_R (M 64 j) ∧ am_R (M 65 j) ∧ am_R (M 66 j)
  | _ => False
def f_MO_getReady : am_Fr := fun av M => match av with
  | [.inr (.inl i)] => none
  | _ => none
def g_MO_getReady : am_Fm := fun av M => match av with
  | [.inr (.inl i)] => mo_gr M (M 50 1).toNat
  | _ => M
def ct_MO_getReady : am_T := fun pc => if pc = 48 then some (3, am_ctV vw_S 11 P_MO_begins (am_po f_MO_begins g_MO_begins)) else none
theorem e_MO_getReady_48 : ct_MO_getReady 48 = some (3, am_ctV vw_S 11 P_MO_begins (am_po f_MO_begins g_MO_begins)) := rfl
theorem ct_MO_getReady_ok (l : Launch) : am_CC b_MO_getReady 2 w_MO_getReady y_MO_getReady.cls l r_MO_getReady ct_MO_getReady := by
  intro p e s m args below meth c H0 A D G ad Q S hK hN hA pc q ct h
  have hts := S.2.2.2.2
  unfold ct_MO_getReady at h
  split at h
  · rename_i hpc
    subst hpc; cases h
    exact am_callV S vw_N_ok hK hN hA ⟨Nat.zero_le _, Nat.zero_le _⟩ (m_MO_begins l) (s_MO_147 hts am_vW hN ⟨by decide, by decide⟩) (by rfl) d_MO_getReady_48
  cases h
def inv_MO_getReady : List am_V → am_M → Nat → am_K := fun av M μ pc ls st M2 => match av with
  | [.inr (.inl i)] => (pc = 0 ∧ ls = am_l0 [.inr (.inl i)] 2 ∧ st = [] ∧ M = M2 ∧ μ = 100) ∨ ∃ t : Nat, pc = 2 ∧ ls = [some (.inr (.inl i)), some (.inl (t : Int))] ∧ st = [] ∧ M2 = mo_gr M t ∧ (t : Int) ≤ M 50 1 ∧ μ = (M 50 1 - t).toNat
  | _ => False
theorem m_MO_getReady (l : Launch) : am_MF l y_MO_getReady w_MO_getReady r_MO_getReady P_MO_getReady f_MO_getReady g_MO_getReady := by
  refine am_mkL (fun pc => pc == 2) i_MO_getReady_ok fd_MO_ok (ct_MO_getReady_ok l) (plainFor_of_name (by decide +kernel)) (by decide) ?_ 90 inv_MO_getReady ?_ ?_
  · intro av M h
    unfold P_MO_getReady at h
    split at h
    · exact ⟨Nat.le_of_ble_eq_true rfl, rfl⟩
    · exact h.elim
  · intro av M h
    unfold P_MO_getReady at h
    split at h
    · exact ⟨_, Or.inl ⟨rfl, rfl, rfl, rfl, rfl⟩⟩
    · exact h.elim
  · intro av M h μ pc ls st M2 hi
    unfold P_MO_getReady at h
    split at h
    · rename_i i
      obtain ⟨rfl, ⟨h1, h2⟩, h3, h4⟩ := h
      rcases hi with ⟨rfl, rfl, rfl, rfl, rfl⟩ | ⟨t, rfl, rfl, rfl, rfl, ht, rfl⟩
      · skip
        refine xs_iconst (q := 1) i_MO_getReady_0 rfl (xs_n rfl ?_)
        refine xs_istore_n (q := 2) (ls2 := [_, _]) i_MO_getReady_1 rfl rfl rfl (xs_z rfl ?_)
        exact ⟨(M 50 1).toNat, by omega, Or.inr ⟨0, rfl, rfl, rfl, (mo_gr_0 M).symm, by omega, by omega⟩⟩
      · skip
        have ek : ∀ k j, (k < 64 ∨ 66 < k) → ¬ (k = 50 ∧ j = 29) → mo_gr M t k j = M k j := fun k j a b => mo_gr_k a b
        refine xs_iload_n (q := 3) i_MO_getReady_2 rfl rfl (xs_n rfl ?_)
        refine xs_aload_n (q := 4) i_MO_getReady_3 rfl rfl (xs_n rfl ?_)
        refine xs_geti (q := 7) i_MO_getReady_4 rfl fd_MO_96 sg_50 rfl (xs_n rfl ?_)
        refine xs_ic_ge (q := 120) (r := 10) i_MO_getReady_7 rfl rfl ⟨by unfold am_R; omega, by rw [ek 50 1 (by omega) (by omega)]; unfold am_R; omega⟩ (fun h7 => (xs_n rfl ?_)) (fun h7 => (xs_n rfl ?_))
        · refine xs_ret i_MO_getReady_120 ?_
          rw [ek 50 1 (by omega) (by omega)] at h7
          obtain rfl : t = (M 50 1).toNat := by omega
          exact xs_fin rfl rfl trivial
        · have hq := h2 t (by rw [ek 50 1 (by omega) (by omega)] at h7; exact h7)
          have h7b : (t : Int) < M 50 1 := by rw [ek 50 1 (by omega) (by omega)] at h7; exact h7
          have ec : ∀ k, mo_gr M t k t = M k t := fun k => mo_gr_c (by omega)
          have hr := h4 t (by omega)
          refine xs_aload_n (q := 11) i_MO_getReady_10 rfl rfl (xs_n rfl ?_)
          refine xs_getr (q := 14) i_MO_getReady_11 rfl fd_MO_50 sg_50 rfl (xs_n rfl ?_)
          refine xs_iload_n (q := 15) i_MO_getReady_14 rfl rfl (xs_n rfl ?_)
          refine xs_iaload (q := 16) i_MO_getReady_15 rfl sg_64 rfl (by omega) (xs_n rfl ?_)
          refine xs_if_le (q := 42) (r := 19) i_MO_getReady_16 rfl rfl (by simp only [Int.toNat_natCast]; rw [ec]; exact hr.1) (fun h16 => (xs_n rfl ?_)) (fun h16 => (xs_n rfl ?_))
          · refine xs_aload_n (q := 43) i_MO_getReady_42 rfl rfl (xs_n rfl ?_)
            refine xs_iload_n (q := 44) i_MO_getReady_43 rfl rfl (xs_n rfl ?_)
            refine xs_aload_n (q := 45) i_MO_getReady_44 rfl rfl (xs_n rfl ?_)
            refine xs_geti (q := 48) i_MO_getReady_45 rfl fd_MO_132 sg_50 rfl (xs_n rfl ?_)
            refine xs_cv (q := 51) (av := [_, _, _]) (rest := []) i_MO_getReady_48 rfl (e_MO_getReady_48) ⟨rfl, rfl⟩ rfl rfl ?_
            rw [am_V_iff]
            refine ⟨⟨_, sg_50⟩, ⟨rfl, by omega, by rw [ek 50 19 (by omega) (by omega)]; omega, by simp only [Int.toNat_natCast]; rw [ek 52 t (by omega) (by omega)]; omega, by simp only [Int.toNat_natCast]; rw [ek 51 t (by omega) (by omega)]; omega⟩, ?_⟩
            dsimp only [g_MO_begins, g_id]
            refine xs_r1 rfl (xs_n rfl ?_)
            refine xs_if_ne (q := 57) (r := 54) i_MO_getReady_51 rfl rfl am_ite (fun h51 => (xs_n rfl ?_)) (fun h51 => (xs_n rfl ?_))
            · refine xs_aload_n (q := 58) i_MO_getReady_57 rfl rfl (xs_n rfl ?_)
              refine xs_getr (q := 61) i_MO_getReady_58 rfl fd_MO_50 sg_50 rfl (xs_n rfl ?_)
              refine xs_iload_n (q := 62) i_MO_getReady_61 rfl rfl (xs_n rfl ?_)
              refine xs_dup2 (q := 63) i_MO_getReady_62 rfl (xs_n rfl ?_)
              refine xs_iaload (q := 64) i_MO_getReady_63 rfl sg_64 rfl (by omega) (xs_n rfl ?_)
              refine xs_aload_n (q := 65) i_MO_getReady_64 rfl rfl (xs_n rfl ?_)
              refine xs_getr (q := 68) i_MO_getReady_65 rfl fd_MO_56 sg_50 rfl (xs_n rfl ?_)
              refine xs_iload_n (q := 69) i_MO_getReady_68 rfl rfl (xs_n rfl ?_)
              refine xs_iaload (q := 70) i_MO_getReady_69 rfl sg_66 rfl (by omega) (xs_n rfl ?_)
              refine xs_if_le (q := 82) (r := 73) i_MO_getReady_70 rfl rfl (by simp only [Int.toNat_natCast]; rw [ec]; exact hr.2.2) (fun h70 => (xs_n rfl ?_)) (fun h70 => (xs_n rfl ?_))
              · refine xs_aload_n (q := 83) i_MO_getReady_82 rfl rfl (xs_n rfl ?_)
                refine xs_getr (q := 86) i_MO_getReady_83 rfl fd_MO_16 sg_50 rfl (xs_n rfl ?_)
                refine xs_iload_n (q := 87) i_MO_getReady_86 rfl rfl (xs_n rfl ?_)
                refine xs_iaload (q := 88) i_MO_getReady_87 rfl sg_53 rfl (by omega) (xs_n rfl ?_)
                refine xs_iadd (q := 89) i_MO_getReady_88 rfl (xs_n rfl ?_)
                refine xs_iastore (q := 90) i_MO_getReady_89 rfl sg_64 (by omega) (xs_n rfl ?_)
                refine xs_aload_n (q := 91) i_MO_getReady_90 rfl rfl (xs_n rfl ?_)
                refine xs_getr (q := 94) i_MO_getReady_91 rfl fd_MO_56 sg_50 rfl (xs_n rfl ?_)
                refine xs_iload_n (q := 95) i_MO_getReady_94 rfl rfl (xs_n rfl ?_)
                refine xs_iconst (q := 96) i_MO_getReady_95 rfl (xs_n rfl ?_)
                refine xs_iastore (q := 97) i_MO_getReady_96 rfl sg_66 (by omega) (xs_n rfl ?_)
                refine xs_aload_n (q := 98) i_MO_getReady_97 rfl rfl (xs_n rfl ?_)
                refine xs_getr (q := 101) i_MO_getReady_98 rfl fd_MO_53 sg_50 rfl (xs_n rfl ?_)
                refine xs_iload_n (q := 102) i_MO_getReady_101 rfl rfl (xs_n rfl ?_)
                refine xs_aload_n (q := 103) i_MO_getReady_102 rfl rfl (xs_n rfl ?_)
                refine xs_geti (q := 106) i_MO_getReady_103 rfl fd_MO_132 sg_50 rfl (xs_n rfl ?_)
                refine xs_aload_n (q := 107) i_MO_getReady_106 rfl rfl (xs_n rfl ?_)
                refine xs_getr (q := 110) i_MO_getReady_107 rfl fd_MO_19 sg_50 rfl (xs_n rfl ?_)
                refine xs_iload_n (q := 111) i_MO_getReady_110 rfl rfl (xs_n rfl ?_)
                refine xs_iaload (q := 112) i_MO_getReady_111 rfl sg_54 rfl (by omega) (xs_n rfl ?_)
                refine xs_iadd (q := 113) i_MO_getReady_112 rfl (xs_n rfl ?_)
                refine xs_iastore (q := 114) i_MO_getReady_113 rfl sg_65 (by omega) (xs_n rfl ?_)
                refine xs_iinc (q := 117) (ls2 := [_, _]) i_MO_getReady_114 rfl rfl rfl (xs_n rfl ?_)
                refine xs_goto (q := 2) i_MO_getReady_117 rfl (xs_z rfl ?_)
                simp only [Int.toNat_natCast, ec] at h16
                have hb9 := am_ite1 h51
                simp only [Int.toNat_natCast, ec, ek 50 19 (by omega) (by omega)] at hb9
                simp only [Int.toNat_natCast, ec] at h70
                have ht5 : ¬ t = 29 := by omega
                have ht6 : ¬ (29 : Nat) = t := by omega
                have e29 : mo_gr M t 50 29 = M 50 29 + mo_lt M t := by simp [mo_gr, am_up]
                try simp only [Int.toNat_natCast]
                refine ⟨(M 50 1 - (t + 1 : Nat)).toNat, by omega, Or.inr ⟨t + 1, rfl, rfl, rfl, mo_gr_s (by omega) (fun k => ?_) (fun k j hj hkj => ?_) ?_, by omega, rfl⟩⟩
                · simp only [h_MO_getReady]
                  rw [if_pos hb9, if_neg (show ¬ 0 < M 66 t by omega)]
                  simp only [am_up, ec, ht5, and_true, and_false, if_false, false_and, show ¬ ((64 : Nat) = 50) by decide, show ¬ ((50 : Nat) = 64) by decide, show ¬ ((50 : Nat) = 65) by decide, show ¬ ((50 : Nat) = 66) by decide, show ¬ ((19 : Nat) = 29) by decide, ek 50 19 (show (50 : Nat) < 64 ∨ 66 < 50 by omega) (by omega)]
                  (repeat' split) <;> (first | rfl | omega | simp_all)
                · simp only [am_up]
                  (repeat' split) <;> (first | rfl | omega | (exfalso; exact hkj (by assumption)) | simp_all)
                · rw [show mo_lt M (t + 1) = mo_lt M t + (if 0 < M 64 t ∧ M 65 t = M 50 19 then 1 else 0) from rfl, if_neg (by omega)]
                  simp only [am_up, show ¬ ((50 : Nat) = 64) by decide, show ¬ ((50 : Nat) = 65) by decide, show ¬ ((50 : Nat) = 66) by decide, false_and, if_false, and_self, if_true, e29]
                  omega
              · refine xs_aload_n (q := 74) i_MO_getReady_73 rfl rfl (xs_n rfl ?_)
                refine xs_getr (q := 77) i_MO_getReady_74 rfl fd_MO_56 sg_50 rfl (xs_n rfl ?_)
                refine xs_iload_n (q := 78) i_MO_getReady_77 rfl rfl (xs_n rfl ?_)
                refine xs_iaload (q := 79) i_MO_getReady_78 rfl sg_66 rfl (by omega) (xs_n rfl ?_)
                refine xs_goto (q := 88) i_MO_getReady_79 rfl (xs_n rfl ?_)
                refine xs_iadd (q := 89) i_MO_getReady_88 rfl (xs_n rfl ?_)
                refine xs_iastore (q := 90) i_MO_getReady_89 rfl sg_64 (by omega) (xs_n rfl ?_)
                refine xs_aload_n (q := 91) i_MO_getReady_90 rfl rfl (xs_n rfl ?_)
                refine xs_getr (q := 94) i_MO_getReady_91 rfl fd_MO_56 sg_50 rfl (xs_n rfl ?_)
                refine xs_iload_n (q := 95) i_MO_getReady_94 rfl rfl (xs_n rfl ?_)
                refine xs_iconst (q := 96) i_MO_getReady_95 rfl (xs_n rfl ?_)
                refine xs_iastore (q := 97) i_MO_getReady_96 rfl sg_66 (by omega) (xs_n rfl ?_)
                refine xs_aload_n (q := 98) i_MO_getReady_97 rfl rfl (xs_n rfl ?_)
                refine xs_getr (q := 101) i_MO_getReady_98 rfl fd_MO_53 sg_50 rfl (xs_n rfl ?_)
                refine xs_iload_n (q := 102) i_MO_getReady_101 rfl rfl (xs_n rfl ?_)
                refine xs_aload_n (q := 103) i_MO_getReady_102 rfl rfl (xs_n rfl ?_)
                refine xs_geti (q := 106) i_MO_getReady_103 rfl fd_MO_132 sg_50 rfl (xs_n rfl ?_)
                refine xs_aload_n (q := 107) i_MO_getReady_106 rfl rfl (xs_n rfl ?_)
                refine xs_getr (q := 110) i_MO_getReady_107 rfl fd_MO_19 sg_50 rfl (xs_n rfl ?_)
                refine xs_iload_n (q := 111) i_MO_getReady_110 rfl rfl (xs_n rfl ?_)
                refine xs_iaload (q := 112) i_MO_getReady_111 rfl sg_54 rfl (by omega) (xs_n rfl ?_)
                refine xs_iadd (q := 113) i_MO_getReady_112 rfl (xs_n rfl ?_)
                refine xs_iastore (q := 114) i_MO_getReady_113 rfl sg_65 (by omega) (xs_n rfl ?_)
                refine xs_iinc (q := 117) (ls2 := [_, _]) i_MO_getReady_114 rfl rfl rfl (xs_n rfl ?_)
                refine xs_goto (q := 2) i_MO_getReady_117 rfl (xs_z rfl ?_)
                simp only [Int.toNat_natCast, ec] at h16
                have hb9 := am_ite1 h51
                simp only [Int.toNat_natCast, ec, ek 50 19 (by omega) (by omega)] at hb9
                simp only [Int.toNat_natCast, ec] at h70
                have ht5 : ¬ t = 29 := by omega
                have ht6 : ¬ (29 : Nat) = t := by omega
                have e29 : mo_gr M t 50 29 = M 50 29 + mo_lt M t := by simp [mo_gr, am_up]
                try simp only [Int.toNat_natCast]
                refine ⟨(M 50 1 - (t + 1 : Nat)).toNat, by omega, Or.inr ⟨t + 1, rfl, rfl, rfl, mo_gr_s (by omega) (fun k => ?_) (fun k j hj hkj => ?_) ?_, by omega, rfl⟩⟩
                · simp only [h_MO_getReady]
                  rw [if_pos hb9, if_pos h70]
                  simp only [am_up, ec, ht5, and_true, and_false, if_false, false_and, show ¬ ((64 : Nat) = 50) by decide, show ¬ ((50 : Nat) = 64) by decide, show ¬ ((50 : Nat) = 65) by decide, show ¬ ((50 : Nat) = 66) by decide, show ¬ ((19 : Nat) = 29) by decide, ek 50 19 (show (50 : Nat) < 64 ∨ 66 < 50 by omega) (by omega)]
                  (repeat' split) <;> (first | rfl | omega | simp_all)
                · simp only [am_up]
                  (repeat' split) <;> (first | rfl | omega | (exfalso; exact hkj (by assumption)) | simp_all)
                · rw [show mo_lt M (t + 1) = mo_lt M t + (if 0 < M 64 t ∧ M 65 t = M 50 19 then 1 else 0) from rfl, if_neg (by omega)]
                  simp only [am_up, show ¬ ((50 : Nat) = 64) by decide, show ¬ ((50 : Nat) = 65) by decide, show ¬ ((50 : Nat) = 66) by decide, false_and, if_false, and_self, if_true, e29]
                  omega
            · refine xs_goto (q := 114) i_MO_getReady_54 rfl (xs_n rfl ?_)
              refine xs_iinc (q := 117) (ls2 := [_, _]) i_MO_getReady_114 rfl rfl rfl (xs_n rfl ?_)
              refine xs_goto (q := 2) i_MO_getReady_117 rfl (xs_z rfl ?_)
              simp only [Int.toNat_natCast, ec] at h16
              have hb9 := am_ite0 h51
              simp only [Int.toNat_natCast, ec, ek 50 19 (by omega) (by omega)] at hb9
              have ht5 : ¬ t = 29 := by omega
              have ht6 : ¬ (29 : Nat) = t := by omega
              have e29 : mo_gr M t 50 29 = M 50 29 + mo_lt M t := by simp [mo_gr, am_up]
              try simp only [Int.toNat_natCast]
              refine ⟨(M 50 1 - (t + 1 : Nat)).toNat, by omega, Or.inr ⟨t + 1, rfl, rfl, rfl, mo_gr_s (by omega) (fun k => ?_) (fun k j hj hkj => ?_) ?_, by omega, rfl⟩⟩
              · rw [ec]
                simp only [h_MO_getReady]
                rw [if_neg hb9]
              · rfl
              · rw [e29]
                rw [show mo_lt M (t + 1) = mo_lt M t + (if 0 < M 64 t ∧ M 65 t = M 50 19 then 1 else 0) from rfl, if_neg (by omega)]
                omega
          · refine xs_aload_n (q := 20) i_MO_getReady_19 rfl rfl (xs_n rfl ?_)
            refine xs_getr (q := 23) i_MO_getReady_20 rfl fd_MO_53 sg_50 rfl (xs_n rfl ?_)
            refine xs_iload_n (q := 24) i_MO_getReady_23 rfl rfl (xs_n rfl ?_)
            refine xs_iaload (q := 25) i_MO_getReady_24 rfl sg_65 rfl (by omega) (xs_n rfl ?_)
            refine xs_aload_n (q := 26) i_MO_getReady_25 rfl rfl (xs_n rfl ?_)
            refine xs_geti (q := 29) i_MO_getReady_26 rfl fd_MO_132 sg_50 rfl (xs_n rfl ?_)
            refine xs_ic_ne (q := 42) (r := 32) i_MO_getReady_29 rfl rfl ⟨by simp only [Int.toNat_natCast]; rw [ec]; exact hr.2.1, by rw [ek 50 19 (by omega) (by omega)]; unfold am_R; omega⟩ (fun h29 => (xs_n rfl ?_)) (fun h29 => (xs_n rfl ?_))
            · refine xs_aload_n (q := 43) i_MO_getReady_42 rfl rfl (xs_n rfl ?_)
              refine xs_iload_n (q := 44) i_MO_getReady_43 rfl rfl (xs_n rfl ?_)
              refine xs_aload_n (q := 45) i_MO_getReady_44 rfl rfl (xs_n rfl ?_)
              refine xs_geti (q := 48) i_MO_getReady_45 rfl fd_MO_132 sg_50 rfl (xs_n rfl ?_)
              refine xs_cv (q := 51) (av := [_, _, _]) (rest := []) i_MO_getReady_48 rfl (e_MO_getReady_48) ⟨rfl, rfl⟩ rfl rfl ?_
              rw [am_V_iff]
              refine ⟨⟨_, sg_50⟩, ⟨rfl, by omega, by rw [ek 50 19 (by omega) (by omega)]; omega, by simp only [Int.toNat_natCast]; rw [ek 52 t (by omega) (by omega)]; omega, by simp only [Int.toNat_natCast]; rw [ek 51 t (by omega) (by omega)]; omega⟩, ?_⟩
              dsimp only [g_MO_begins, g_id]
              refine xs_r1 rfl (xs_n rfl ?_)
              refine xs_if_ne (q := 57) (r := 54) i_MO_getReady_51 rfl rfl am_ite (fun h51 => (xs_n rfl ?_)) (fun h51 => (xs_n rfl ?_))
              · refine xs_aload_n (q := 58) i_MO_getReady_57 rfl rfl (xs_n rfl ?_)
                refine xs_getr (q := 61) i_MO_getReady_58 rfl fd_MO_50 sg_50 rfl (xs_n rfl ?_)
                refine xs_iload_n (q := 62) i_MO_getReady_61 rfl rfl (xs_n rfl ?_)
                refine xs_dup2 (q := 63) i_MO_getReady_62 rfl (xs_n rfl ?_)
                refine xs_iaload (q := 64) i_MO_getReady_63 rfl sg_64 rfl (by omega) (xs_n rfl ?_)
                refine xs_aload_n (q := 65) i_MO_getReady_64 rfl rfl (xs_n rfl ?_)
                refine xs_getr (q := 68) i_MO_getReady_65 rfl fd_MO_56 sg_50 rfl (xs_n rfl ?_)
                refine xs_iload_n (q := 69) i_MO_getReady_68 rfl rfl (xs_n rfl ?_)
                refine xs_iaload (q := 70) i_MO_getReady_69 rfl sg_66 rfl (by omega) (xs_n rfl ?_)
                refine xs_if_le (q := 82) (r := 73) i_MO_getReady_70 rfl rfl (by simp only [Int.toNat_natCast]; rw [ec]; exact hr.2.2) (fun h70 => (xs_n rfl ?_)) (fun h70 => (xs_n rfl ?_))
                · refine xs_aload_n (q := 83) i_MO_getReady_82 rfl rfl (xs_n rfl ?_)
                  refine xs_getr (q := 86) i_MO_getReady_83 rfl fd_MO_16 sg_50 rfl (xs_n rfl ?_)
                  refine xs_iload_n (q := 87) i_MO_getReady_86 rfl rfl (xs_n rfl ?_)
                  refine xs_iaload (q := 88) i_MO_getReady_87 rfl sg_53 rfl (by omega) (xs_n rfl ?_)
                  refine xs_iadd (q := 89) i_MO_getReady_88 rfl (xs_n rfl ?_)
                  refine xs_iastore (q := 90) i_MO_getReady_89 rfl sg_64 (by omega) (xs_n rfl ?_)
                  refine xs_aload_n (q := 91) i_MO_getReady_90 rfl rfl (xs_n rfl ?_)
                  refine xs_getr (q := 94) i_MO_getReady_91 rfl fd_MO_56 sg_50 rfl (xs_n rfl ?_)
                  refine xs_iload_n (q := 95) i_MO_getReady_94 rfl rfl (xs_n rfl ?_)
                  refine xs_iconst (q := 96) i_MO_getReady_95 rfl (xs_n rfl ?_)
                  refine xs_iastore (q := 97) i_MO_getReady_96 rfl sg_66 (by omega) (xs_n rfl ?_)
                  refine xs_aload_n (q := 98) i_MO_getReady_97 rfl rfl (xs_n rfl ?_)
                  refine xs_getr (q := 101) i_MO_getReady_98 rfl fd_MO_53 sg_50 rfl (xs_n rfl ?_)
                  refine xs_iload_n (q := 102) i_MO_getReady_101 rfl rfl (xs_n rfl ?_)
                  refine xs_aload_n (q := 103) i_MO_getReady_102 rfl rfl (xs_n rfl ?_)
                  refine xs_geti (q := 106) i_MO_getReady_103 rfl fd_MO_132 sg_50 rfl (xs_n rfl ?_)
                  refine xs_aload_n (q := 107) i_MO_getReady_106 rfl rfl (xs_n rfl ?_)
                  refine xs_getr (q := 110) i_MO_getReady_107 rfl fd_MO_19 sg_50 rfl (xs_n rfl ?_)
                  refine xs_iload_n (q := 111) i_MO_getReady_110 rfl rfl (xs_n rfl ?_)
                  refine xs_iaload (q := 112) i_MO_getReady_111 rfl sg_54 rfl (by omega) (xs_n rfl ?_)
                  refine xs_iadd (q := 113) i_MO_getReady_112 rfl (xs_n rfl ?_)
                  refine xs_iastore (q := 114) i_MO_getReady_113 rfl sg_65 (by omega) (xs_n rfl ?_)
                  refine xs_iinc (q := 117) (ls2 := [_, _]) i_MO_getReady_114 rfl rfl rfl (xs_n rfl ?_)
                  refine xs_goto (q := 2) i_MO_getReady_117 rfl (xs_z rfl ?_)
                  simp only [Int.toNat_natCast, ec] at h16
                  simp only [Int.toNat_natCast, ec, ek 50 19 (by omega) (by omega)] at h29
                  have hb9 := am_ite1 h51
                  simp only [Int.toNat_natCast, ec, ek 50 19 (by omega) (by omega)] at hb9
                  simp only [Int.toNat_natCast, ec] at h70
                  have ht5 : ¬ t = 29 := by omega
                  have ht6 : ¬ (29 : Nat) = t := by omega
                  have e29 : mo_gr M t 50 29 = M 50 29 + mo_lt M t := by simp [mo_gr, am_up]
                  try simp only [Int.toNat_natCast]
                  refine ⟨(M 50 1 - (t + 1 : Nat)).toNat, by omega, Or.inr ⟨t + 1, rfl, rfl, rfl, mo_gr_s (by omega) (fun k => ?_) (fun k j hj hkj => ?_) ?_, by omega, rfl⟩⟩
                  · simp only [h_MO_getReady]
                    rw [if_pos hb9, if_neg (show ¬ 0 < M 66 t by omega)]
                    simp only [am_up, ec, ht5, and_true, and_false, if_false, false_and, show ¬ ((64 : Nat) = 50) by decide, show ¬ ((50 : Nat) = 64) by decide, show ¬ ((50 : Nat) = 65) by decide, show ¬ ((50 : Nat) = 66) by decide, show ¬ ((19 : Nat) = 29) by decide, ek 50 19 (show (50 : Nat) < 64 ∨ 66 < 50 by omega) (by omega)]
                    (repeat' split) <;> (first | rfl | omega | simp_all)
                  · simp only [am_up]
                    (repeat' split) <;> (first | rfl | omega | (exfalso; exact hkj (by assumption)) | simp_all)
                  · rw [show mo_lt M (t + 1) = mo_lt M t + (if 0 < M 64 t ∧ M 65 t = M 50 19 then 1 else 0) from rfl, if_neg (by omega)]
                    simp only [am_up, show ¬ ((50 : Nat) = 64) by decide, show ¬ ((50 : Nat) = 65) by decide, show ¬ ((50 : Nat) = 66) by decide, false_and, if_false, and_self, if_true, e29]
                    omega
                · refine xs_aload_n (q := 74) i_MO_getReady_73 rfl rfl (xs_n rfl ?_)
                  refine xs_getr (q := 77) i_MO_getReady_74 rfl fd_MO_56 sg_50 rfl (xs_n rfl ?_)
                  refine xs_iload_n (q := 78) i_MO_getReady_77 rfl rfl (xs_n rfl ?_)
                  refine xs_iaload (q := 79) i_MO_getReady_78 rfl sg_66 rfl (by omega) (xs_n rfl ?_)
                  refine xs_goto (q := 88) i_MO_getReady_79 rfl (xs_n rfl ?_)
                  refine xs_iadd (q := 89) i_MO_getReady_88 rfl (xs_n rfl ?_)
                  refine xs_iastore (q := 90) i_MO_getReady_89 rfl sg_64 (by omega) (xs_n rfl ?_)
                  refine xs_aload_n (q := 91) i_MO_getReady_90 rfl rfl (xs_n rfl ?_)
                  refine xs_getr (q := 94) i_MO_getReady_91 rfl fd_MO_56 sg_50 rfl (xs_n rfl ?_)
                  refine xs_iload_n (q := 95) i_MO_getReady_94 rfl rfl (xs_n rfl ?_)
                  refine xs_iconst (q := 96) i_MO_getReady_95 rfl (xs_n rfl ?_)
                  refine xs_iastore (q := 97) i_MO_getReady_96 rfl sg_66 (by omega) (xs_n rfl ?_)
                  refine xs_aload_n (q := 98) i_MO_getReady_97 rfl rfl (xs_n rfl ?_)
                  refine xs_getr (q := 101) i_MO_getReady_98 rfl fd_MO_53 sg_50 rfl (xs_n rfl ?_)
                  refine xs_iload_n (q := 102) i_MO_getReady_101 rfl rfl (xs_n rfl ?_)
                  refine xs_aload_n (q := 103) i_MO_getReady_102 rfl rfl (xs_n rfl ?_)
                  refine xs_geti (q := 106) i_MO_getReady_103 rfl fd_MO_132 sg_50 rfl (xs_n rfl ?_)
                  refine xs_aload_n (q := 107) i_MO_getReady_106 rfl rfl (xs_n rfl ?_)
                  refine xs_getr (q := 110) i_MO_getReady_107 rfl fd_MO_19 sg_50 rfl (xs_n rfl ?_)
                  refine xs_iload_n (q := 111) i_MO_getReady_110 rfl rfl (xs_n rfl ?_)
                  refine xs_iaload (q := 112) i_MO_getReady_111 rfl sg_54 rfl (by omega) (xs_n rfl ?_)
                  refine xs_iadd (q := 113) i_MO_getReady_112 rfl (xs_n rfl ?_)
                  refine xs_iastore (q := 114) i_MO_getReady_113 rfl sg_65 (by omega) (xs_n rfl ?_)
                  refine xs_iinc (q := 117) (ls2 := [_, _]) i_MO_getReady_114 rfl rfl rfl (xs_n rfl ?_)
                  refine xs_goto (q := 2) i_MO_getReady_117 rfl (xs_z rfl ?_)
                  simp only [Int.toNat_natCast, ec] at h16
                  simp only [Int.toNat_natCast, ec, ek 50 19 (by omega) (by omega)] at h29
                  have hb9 := am_ite1 h51
                  simp only [Int.toNat_natCast, ec, ek 50 19 (by omega) (by omega)] at hb9
                  simp only [Int.toNat_natCast, ec] at h70
                  have ht5 : ¬ t = 29 := by omega
                  have ht6 : ¬ (29 : Nat) = t := by omega
                  have e29 : mo_gr M t 50 29 = M 50 29 + mo_lt M t := by simp [mo_gr, am_up]
                  try simp only [Int.toNat_natCast]
                  refine ⟨(M 50 1 - (t + 1 : Nat)).toNat, by omega, Or.inr ⟨t + 1, rfl, rfl, rfl, mo_gr_s (by omega) (fun k => ?_) (fun k j hj hkj => ?_) ?_, by omega, rfl⟩⟩
                  · simp only [h_MO_getReady]
                    rw [if_pos hb9, if_pos h70]
                    simp only [am_up, ec, ht5, and_true, and_false, if_false, false_and, show ¬ ((64 : Nat) = 50) by decide, show ¬ ((50 : Nat) = 64) by decide, show ¬ ((50 : Nat) = 65) by decide, show ¬ ((50 : Nat) = 66) by decide, show ¬ ((19 : Nat) = 29) by decide, ek 50 19 (show (50 : Nat) < 64 ∨ 66 < 50 by omega) (by omega)]
                    (repeat' split) <;> (first | rfl | omega | simp_all)
                  · simp only [am_up]
                    (repeat' split) <;> (first | rfl | omega | (exfalso; exact hkj (by assumption)) | simp_all)
                  · rw [show mo_lt M (t + 1) = mo_lt M t + (if 0 < M 64 t ∧ M 65 t = M 50 19 then 1 else 0) from rfl, if_neg (by omega)]
                    simp only [am_up, show ¬ ((50 : Nat) = 64) by decide, show ¬ ((50 : Nat) = 65) by decide, show ¬ ((50 : Nat) = 66) by decide, false_and, if_false, and_self, if_true, e29]
                    omega
              · refine xs_goto (q := 114) i_MO_getReady_54 rfl (xs_n rfl ?_)
                refine xs_iinc (q := 117) (ls2 := [_, _]) i_MO_getReady_114 rfl rfl rfl (xs_n rfl ?_)
                refine xs_goto (q := 2) i_MO_getReady_117 rfl (xs_z rfl ?_)
                simp only [Int.toNat_natCast, ec] at h16
                simp only [Int.toNat_natCast, ec, ek 50 19 (by omega) (by omega)] at h29
                have hb9 := am_ite0 h51
                simp only [Int.toNat_natCast, ec, ek 50 19 (by omega) (by omega)] at hb9
                have ht5 : ¬ t = 29 := by omega
                have ht6 : ¬ (29 : Nat) = t := by omega
                have e29 : mo_gr M t 50 29 = M 50 29 + mo_lt M t := by simp [mo_gr, am_up]
                try simp only [Int.toNat_natCast]
                refine ⟨(M 50 1 - (t + 1 : Nat)).toNat, by omega, Or.inr ⟨t + 1, rfl, rfl, rfl, mo_gr_s (by omega) (fun k => ?_) (fun k j hj hkj => ?_) ?_, by omega, rfl⟩⟩
                · rw [ec]
                  simp only [h_MO_getReady]
                  rw [if_neg hb9]
                · rfl
                · rw [e29]
                  rw [show mo_lt M (t + 1) = mo_lt M t + (if 0 < M 64 t ∧ M 65 t = M 50 19 then 1 else 0) from rfl, if_neg (by omega)]
                  omega
            · refine xs_aload_n (q := 33) i_MO_getReady_32 rfl rfl (xs_n rfl ?_)
              refine xs_dupr (q := 34) i_MO_getReady_33 rfl (xs_n rfl ?_)
              refine xs_geti (q := 37) i_MO_getReady_34 rfl fd_MO_144 sg_50 rfl (xs_n rfl ?_)
              refine xs_iconst (q := 38) i_MO_getReady_37 rfl (xs_n rfl ?_)
              refine xs_iadd (q := 39) i_MO_getReady_38 rfl (xs_n rfl ?_)
              refine xs_puti (q := 42) i_MO_getReady_39 rfl fd_MO_144 sg_50 rfl (xs_n rfl ?_)
              refine xs_aload_n (q := 43) i_MO_getReady_42 rfl rfl (xs_n rfl ?_)
              refine xs_iload_n (q := 44) i_MO_getReady_43 rfl rfl (xs_n rfl ?_)
              refine xs_aload_n (q := 45) i_MO_getReady_44 rfl rfl (xs_n rfl ?_)
              refine xs_geti (q := 48) i_MO_getReady_45 rfl fd_MO_132 sg_50 rfl (xs_n rfl ?_)
              refine xs_cv (q := 51) (av := [_, _, _]) (rest := []) i_MO_getReady_48 rfl (e_MO_getReady_48) ⟨rfl, rfl⟩ rfl rfl ?_
              rw [am_V_iff]
              refine ⟨⟨_, sg_50⟩, ⟨rfl, by omega, by rw [am_up_j _ _ (by decide), ek 50 19 (by omega) (by omega)]; omega, by simp only [Int.toNat_natCast]; rw [am_up_k _ _ (by decide), ek 52 t (by omega) (by omega)]; omega, by simp only [Int.toNat_natCast]; rw [am_up_k _ _ (by decide), ek 51 t (by omega) (by omega)]; omega⟩, ?_⟩
              dsimp only [g_MO_begins, g_id]
              refine xs_r1 rfl (xs_n rfl ?_)
              refine xs_if_ne (q := 57) (r := 54) i_MO_getReady_51 rfl rfl am_ite (fun h51 => (xs_n rfl ?_)) (fun h51 => (xs_n rfl ?_))
              · refine xs_aload_n (q := 58) i_MO_getReady_57 rfl rfl (xs_n rfl ?_)
                refine xs_getr (q := 61) i_MO_getReady_58 rfl fd_MO_50 sg_50 rfl (xs_n rfl ?_)
                refine xs_iload_n (q := 62) i_MO_getReady_61 rfl rfl (xs_n rfl ?_)
                refine xs_dup2 (q := 63) i_MO_getReady_62 rfl (xs_n rfl ?_)
                refine xs_iaload (q := 64) i_MO_getReady_63 rfl sg_64 rfl (by omega) (xs_n rfl ?_)
                refine xs_aload_n (q := 65) i_MO_getReady_64 rfl rfl (xs_n rfl ?_)
                refine xs_getr (q := 68) i_MO_getReady_65 rfl fd_MO_56 sg_50 rfl (xs_n rfl ?_)
                refine xs_iload_n (q := 69) i_MO_getReady_68 rfl rfl (xs_n rfl ?_)
                refine xs_iaload (q := 70) i_MO_getReady_69 rfl sg_66 rfl (by omega) (xs_n rfl ?_)
                refine xs_if_le (q := 82) (r := 73) i_MO_getReady_70 rfl rfl (by simp only [Int.toNat_natCast]; rw [am_up_k _ _ (by decide), ec]; exact hr.2.2) (fun h70 => (xs_n rfl ?_)) (fun h70 => (xs_n rfl ?_))
                · refine xs_aload_n (q := 83) i_MO_getReady_82 rfl rfl (xs_n rfl ?_)
                  refine xs_getr (q := 86) i_MO_getReady_83 rfl fd_MO_16 sg_50 rfl (xs_n rfl ?_)
                  refine xs_iload_n (q := 87) i_MO_getReady_86 rfl rfl (xs_n rfl ?_)
                  refine xs_iaload (q := 88) i_MO_getReady_87 rfl sg_53 rfl (by omega) (xs_n rfl ?_)
                  refine xs_iadd (q := 89) i_MO_getReady_88 rfl (xs_n rfl ?_)
                  refine xs_iastore (q := 90) i_MO_getReady_89 rfl sg_64 (by omega) (xs_n rfl ?_)
                  refine xs_aload_n (q := 91) i_MO_getReady_90 rfl rfl (xs_n rfl ?_)
                  refine xs_getr (q := 94) i_MO_getReady_91 rfl fd_MO_56 sg_50 rfl (xs_n rfl ?_)
                  refine xs_iload_n (q := 95) i_MO_getReady_94 rfl rfl (xs_n rfl ?_)
                  refine xs_iconst (q := 96) i_MO_getReady_95 rfl (xs_n rfl ?_)
                  refine xs_iastore (q := 97) i_MO_getReady_96 rfl sg_66 (by omega) (xs_n rfl ?_)
                  refine xs_aload_n (q := 98) i_MO_getReady_97 rfl rfl (xs_n rfl ?_)
                  refine xs_getr (q := 101) i_MO_getReady_98 rfl fd_MO_53 sg_50 rfl (xs_n rfl ?_)
                  refine xs_iload_n (q := 102) i_MO_getReady_101 rfl rfl (xs_n rfl ?_)
                  refine xs_aload_n (q := 103) i_MO_getReady_102 rfl rfl (xs_n rfl ?_)
                  refine xs_geti (q := 106) i_MO_getReady_103 rfl fd_MO_132 sg_50 rfl (xs_n rfl ?_)
                  refine xs_aload_n (q := 107) i_MO_getReady_106 rfl rfl (xs_n rfl ?_)
                  refine xs_getr (q := 110) i_MO_getReady_107 rfl fd_MO_19 sg_50 rfl (xs_n rfl ?_)
                  refine xs_iload_n (q := 111) i_MO_getReady_110 rfl rfl (xs_n rfl ?_)
                  refine xs_iaload (q := 112) i_MO_getReady_111 rfl sg_54 rfl (by omega) (xs_n rfl ?_)
                  refine xs_iadd (q := 113) i_MO_getReady_112 rfl (xs_n rfl ?_)
                  refine xs_iastore (q := 114) i_MO_getReady_113 rfl sg_65 (by omega) (xs_n rfl ?_)
                  refine xs_iinc (q := 117) (ls2 := [_, _]) i_MO_getReady_114 rfl rfl rfl (xs_n rfl ?_)
                  refine xs_goto (q := 2) i_MO_getReady_117 rfl (xs_z rfl ?_)
                  simp only [Int.toNat_natCast, ec] at h16
                  simp only [Int.toNat_natCast, ec, ek 50 19 (by omega) (by omega)] at h29
                  have hb9 := am_ite1 h51
                  simp only [Int.toNat_natCast, am_up_k _ _ (show (52 : Nat) ≠ 50 by decide), am_up_k _ _ (show (51 : Nat) ≠ 50 by decide), ec] at hb9
                  have en : am_up (mo_gr M t) 50 29 (mo_gr M t 50 29 + 1) 50 19 = M 50 19 := by rw [am_up_j _ _ (by decide)]; exact ek 50 19 (by omega) (by omega)
                  rw [en] at hb9
                  simp only [Int.toNat_natCast, am_up_k _ _ (show (66 : Nat) ≠ 50 by decide), ec] at h70
                  have ht5 : ¬ t = 29 := by omega
                  have ht6 : ¬ (29 : Nat) = t := by omega
                  have e29 : mo_gr M t 50 29 = M 50 29 + mo_lt M t := by simp [mo_gr, am_up]
                  try simp only [Int.toNat_natCast]
                  refine ⟨(M 50 1 - (t + 1 : Nat)).toNat, by omega, Or.inr ⟨t + 1, rfl, rfl, rfl, mo_gr_s (by omega) (fun k => ?_) (fun k j hj hkj => ?_) ?_, by omega, rfl⟩⟩
                  · simp only [h_MO_getReady]
                    rw [if_pos hb9, if_neg (show ¬ 0 < M 66 t by omega)]
                    simp only [am_up, ec, ht5, and_true, and_false, if_false, false_and, show ¬ ((64 : Nat) = 50) by decide, show ¬ ((50 : Nat) = 64) by decide, show ¬ ((50 : Nat) = 65) by decide, show ¬ ((50 : Nat) = 66) by decide, show ¬ ((19 : Nat) = 29) by decide, ek 50 19 (show (50 : Nat) < 64 ∨ 66 < 50 by omega) (by omega)]
                    (repeat' split) <;> (first | rfl | omega | simp_all)
                  · simp only [am_up]
                    (repeat' split) <;> (first | rfl | omega | (exfalso; exact hkj (by assumption)) | simp_all)
                  · rw [show mo_lt M (t + 1) = mo_lt M t + (if 0 < M 64 t ∧ M 65 t = M 50 19 then 1 else 0) from rfl, if_pos ⟨h16, h29⟩]
                    simp only [am_up, show ¬ ((50 : Nat) = 64) by decide, show ¬ ((50 : Nat) = 65) by decide, show ¬ ((50 : Nat) = 66) by decide, false_and, if_false, and_self, if_true, e29]
                    omega
                · refine xs_aload_n (q := 74) i_MO_getReady_73 rfl rfl (xs_n rfl ?_)
                  refine xs_getr (q := 77) i_MO_getReady_74 rfl fd_MO_56 sg_50 rfl (xs_n rfl ?_)
                  refine xs_iload_n (q := 78) i_MO_getReady_77 rfl rfl (xs_n rfl ?_)
                  refine xs_iaload (q := 79) i_MO_getReady_78 rfl sg_66 rfl (by omega) (xs_n rfl ?_)
                  refine xs_goto (q := 88) i_MO_getReady_79 rfl (xs_n rfl ?_)
                  refine xs_iadd (q := 89) i_MO_getReady_88 rfl (xs_n rfl ?_)
                  refine xs_iastore (q := 90) i_MO_getReady_89 rfl sg_64 (by omega) (xs_n rfl ?_)
                  refine xs_aload_n (q := 91) i_MO_getReady_90 rfl rfl (xs_n rfl ?_)
                  refine xs_getr (q := 94) i_MO_getReady_91 rfl fd_MO_56 sg_50 rfl (xs_n rfl ?_)
                  refine xs_iload_n (q := 95) i_MO_getReady_94 rfl rfl (xs_n rfl ?_)
                  refine xs_iconst (q := 96) i_MO_getReady_95 rfl (xs_n rfl ?_)
                  refine xs_iastore (q := 97) i_MO_getReady_96 rfl sg_66 (by omega) (xs_n rfl ?_)
                  refine xs_aload_n (q := 98) i_MO_getReady_97 rfl rfl (xs_n rfl ?_)
                  refine xs_getr (q := 101) i_MO_getReady_98 rfl fd_MO_53 sg_50 rfl (xs_n rfl ?_)
                  refine xs_iload_n (q := 102) i_MO_getReady_101 rfl rfl (xs_n rfl ?_)
                  refine xs_aload_n (q := 103) i_MO_getReady_102 rfl rfl (xs_n rfl ?_)
                  refine xs_geti (q := 106) i_MO_getReady_103 rfl fd_MO_132 sg_50 rfl (xs_n rfl ?_)
                  refine xs_aload_n (q := 107) i_MO_getReady_106 rfl rfl (xs_n rfl ?_)
                  refine xs_getr (q := 110) i_MO_getReady_107 rfl fd_MO_19 sg_50 rfl (xs_n rfl ?_)
                  refine xs_iload_n (q := 111) i_MO_getReady_110 rfl rfl (xs_n rfl ?_)
                  refine xs_iaload (q := 112) i_MO_getReady_111 rfl sg_54 rfl (by omega) (xs_n rfl ?_)
                  refine xs_iadd (q := 113) i_MO_getReady_112 rfl (xs_n rfl ?_)
                  refine xs_iastore (q := 114) i_MO_getReady_113 rfl sg_65 (by omega) (xs_n rfl ?_)
                  refine xs_iinc (q := 117) (ls2 := [_, _]) i_MO_getReady_114 rfl rfl rfl (xs_n rfl ?_)
                  refine xs_goto (q := 2) i_MO_getReady_117 rfl (xs_z rfl ?_)
                  simp only [Int.toNat_natCast, ec] at h16
                  simp only [Int.toNat_natCast, ec, ek 50 19 (by omega) (by omega)] at h29
                  have hb9 := am_ite1 h51
                  simp only [Int.toNat_natCast, am_up_k _ _ (show (52 : Nat) ≠ 50 by decide), am_up_k _ _ (show (51 : Nat) ≠ 50 by decide), ec] at hb9
                  have en : am_up (mo_gr M t) 50 29 (mo_gr M t 50 29 + 1) 50 19 = M 50 19 := by rw [am_up_j _ _ (by decide)]; exact ek 50 19 (by omega) (by omega)
                  rw [en] at hb9
                  simp only [Int.toNat_natCast, am_up_k _ _ (show (66 : Nat) ≠ 50 by decide), ec] at h70
                  have ht5 : ¬ t = 29 := by omega
                  have ht6 : ¬ (29 : Nat) = t := by omega
                  have e29 : mo_gr M t 50 29 = M 50 29 + mo_lt M t := by simp [mo_gr, am_up]
                  try simp only [Int.toNat_natCast]
                  refine ⟨(M 50 1 - (t + 1 : Nat)).toNat, by omega, Or.inr ⟨t + 1, rfl, rfl, rfl, mo_gr_s (by omega) (fun k => ?_) (fun k j hj hkj => ?_) ?_, by omega, rfl⟩⟩
                  · simp only [h_MO_getReady]
                    rw [if_pos hb9, if_pos h70]
                    simp only [am_up, ec, ht5, and_true, and_false, if_false, false_and, show ¬ ((64 : Nat) = 50) by decide, show ¬ ((50 : Nat) = 64) by decide, show ¬ ((50 : Nat) = 65) by decide, show ¬ ((50 : Nat) = 66) by decide, show ¬ ((19 : Nat) = 29) by decide, ek 50 19 (show (50 : Nat) < 64 ∨ 66 < 50 by omega) (by omega)]
                    (repeat' split) <;> (first | rfl | omega | simp_all)
                  · simp only [am_up]
                    (repeat' split) <;> (first | rfl | omega | (exfalso; exact hkj (by assumption)) | simp_all)
                  · rw [show mo_lt M (t + 1) = mo_lt M t + (if 0 < M 64 t ∧ M 65 t = M 50 19 then 1 else 0) from rfl, if_pos ⟨h16, h29⟩]
                    simp only [am_up, show ¬ ((50 : Nat) = 64) by decide, show ¬ ((50 : Nat) = 65) by decide, show ¬ ((50 : Nat) = 66) by decide, false_and, if_false, and_self, if_true, e29]
                    omega
              · refine xs_goto (q := 114) i_MO_getReady_54 rfl (xs_n rfl ?_)
                refine xs_iinc (q := 117) (ls2 := [_, _]) i_MO_getReady_114 rfl rfl rfl (xs_n rfl ?_)
                refine xs_goto (q := 2) i_MO_getReady_117 rfl (xs_z rfl ?_)
                simp only [Int.toNat_natCast, ec] at h16
                simp only [Int.toNat_natCast, ec, ek 50 19 (by omega) (by omega)] at h29
                have hb9 := am_ite0 h51
                simp only [Int.toNat_natCast, am_up_k _ _ (show (52 : Nat) ≠ 50 by decide), am_up_k _ _ (show (51 : Nat) ≠ 50 by decide), ec] at hb9
                have en : am_up (mo_gr M t) 50 29 (mo_gr M t 50 29 + 1) 50 19 = M 50 19 := by rw [am_up_j _ _ (by decide)]; exact ek 50 19 (by omega) (by omega)
                rw [en] at hb9
                have ht5 : ¬ t = 29 := by omega
                have ht6 : ¬ (29 : Nat) = t := by omega
                have e29 : mo_gr M t 50 29 = M 50 29 + mo_lt M t := by simp [mo_gr, am_up]
                try simp only [Int.toNat_natCast]
                refine ⟨(M 50 1 - (t + 1 : Nat)).toNat, by omega, Or.inr ⟨t + 1, rfl, rfl, rfl, mo_gr_s (by omega) (fun k => ?_) (fun k j hj hkj => ?_) ?_, by omega, rfl⟩⟩
                · rw [am_up_j _ _ ht5, ec]
                  simp only [h_MO_getReady]
                  rw [if_neg hb9]
                · simp only [am_up]
                  rw [if_neg hkj]
                · rw [am_up_s, e29]
                  rw [show mo_lt M (t + 1) = mo_lt M t + (if 0 < M 64 t ∧ M 65 t = M 50 19 then 1 else 0) from rfl, if_pos ⟨h16, h29⟩]
                  omega
    · exact h.elim
