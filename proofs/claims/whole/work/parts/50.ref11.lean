/-! contracts: the reference, rule, start, tick, served (wip/whole/p50.py) -/
def mo_rc (M : am_M) (k b p : Int) : Int := if ((0 ≤ k ∧ k ≤ 3) ∧ (k = 0 ∨ k = 3 ∨ ((1 ≤ p ∧ p ≤ 60) ∧ (1 ≤ b ∧ b ≤ p)))) then (if M 50 10 = 0 then 0 else 2) else 1
def mo_rX (M : am_M) (k b p : Int) : am_M := am_up (am_up (am_up M 50 0 0) 56 k.toNat b) 57 k.toNat p
theorem mo_rX_ok {M : am_M} {k b p : Int} (h : mo_ok M) : mo_ok (mo_rX M k b p) := h
theorem mo_rX_rb {M : am_M} {k b p : Int} (h : mo_rb M) (hk : ((0 ≤ k ∧ k ≤ 3) ∧ (k = 0 ∨ k = 3 ∨ ((1 ≤ p ∧ p ≤ 60) ∧ (1 ≤ b ∧ b ≤ p))))) : mo_rb (mo_rX M k b p) := by
  obtain ⟨h1, h2⟩ := h
  obtain ⟨h3, h4⟩ := hk
  rcases (show k = 0 ∨ k = 1 ∨ k = 2 ∨ k = 3 by omega) with rfl | rfl | rfl | rfl <;> (simp [mo_rb, mo_rX, am_up]; omega)
def P_MO_rule : am_P := fun av M => match av with
  | [.inr (.inl i), .inl k, .inl b, .inl p] => i = 50 ∧ (am_R k ∧ am_R b ∧ am_R p) ∧ mo_ok M ∧ mo_rb M ∧ am_R (M 50 10)
  | _ => False
def f_MO_rule : am_Fr := fun av M => match av with
  | [.inr (.inl i), .inl k, .inl b, .inl p] => some (.inl (if mo_rc M k b p = 0 then mo_a (mo_rX M k b p) k else 0))
  | _ => none
def g_MO_rule : am_Fm := fun av M => match av with
  | [.inr (.inl i), .inl k, .inl b, .inl p] => if mo_rc M k b p = 0 then (if mo_a (mo_rX M k b p) k = 0 then mo_rX M k b p else am_up (mo_rX M k b p) 50 7 k) else am_up M 50 0 (mo_rc M k b p)
  | _ => M
def ct_MO_rule : am_T := fun pc => if pc = 3 then some (3, am_ctS P_MO_in (am_po f_MO_in g_MO_in)) else if pc = 22 then some (3, am_ctS P_MO_in (am_po f_MO_in g_MO_in)) else if pc = 31 then some (3, am_ctS P_MO_in (am_po f_MO_in g_MO_in)) else if pc = 94 then some (2, am_ctV vw_S 11 P_MO_isAdmitted (am_po f_MO_isAdmitted g_MO_isAdmitted)) else none
theorem e_MO_rule_3 : ct_MO_rule 3 = some (3, am_ctS P_MO_in (am_po f_MO_in g_MO_in)) := rfl
theorem e_MO_rule_22 : ct_MO_rule 22 = some (3, am_ctS P_MO_in (am_po f_MO_in g_MO_in)) := rfl
theorem e_MO_rule_31 : ct_MO_rule 31 = some (3, am_ctS P_MO_in (am_po f_MO_in g_MO_in)) := rfl
theorem e_MO_rule_94 : ct_MO_rule 94 = some (2, am_ctV vw_S 11 P_MO_isAdmitted (am_po f_MO_isAdmitted g_MO_isAdmitted)) := rfl
theorem ct_MO_rule_ok (l : Launch) : am_CC b_MO_rule 6 w_MO_rule y_MO_rule.cls l r_MO_rule ct_MO_rule := by
  intro p e s m args below meth c H0 A D G ad Q S hK hN hA pc q ct h
  have hts := S.2.2.2.2
  unfold ct_MO_rule at h
  split at h
  · rename_i hpc
    subst hpc; cases h
    exact am_callS S vw_N_ok hK hN hA ⟨Nat.zero_le _, Nat.zero_le _⟩ (m_MO_in l) (s_MO_103 hts am_vW hN ⟨by decide, by decide⟩) d_MO_rule_3
  split at h
  · rename_i hpc
    subst hpc; cases h
    exact am_callS S vw_N_ok hK hN hA ⟨Nat.zero_le _, Nat.zero_le _⟩ (m_MO_in l) (s_MO_103 hts am_vW hN ⟨by decide, by decide⟩) d_MO_rule_22
  split at h
  · rename_i hpc
    subst hpc; cases h
    exact am_callS S vw_N_ok hK hN hA ⟨Nat.zero_le _, Nat.zero_le _⟩ (m_MO_in l) (s_MO_103 hts am_vW hN ⟨by decide, by decide⟩) d_MO_rule_31
  split at h
  · rename_i hpc
    subst hpc; cases h
    exact am_callV S vw_N_ok hK hN hA ⟨Nat.zero_le _, Nat.zero_le _⟩ (m_MO_isAdmitted l) (s_MO_121 hts am_vW hN ⟨by decide, by decide⟩) (by rfl) d_MO_rule_94
  cases h
theorem m_MO_rule (l : Launch) : am_MF l y_MO_rule w_MO_rule r_MO_rule P_MO_rule f_MO_rule g_MO_rule := by
  refine am_mk0 i_MO_rule_ok fd_MO_ok (ct_MO_rule_ok l) (plainFor_of_name (by decide +kernel)) (by decide) ?_ 70 ?_
  · intro av M h
    unfold P_MO_rule at h
    split at h
    · exact ⟨Nat.le_of_ble_eq_true rfl, rfl⟩
    · exact h.elim
  · intro av M Z h
    unfold P_MO_rule at h
    split at h
    · rename_i i k b p
      obtain ⟨rfl, ⟨h1k, h1b, h1p⟩, h2, h3, h4⟩ := h
      refine xs_iload_n (q := 1) i_MO_rule_0 rfl rfl (xs_n rfl ?_)
      refine xs_iconst (q := 2) i_MO_rule_1 rfl (xs_n rfl ?_)
      refine xs_iconst (q := 3) i_MO_rule_2 rfl (xs_n rfl ?_)
      refine xs_cs (q := 6) (av := [_, _, _]) (rest := []) i_MO_rule_3 rfl (e_MO_rule_3) ⟨rfl, rfl⟩ rfl rfl ?_
      rw [am_S_iff]
      refine ⟨⟨h1k, by unfold am_R; omega, by unfold am_R; omega⟩, ?_⟩
      dsimp only [g_MO_in, g_id]
      refine xs_r1 rfl (xs_n rfl ?_)
      refine xs_if_eq (q := 41) (r := 9) i_MO_rule_6 rfl rfl am_ite (fun h6 => (xs_n rfl ?_)) (fun h6 => (xs_n rfl ?_))
      · refine xs_iconst (q := 42) i_MO_rule_41 rfl (xs_n rfl ?_)
        refine xs_istore (q := 44) (ls2 := [_, _, _, _, _, _]) i_MO_rule_42 rfl rfl rfl (xs_n rfl ?_)
        refine xs_aload_n (q := 45) i_MO_rule_44 rfl rfl (xs_n rfl ?_)
        refine xs_iload (q := 47) i_MO_rule_45 rfl rfl (xs_n rfl ?_)
        refine xs_if_ne (q := 54) (r := 50) i_MO_rule_47 rfl rfl (by unfold am_R; omega) (fun h47 => (xs_n rfl ?_)) (fun h47 => (xs_n rfl ?_))
        · exact absurd rfl h47
        · refine xs_iconst (q := 51) i_MO_rule_50 rfl (xs_n rfl ?_)
          refine xs_goto (q := 66) i_MO_rule_51 rfl (xs_n rfl ?_)
          refine xs_puti (q := 69) i_MO_rule_66 rfl fd_MO_92 sg_50 rfl (xs_n rfl ?_)
          refine xs_aload_n (q := 70) i_MO_rule_69 rfl rfl (xs_n rfl ?_)
          refine xs_geti (q := 73) i_MO_rule_70 rfl fd_MO_92 sg_50 rfl (xs_n rfl ?_)
          refine xs_if_le (q := 78) (r := 76) i_MO_rule_73 rfl rfl (by rw [am_up_s]; unfold am_R; omega) (fun h73 => (xs_n rfl ?_)) (fun h73 => (xs_n rfl ?_))
          · exact absurd h73 (by rw [am_up_s]; decide)
          · refine xs_iconst (q := 77) i_MO_rule_76 rfl (xs_n rfl ?_)
            refine xs_iret i_MO_rule_77 ?_
            have ec : mo_rc M k b p = 1 := by unfold mo_rc; rw [if_neg (show ¬ ((0 ≤ k ∧ k ≤ 3) ∧ (k = 0 ∨ k = 3 ∨ ((1 ≤ p ∧ p ≤ 60) ∧ (1 ≤ b ∧ b ≤ p)))) from fun q => (show ¬ (0 ≤ k ∧ k ≤ 3) from am_ite0 h6) q.1)]
            exact xs_fin (by simp only [f_MO_rule]; rw [if_neg (by rw [ec]; decide)]) (by simp only [g_MO_rule]; rw [if_neg (by rw [ec]; decide), ec]) (Or.inl rfl)
      · refine xs_iload_n (q := 10) i_MO_rule_9 rfl rfl (xs_n rfl ?_)
        refine xs_if_eq (q := 37) (r := 13) i_MO_rule_10 rfl rfl h1k (fun h10 => (xs_n rfl ?_)) (fun h10 => (xs_n rfl ?_))
        · refine xs_iconst (q := 38) i_MO_rule_37 rfl (xs_n rfl ?_)
          refine xs_goto (q := 42) i_MO_rule_38 rfl (xs_n rfl ?_)
          refine xs_istore (q := 44) (ls2 := [_, _, _, _, _, _]) i_MO_rule_42 rfl rfl rfl (xs_n rfl ?_)
          refine xs_aload_n (q := 45) i_MO_rule_44 rfl rfl (xs_n rfl ?_)
          refine xs_iload (q := 47) i_MO_rule_45 rfl rfl (xs_n rfl ?_)
          refine xs_if_ne (q := 54) (r := 50) i_MO_rule_47 rfl rfl (by unfold am_R; omega) (fun h47 => (xs_n rfl ?_)) (fun h47 => (xs_n rfl ?_))
          · refine xs_aload_n (q := 55) i_MO_rule_54 rfl rfl (xs_n rfl ?_)
            refine xs_geti (q := 58) i_MO_rule_55 rfl fd_MO_111 sg_50 rfl (xs_n rfl ?_)
            refine xs_if_eq (q := 65) (r := 61) i_MO_rule_58 rfl rfl h4 (fun h58 => (xs_n rfl ?_)) (fun h58 => (xs_n rfl ?_))
            · refine xs_iconst (q := 66) i_MO_rule_65 rfl (xs_n rfl ?_)
              refine xs_puti (q := 69) i_MO_rule_66 rfl fd_MO_92 sg_50 rfl (xs_n rfl ?_)
              refine xs_aload_n (q := 70) i_MO_rule_69 rfl rfl (xs_n rfl ?_)
              refine xs_geti (q := 73) i_MO_rule_70 rfl fd_MO_92 sg_50 rfl (xs_n rfl ?_)
              refine xs_if_le (q := 78) (r := 76) i_MO_rule_73 rfl rfl (by rw [am_up_s]; unfold am_R; omega) (fun h73 => (xs_n rfl ?_)) (fun h73 => (xs_n rfl ?_))
              · refine xs_aload_n (q := 79) i_MO_rule_78 rfl rfl (xs_n rfl ?_)
                refine xs_getr (q := 82) i_MO_rule_79 rfl fd_MO_25 sg_50 rfl (xs_n rfl ?_)
                refine xs_iload_n (q := 83) i_MO_rule_82 rfl rfl (xs_n rfl ?_)
                refine xs_iload_n (q := 84) i_MO_rule_83 rfl rfl (xs_n rfl ?_)
                refine xs_iastore (q := 85) i_MO_rule_84 rfl sg_56 (by have hk9 : (0 ≤ k ∧ k ≤ 3) := am_ite1 h6; show 0 ≤ k ∧ k < 4; omega) (xs_n rfl ?_)
                refine xs_aload_n (q := 86) i_MO_rule_85 rfl rfl (xs_n rfl ?_)
                refine xs_getr (q := 89) i_MO_rule_86 rfl fd_MO_28 sg_50 rfl (xs_n rfl ?_)
                refine xs_iload_n (q := 90) i_MO_rule_89 rfl rfl (xs_n rfl ?_)
                refine xs_iload_n (q := 91) i_MO_rule_90 rfl rfl (xs_n rfl ?_)
                refine xs_iastore (q := 92) i_MO_rule_91 rfl sg_57 (by have hk9 : (0 ≤ k ∧ k ≤ 3) := am_ite1 h6; show 0 ≤ k ∧ k < 4; omega) (xs_n rfl ?_)
                refine xs_aload_n (q := 93) i_MO_rule_92 rfl rfl (xs_n rfl ?_)
                refine xs_iload_n (q := 94) i_MO_rule_93 rfl rfl (xs_n rfl ?_)
                refine xs_cv (q := 97) (av := [_, _]) (rest := []) i_MO_rule_94 rfl (e_MO_rule_94) ⟨rfl, rfl⟩ rfl rfl ?_
                rw [am_V_iff]
                refine ⟨⟨_, sg_50⟩, ⟨rfl, h1k, mo_rX_ok h2, mo_rX_rb h3 (show ((0 ≤ k ∧ k ≤ 3) ∧ (k = 0 ∨ k = 3 ∨ ((1 ≤ p ∧ p ≤ 60) ∧ (1 ≤ b ∧ b ≤ p)))) from ⟨am_ite1 h6, Or.inl h10⟩)⟩, ?_⟩
                dsimp only [g_MO_isAdmitted, g_id]
                refine xs_r1 rfl (xs_n rfl ?_)
                refine xs_istore (q := 99) (ls2 := [_, _, _, _, _, _]) i_MO_rule_97 rfl rfl rfl (xs_n rfl ?_)
                refine xs_iload (q := 101) i_MO_rule_99 rfl rfl (xs_n rfl ?_)
                refine xs_if_eq (q := 109) (r := 104) i_MO_rule_101 rfl rfl (by rcases mo_a_01 (mo_rX M k b p) k with q | q <;> (show am_R (mo_a (mo_rX M k b p) k); rw [q]; unfold am_R; omega)) (fun h101 => (xs_n rfl ?_)) (fun h101 => (xs_n rfl ?_))
                · refine xs_iload (q := 111) i_MO_rule_109 rfl rfl (xs_n rfl ?_)
                  refine xs_iret i_MO_rule_111 ?_
                  have ec : mo_rc M k b p = 0 := by unfold mo_rc; rw [if_pos (show ((0 ≤ k ∧ k ≤ 3) ∧ (k = 0 ∨ k = 3 ∨ ((1 ≤ p ∧ p ≤ 60) ∧ (1 ≤ b ∧ b ≤ p)))) from ⟨am_ite1 h6, Or.inl h10⟩), if_pos h58]
                  exact xs_fin (by simp only [f_MO_rule]; rw [if_pos ec]; rfl) (by simp only [g_MO_rule]; rw [if_pos ec, if_pos (show mo_a (mo_rX M k b p) k = 0 from h101)]; rfl) (mo_a_01 _ _)
                · refine xs_aload_n (q := 105) i_MO_rule_104 rfl rfl (xs_n rfl ?_)
                  refine xs_iload_n (q := 106) i_MO_rule_105 rfl rfl (xs_n rfl ?_)
                  refine xs_puti (q := 109) i_MO_rule_106 rfl fd_MO_125 sg_50 rfl (xs_n rfl ?_)
                  refine xs_iload (q := 111) i_MO_rule_109 rfl rfl (xs_n rfl ?_)
                  refine xs_iret i_MO_rule_111 ?_
                  have ec : mo_rc M k b p = 0 := by unfold mo_rc; rw [if_pos (show ((0 ≤ k ∧ k ≤ 3) ∧ (k = 0 ∨ k = 3 ∨ ((1 ≤ p ∧ p ≤ 60) ∧ (1 ≤ b ∧ b ≤ p)))) from ⟨am_ite1 h6, Or.inl h10⟩), if_pos h58]
                  exact xs_fin (by simp only [f_MO_rule]; rw [if_pos ec]; rfl) (by simp only [g_MO_rule]; rw [if_pos ec, if_neg (show ¬ mo_a (mo_rX M k b p) k = 0 from h101)]; rfl) (mo_a_01 _ _)
              · exact absurd h73 (by rw [am_up_s]; decide)
            · refine xs_iconst (q := 62) i_MO_rule_61 rfl (xs_n rfl ?_)
              refine xs_goto (q := 66) i_MO_rule_62 rfl (xs_n rfl ?_)
              refine xs_puti (q := 69) i_MO_rule_66 rfl fd_MO_92 sg_50 rfl (xs_n rfl ?_)
              refine xs_aload_n (q := 70) i_MO_rule_69 rfl rfl (xs_n rfl ?_)
              refine xs_geti (q := 73) i_MO_rule_70 rfl fd_MO_92 sg_50 rfl (xs_n rfl ?_)
              refine xs_if_le (q := 78) (r := 76) i_MO_rule_73 rfl rfl (by rw [am_up_s]; unfold am_R; omega) (fun h73 => (xs_n rfl ?_)) (fun h73 => (xs_n rfl ?_))
              · exact absurd h73 (by rw [am_up_s]; decide)
              · refine xs_iconst (q := 77) i_MO_rule_76 rfl (xs_n rfl ?_)
                refine xs_iret i_MO_rule_77 ?_
                have ec : mo_rc M k b p = 2 := by unfold mo_rc; rw [if_pos (show ((0 ≤ k ∧ k ≤ 3) ∧ (k = 0 ∨ k = 3 ∨ ((1 ≤ p ∧ p ≤ 60) ∧ (1 ≤ b ∧ b ≤ p)))) from ⟨am_ite1 h6, Or.inl h10⟩), if_neg h58]
                exact xs_fin (by simp only [f_MO_rule]; rw [if_neg (by rw [ec]; decide)]) (by simp only [g_MO_rule]; rw [if_neg (by rw [ec]; decide), ec]) (Or.inl rfl)
          · exact absurd h47 (by decide)
        · refine xs_iload_n (q := 14) i_MO_rule_13 rfl rfl (xs_n rfl ?_)
          refine xs_iconst (q := 15) i_MO_rule_14 rfl (xs_n rfl ?_)
          refine xs_ic_eq (q := 37) (r := 18) i_MO_rule_15 rfl rfl ⟨h1k, by unfold am_R; omega⟩ (fun h15 => (xs_n rfl ?_)) (fun h15 => (xs_n rfl ?_))
          · refine xs_iconst (q := 38) i_MO_rule_37 rfl (xs_n rfl ?_)
            refine xs_goto (q := 42) i_MO_rule_38 rfl (xs_n rfl ?_)
            refine xs_istore (q := 44) (ls2 := [_, _, _, _, _, _]) i_MO_rule_42 rfl rfl rfl (xs_n rfl ?_)
            refine xs_aload_n (q := 45) i_MO_rule_44 rfl rfl (xs_n rfl ?_)
            refine xs_iload (q := 47) i_MO_rule_45 rfl rfl (xs_n rfl ?_)
            refine xs_if_ne (q := 54) (r := 50) i_MO_rule_47 rfl rfl (by unfold am_R; omega) (fun h47 => (xs_n rfl ?_)) (fun h47 => (xs_n rfl ?_))
            · refine xs_aload_n (q := 55) i_MO_rule_54 rfl rfl (xs_n rfl ?_)
              refine xs_geti (q := 58) i_MO_rule_55 rfl fd_MO_111 sg_50 rfl (xs_n rfl ?_)
              refine xs_if_eq (q := 65) (r := 61) i_MO_rule_58 rfl rfl h4 (fun h58 => (xs_n rfl ?_)) (fun h58 => (xs_n rfl ?_))
              · refine xs_iconst (q := 66) i_MO_rule_65 rfl (xs_n rfl ?_)
                refine xs_puti (q := 69) i_MO_rule_66 rfl fd_MO_92 sg_50 rfl (xs_n rfl ?_)
                refine xs_aload_n (q := 70) i_MO_rule_69 rfl rfl (xs_n rfl ?_)
                refine xs_geti (q := 73) i_MO_rule_70 rfl fd_MO_92 sg_50 rfl (xs_n rfl ?_)
                refine xs_if_le (q := 78) (r := 76) i_MO_rule_73 rfl rfl (by rw [am_up_s]; unfold am_R; omega) (fun h73 => (xs_n rfl ?_)) (fun h73 => (xs_n rfl ?_))
                · refine xs_aload_n (q := 79) i_MO_rule_78 rfl rfl (xs_n rfl ?_)
                  refine xs_getr (q := 82) i_MO_rule_79 rfl fd_MO_25 sg_50 rfl (xs_n rfl ?_)
                  refine xs_iload_n (q := 83) i_MO_rule_82 rfl rfl (xs_n rfl ?_)
                  refine xs_iload_n (q := 84) i_MO_rule_83 rfl rfl (xs_n rfl ?_)
                  refine xs_iastore (q := 85) i_MO_rule_84 rfl sg_56 (by have hk9 : (0 ≤ k ∧ k ≤ 3) := am_ite1 h6; show 0 ≤ k ∧ k < 4; omega) (xs_n rfl ?_)
                  refine xs_aload_n (q := 86) i_MO_rule_85 rfl rfl (xs_n rfl ?_)
                  refine xs_getr (q := 89) i_MO_rule_86 rfl fd_MO_28 sg_50 rfl (xs_n rfl ?_)
                  refine xs_iload_n (q := 90) i_MO_rule_89 rfl rfl (xs_n rfl ?_)
                  refine xs_iload_n (q := 91) i_MO_rule_90 rfl rfl (xs_n rfl ?_)
                  refine xs_iastore (q := 92) i_MO_rule_91 rfl sg_57 (by have hk9 : (0 ≤ k ∧ k ≤ 3) := am_ite1 h6; show 0 ≤ k ∧ k < 4; omega) (xs_n rfl ?_)
                  refine xs_aload_n (q := 93) i_MO_rule_92 rfl rfl (xs_n rfl ?_)
                  refine xs_iload_n (q := 94) i_MO_rule_93 rfl rfl (xs_n rfl ?_)
                  refine xs_cv (q := 97) (av := [_, _]) (rest := []) i_MO_rule_94 rfl (e_MO_rule_94) ⟨rfl, rfl⟩ rfl rfl ?_
                  rw [am_V_iff]
                  refine ⟨⟨_, sg_50⟩, ⟨rfl, h1k, mo_rX_ok h2, mo_rX_rb h3 (show ((0 ≤ k ∧ k ≤ 3) ∧ (k = 0 ∨ k = 3 ∨ ((1 ≤ p ∧ p ≤ 60) ∧ (1 ≤ b ∧ b ≤ p)))) from ⟨am_ite1 h6, Or.inr (Or.inl h15)⟩)⟩, ?_⟩
                  dsimp only [g_MO_isAdmitted, g_id]
                  refine xs_r1 rfl (xs_n rfl ?_)
                  refine xs_istore (q := 99) (ls2 := [_, _, _, _, _, _]) i_MO_rule_97 rfl rfl rfl (xs_n rfl ?_)
                  refine xs_iload (q := 101) i_MO_rule_99 rfl rfl (xs_n rfl ?_)
                  refine xs_if_eq (q := 109) (r := 104) i_MO_rule_101 rfl rfl (by rcases mo_a_01 (mo_rX M k b p) k with q | q <;> (show am_R (mo_a (mo_rX M k b p) k); rw [q]; unfold am_R; omega)) (fun h101 => (xs_n rfl ?_)) (fun h101 => (xs_n rfl ?_))
                  · refine xs_iload (q := 111) i_MO_rule_109 rfl rfl (xs_n rfl ?_)
                    refine xs_iret i_MO_rule_111 ?_
                    have ec : mo_rc M k b p = 0 := by unfold mo_rc; rw [if_pos (show ((0 ≤ k ∧ k ≤ 3) ∧ (k = 0 ∨ k = 3 ∨ ((1 ≤ p ∧ p ≤ 60) ∧ (1 ≤ b ∧ b ≤ p)))) from ⟨am_ite1 h6, Or.inr (Or.inl h15)⟩), if_pos h58]
                    exact xs_fin (by simp only [f_MO_rule]; rw [if_pos ec]; rfl) (by simp only [g_MO_rule]; rw [if_pos ec, if_pos (show mo_a (mo_rX M k b p) k = 0 from h101)]; rfl) (mo_a_01 _ _)
                  · refine xs_aload_n (q := 105) i_MO_rule_104 rfl rfl (xs_n rfl ?_)
                    refine xs_iload_n (q := 106) i_MO_rule_105 rfl rfl (xs_n rfl ?_)
                    refine xs_puti (q := 109) i_MO_rule_106 rfl fd_MO_125 sg_50 rfl (xs_n rfl ?_)
                    refine xs_iload (q := 111) i_MO_rule_109 rfl rfl (xs_n rfl ?_)
                    refine xs_iret i_MO_rule_111 ?_
                    have ec : mo_rc M k b p = 0 := by unfold mo_rc; rw [if_pos (show ((0 ≤ k ∧ k ≤ 3) ∧ (k = 0 ∨ k = 3 ∨ ((1 ≤ p ∧ p ≤ 60) ∧ (1 ≤ b ∧ b ≤ p)))) from ⟨am_ite1 h6, Or.inr (Or.inl h15)⟩), if_pos h58]
                    exact xs_fin (by simp only [f_MO_rule]; rw [if_pos ec]; rfl) (by simp only [g_MO_rule]; rw [if_pos ec, if_neg (show ¬ mo_a (mo_rX M k b p) k = 0 from h101)]; rfl) (mo_a_01 _ _)
                · exact absurd h73 (by rw [am_up_s]; decide)
              · refine xs_iconst (q := 62) i_MO_rule_61 rfl (xs_n rfl ?_)
                refine xs_goto (q := 66) i_MO_rule_62 rfl (xs_n rfl ?_)
                refine xs_puti (q := 69) i_MO_rule_66 rfl fd_MO_92 sg_50 rfl (xs_n rfl ?_)
                refine xs_aload_n (q := 70) i_MO_rule_69 rfl rfl (xs_n rfl ?_)
                refine xs_geti (q := 73) i_MO_rule_70 rfl fd_MO_92 sg_50 rfl (xs_n rfl ?_)
                refine xs_if_le (q := 78) (r := 76) i_MO_rule_73 rfl rfl (by rw [am_up_s]; unfold am_R; omega) (fun h73 => (xs_n rfl ?_)) (fun h73 => (xs_n rfl ?_))
                · exact absurd h73 (by rw [am_up_s]; decide)
                · refine xs_iconst (q := 77) i_MO_rule_76 rfl (xs_n rfl ?_)
                  refine xs_iret i_MO_rule_77 ?_
                  have ec : mo_rc M k b p = 2 := by unfold mo_rc; rw [if_pos (show ((0 ≤ k ∧ k ≤ 3) ∧ (k = 0 ∨ k = 3 ∨ ((1 ≤ p ∧ p ≤ 60) ∧ (1 ≤ b ∧ b ≤ p)))) from ⟨am_ite1 h6, Or.inr (Or.inl h15)⟩), if_neg h58]
                  exact xs_fin (by simp only [f_MO_rule]; rw [if_neg (by rw [ec]; decide)]) (by simp only [g_MO_rule]; rw [if_neg (by rw [ec]; decide), ec]) (Or.inl rfl)
            · exact absurd h47 (by decide)
          · refine xs_iload_n (q := 19) i_MO_rule_18 rfl rfl (xs_n rfl ?_)
            refine xs_iconst (q := 20) i_MO_rule_19 rfl (xs_n rfl ?_)
            refine xs_bipush (q := 22) i_MO_rule_20 rfl (by decide) (xs_n rfl ?_)
            refine xs_cs (q := 25) (av := [_, _, _]) (rest := []) i_MO_rule_22 rfl (e_MO_rule_22) ⟨rfl, rfl⟩ rfl rfl ?_
            rw [am_S_iff]
            refine ⟨⟨h1p, by unfold am_R; omega, by unfold am_R; omega⟩, ?_⟩
            dsimp only [g_MO_in, g_id]
            refine xs_r1 rfl (xs_n rfl ?_)
            refine xs_if_eq (q := 41) (r := 28) i_MO_rule_25 rfl rfl am_ite (fun h25 => (xs_n rfl ?_)) (fun h25 => (xs_n rfl ?_))
            · refine xs_iconst (q := 42) i_MO_rule_41 rfl (xs_n rfl ?_)
              refine xs_istore (q := 44) (ls2 := [_, _, _, _, _, _]) i_MO_rule_42 rfl rfl rfl (xs_n rfl ?_)
              refine xs_aload_n (q := 45) i_MO_rule_44 rfl rfl (xs_n rfl ?_)
              refine xs_iload (q := 47) i_MO_rule_45 rfl rfl (xs_n rfl ?_)
              refine xs_if_ne (q := 54) (r := 50) i_MO_rule_47 rfl rfl (by unfold am_R; omega) (fun h47 => (xs_n rfl ?_)) (fun h47 => (xs_n rfl ?_))
              · exact absurd rfl h47
              · refine xs_iconst (q := 51) i_MO_rule_50 rfl (xs_n rfl ?_)
                refine xs_goto (q := 66) i_MO_rule_51 rfl (xs_n rfl ?_)
                refine xs_puti (q := 69) i_MO_rule_66 rfl fd_MO_92 sg_50 rfl (xs_n rfl ?_)
                refine xs_aload_n (q := 70) i_MO_rule_69 rfl rfl (xs_n rfl ?_)
                refine xs_geti (q := 73) i_MO_rule_70 rfl fd_MO_92 sg_50 rfl (xs_n rfl ?_)
                refine xs_if_le (q := 78) (r := 76) i_MO_rule_73 rfl rfl (by rw [am_up_s]; unfold am_R; omega) (fun h73 => (xs_n rfl ?_)) (fun h73 => (xs_n rfl ?_))
                · exact absurd h73 (by rw [am_up_s]; decide)
                · refine xs_iconst (q := 77) i_MO_rule_76 rfl (xs_n rfl ?_)
                  refine xs_iret i_MO_rule_77 ?_
                  have ec : mo_rc M k b p = 1 := by unfold mo_rc; rw [if_neg (show ¬ ((0 ≤ k ∧ k ≤ 3) ∧ (k = 0 ∨ k = 3 ∨ ((1 ≤ p ∧ p ≤ 60) ∧ (1 ≤ b ∧ b ≤ p)))) from fun q => q.2.elim h10 (fun z => z.elim h15 (fun y => (show ¬ (1 ≤ p ∧ p ≤ 60) from am_ite0 h25) y.1)))]
                  exact xs_fin (by simp only [f_MO_rule]; rw [if_neg (by rw [ec]; decide)]) (by simp only [g_MO_rule]; rw [if_neg (by rw [ec]; decide), ec]) (Or.inl rfl)
            · refine xs_iload_n (q := 29) i_MO_rule_28 rfl rfl (xs_n rfl ?_)
              refine xs_iconst (q := 30) i_MO_rule_29 rfl (xs_n rfl ?_)
              refine xs_iload_n (q := 31) i_MO_rule_30 rfl rfl (xs_n rfl ?_)
              refine xs_cs (q := 34) (av := [_, _, _]) (rest := []) i_MO_rule_31 rfl (e_MO_rule_31) ⟨rfl, rfl⟩ rfl rfl ?_
              rw [am_S_iff]
              refine ⟨⟨h1b, by unfold am_R; omega, h1p⟩, ?_⟩
              dsimp only [g_MO_in, g_id]
              refine xs_r1 rfl (xs_n rfl ?_)
              refine xs_if_eq (q := 41) (r := 37) i_MO_rule_34 rfl rfl am_ite (fun h34 => (xs_n rfl ?_)) (fun h34 => (xs_n rfl ?_))
              · refine xs_iconst (q := 42) i_MO_rule_41 rfl (xs_n rfl ?_)
                refine xs_istore (q := 44) (ls2 := [_, _, _, _, _, _]) i_MO_rule_42 rfl rfl rfl (xs_n rfl ?_)
                refine xs_aload_n (q := 45) i_MO_rule_44 rfl rfl (xs_n rfl ?_)
                refine xs_iload (q := 47) i_MO_rule_45 rfl rfl (xs_n rfl ?_)
                refine xs_if_ne (q := 54) (r := 50) i_MO_rule_47 rfl rfl (by unfold am_R; omega) (fun h47 => (xs_n rfl ?_)) (fun h47 => (xs_n rfl ?_))
                · exact absurd rfl h47
                · refine xs_iconst (q := 51) i_MO_rule_50 rfl (xs_n rfl ?_)
                  refine xs_goto (q := 66) i_MO_rule_51 rfl (xs_n rfl ?_)
                  refine xs_puti (q := 69) i_MO_rule_66 rfl fd_MO_92 sg_50 rfl (xs_n rfl ?_)
                  refine xs_aload_n (q := 70) i_MO_rule_69 rfl rfl (xs_n rfl ?_)
                  refine xs_geti (q := 73) i_MO_rule_70 rfl fd_MO_92 sg_50 rfl (xs_n rfl ?_)
                  refine xs_if_le (q := 78) (r := 76) i_MO_rule_73 rfl rfl (by rw [am_up_s]; unfold am_R; omega) (fun h73 => (xs_n rfl ?_)) (fun h73 => (xs_n rfl ?_))
                  · exact absurd h73 (by rw [am_up_s]; decide)
                  · refine xs_iconst (q := 77) i_MO_rule_76 rfl (xs_n rfl ?_)
                    refine xs_iret i_MO_rule_77 ?_
                    have ec : mo_rc M k b p = 1 := by unfold mo_rc; rw [if_neg (show ¬ ((0 ≤ k ∧ k ≤ 3) ∧ (k = 0 ∨ k = 3 ∨ ((1 ≤ p ∧ p ≤ 60) ∧ (1 ≤ b ∧ b ≤ p)))) from fun q => q.2.elim h10 (fun z => z.elim h15 (fun y => (show ¬ (1 ≤ b ∧ b ≤ p) from am_ite0 h34) y.2)))]
                    exact xs_fin (by simp only [f_MO_rule]; rw [if_neg (by rw [ec]; decide)]) (by simp only [g_MO_rule]; rw [if_neg (by rw [ec]; decide), ec]) (Or.inl rfl)
              · refine xs_iconst (q := 38) i_MO_rule_37 rfl (xs_n rfl ?_)
                refine xs_goto (q := 42) i_MO_rule_38 rfl (xs_n rfl ?_)
                refine xs_istore (q := 44) (ls2 := [_, _, _, _, _, _]) i_MO_rule_42 rfl rfl rfl (xs_n rfl ?_)
                refine xs_aload_n (q := 45) i_MO_rule_44 rfl rfl (xs_n rfl ?_)
                refine xs_iload (q := 47) i_MO_rule_45 rfl rfl (xs_n rfl ?_)
                refine xs_if_ne (q := 54) (r := 50) i_MO_rule_47 rfl rfl (by unfold am_R; omega) (fun h47 => (xs_n rfl ?_)) (fun h47 => (xs_n rfl ?_))
                · refine xs_aload_n (q := 55) i_MO_rule_54 rfl rfl (xs_n rfl ?_)
                  refine xs_geti (q := 58) i_MO_rule_55 rfl fd_MO_111 sg_50 rfl (xs_n rfl ?_)
                  refine xs_if_eq (q := 65) (r := 61) i_MO_rule_58 rfl rfl h4 (fun h58 => (xs_n rfl ?_)) (fun h58 => (xs_n rfl ?_))
                  · refine xs_iconst (q := 66) i_MO_rule_65 rfl (xs_n rfl ?_)
                    refine xs_puti (q := 69) i_MO_rule_66 rfl fd_MO_92 sg_50 rfl (xs_n rfl ?_)
                    refine xs_aload_n (q := 70) i_MO_rule_69 rfl rfl (xs_n rfl ?_)
                    refine xs_geti (q := 73) i_MO_rule_70 rfl fd_MO_92 sg_50 rfl (xs_n rfl ?_)
                    refine xs_if_le (q := 78) (r := 76) i_MO_rule_73 rfl rfl (by rw [am_up_s]; unfold am_R; omega) (fun h73 => (xs_n rfl ?_)) (fun h73 => (xs_n rfl ?_))
                    · refine xs_aload_n (q := 79) i_MO_rule_78 rfl rfl (xs_n rfl ?_)
                      refine xs_getr (q := 82) i_MO_rule_79 rfl fd_MO_25 sg_50 rfl (xs_n rfl ?_)
                      refine xs_iload_n (q := 83) i_MO_rule_82 rfl rfl (xs_n rfl ?_)
                      refine xs_iload_n (q := 84) i_MO_rule_83 rfl rfl (xs_n rfl ?_)
                      refine xs_iastore (q := 85) i_MO_rule_84 rfl sg_56 (by have hk9 : (0 ≤ k ∧ k ≤ 3) := am_ite1 h6; show 0 ≤ k ∧ k < 4; omega) (xs_n rfl ?_)
                      refine xs_aload_n (q := 86) i_MO_rule_85 rfl rfl (xs_n rfl ?_)
                      refine xs_getr (q := 89) i_MO_rule_86 rfl fd_MO_28 sg_50 rfl (xs_n rfl ?_)
                      refine xs_iload_n (q := 90) i_MO_rule_89 rfl rfl (xs_n rfl ?_)
                      refine xs_iload_n (q := 91) i_MO_rule_90 rfl rfl (xs_n rfl ?_)
                      refine xs_iastore (q := 92) i_MO_rule_91 rfl sg_57 (by have hk9 : (0 ≤ k ∧ k ≤ 3) := am_ite1 h6; show 0 ≤ k ∧ k < 4; omega) (xs_n rfl ?_)
                      refine xs_aload_n (q := 93) i_MO_rule_92 rfl rfl (xs_n rfl ?_)
                      refine xs_iload_n (q := 94) i_MO_rule_93 rfl rfl (xs_n rfl ?_)
                      refine xs_cv (q := 97) (av := [_, _]) (rest := []) i_MO_rule_94 rfl (e_MO_rule_94) ⟨rfl, rfl⟩ rfl rfl ?_
                      rw [am_V_iff]
                      refine ⟨⟨_, sg_50⟩, ⟨rfl, h1k, mo_rX_ok h2, mo_rX_rb h3 (show ((0 ≤ k ∧ k ≤ 3) ∧ (k = 0 ∨ k = 3 ∨ ((1 ≤ p ∧ p ≤ 60) ∧ (1 ≤ b ∧ b ≤ p)))) from ⟨am_ite1 h6, Or.inr (Or.inr ⟨am_ite1 h25, am_ite1 h34⟩)⟩)⟩, ?_⟩
                      dsimp only [g_MO_isAdmitted, g_id]
                      refine xs_r1 rfl (xs_n rfl ?_)
                      refine xs_istore (q := 99) (ls2 := [_, _, _, _, _, _]) i_MO_rule_97 rfl rfl rfl (xs_n rfl ?_)
                      refine xs_iload (q := 101) i_MO_rule_99 rfl rfl (xs_n rfl ?_)
                      refine xs_if_eq (q := 109) (r := 104) i_MO_rule_101 rfl rfl (by rcases mo_a_01 (mo_rX M k b p) k with q | q <;> (show am_R (mo_a (mo_rX M k b p) k); rw [q]; unfold am_R; omega)) (fun h101 => (xs_n rfl ?_)) (fun h101 => (xs_n rfl ?_))
                      · refine xs_iload (q := 111) i_MO_rule_109 rfl rfl (xs_n rfl ?_)
                        refine xs_iret i_MO_rule_111 ?_
                        have ec : mo_rc M k b p = 0 := by unfold mo_rc; rw [if_pos (show ((0 ≤ k ∧ k ≤ 3) ∧ (k = 0 ∨ k = 3 ∨ ((1 ≤ p ∧ p ≤ 60) ∧ (1 ≤ b ∧ b ≤ p)))) from ⟨am_ite1 h6, Or.inr (Or.inr ⟨am_ite1 h25, am_ite1 h34⟩)⟩), if_pos h58]
                        exact xs_fin (by simp only [f_MO_rule]; rw [if_pos ec]; rfl) (by simp only [g_MO_rule]; rw [if_pos ec, if_pos (show mo_a (mo_rX M k b p) k = 0 from h101)]; rfl) (mo_a_01 _ _)
                      · refine xs_aload_n (q := 105) i_MO_rule_104 rfl rfl (xs_n rfl ?_)
                        refine xs_iload_n (q := 106) i_MO_rule_105 rfl rfl (xs_n rfl ?_)
                        refine xs_puti (q := 109) i_MO_rule_106 rfl fd_MO_125 sg_50 rfl (xs_n rfl ?_)
                        refine xs_iload (q := 111) i_MO_rule_109 rfl rfl (xs_n rfl ?_)
                        refine xs_iret i_MO_rule_111 ?_
                        have ec : mo_rc M k b p = 0 := by unfold mo_rc; rw [if_pos (show ((0 ≤ k ∧ k ≤ 3) ∧ (k = 0 ∨ k = 3 ∨ ((1 ≤ p ∧ p ≤ 60) ∧ (1 ≤ b ∧ b ≤ p)))) from ⟨am_ite1 h6, Or.inr (Or.inr ⟨am_ite1 h25, am_ite1 h34⟩)⟩), if_pos h58]
                        exact xs_fin (by simp only [f_MO_rule]; rw [if_pos ec]; rfl) (by simp only [g_MO_rule]; rw [if_pos ec, if_neg (show ¬ mo_a (mo_rX M k b p) k = 0 from h101)]; rfl) (mo_a_01 _ _)
                    · exact absurd h73 (by rw [am_up_s]; decide)
                  · refine xs_iconst (q := 62) i_MO_rule_61 rfl (xs_n rfl ?_)
                    refine xs_goto (q := 66) i_MO_rule_62 rfl (xs_n rfl ?_)
                    refine xs_puti (q := 69) i_MO_rule_66 rfl fd_MO_92 sg_50 rfl (xs_n rfl ?_)
                    refine xs_aload_n (q := 70) i_MO_rule_69 rfl rfl (xs_n rfl ?_)
                    refine xs_geti (q := 73) i_MO_rule_70 rfl fd_MO_92 sg_50 rfl (xs_n rfl ?_)
                    refine xs_if_le (q := 78) (r := 76) i_MO_rule_73 rfl rfl (by rw [am_up_s]; unfold am_R; omega) (fun h73 => (xs_n rfl ?_)) (fun h73 => (xs_n rfl ?_))
                    · exact absurd h73 (by rw [am_up_s]; decide)
                    · refine xs_iconst (q := 77) i_MO_rule_76 rfl (xs_n rfl ?_)
                      refine xs_iret i_MO_rule_77 ?_
                      have ec : mo_rc M k b p = 2 := by unfold mo_rc; rw [if_pos (show ((0 ≤ k ∧ k ≤ 3) ∧ (k = 0 ∨ k = 3 ∨ ((1 ≤ p ∧ p ≤ 60) ∧ (1 ≤ b ∧ b ≤ p)))) from ⟨am_ite1 h6, Or.inr (Or.inr ⟨am_ite1 h25, am_ite1 h34⟩)⟩), if_neg h58]
                      exact xs_fin (by simp only [f_MO_rule]; rw [if_neg (by rw [ec]; decide)]) (by simp only [g_MO_rule]; rw [if_neg (by rw [ec]; decide), ec]) (Or.inl rfl)
                · exact absurd h47 (by decide)
    · exact h.elim
def mo_sc (M : am_M) : Int := if M 50 10 = 0 ∧ mo_a M (M 50 7) ≠ 0 then 0 else 1
def P_MO_start : am_P := fun av M => match av with
  | [.inr (.inl i)] => i = 50 ∧ (0 ≤ M 50 7 ∧ M 50 7 ≤ 3) ∧ mo_ok M ∧ mo_rb M ∧ am_R (M 50 10)
  | _ => False
def f_MO_start : am_Fr := fun av M => match av with
  | [.inr (.inl i)] => none
  | _ => none
def g_MO_start : am_Fm := fun av M => match av with
  | [.inr (.inl i)] => if mo_sc M = 0 then g_MO_begin [.inr (.inl 50), .inl (M 50 7)] (am_up (am_up M 50 0 0) 50 10 1) else am_up M 50 0 1
  | _ => M
def ct_MO_start : am_T := fun pc => if pc = 13 then some (2, am_ctV vw_S 11 P_MO_isAdmitted (am_po f_MO_isAdmitted g_MO_isAdmitted)) else if pc = 45 then some (2, am_ctV vw_S 11 P_MO_begin (am_po f_MO_begin g_MO_begin)) else none
theorem e_MO_start_13 : ct_MO_start 13 = some (2, am_ctV vw_S 11 P_MO_isAdmitted (am_po f_MO_isAdmitted g_MO_isAdmitted)) := rfl
theorem e_MO_start_45 : ct_MO_start 45 = some (2, am_ctV vw_S 11 P_MO_begin (am_po f_MO_begin g_MO_begin)) := rfl
theorem ct_MO_start_ok (l : Launch) : am_CC b_MO_start 1 w_MO_start y_MO_start.cls l r_MO_start ct_MO_start := by
  intro p e s m args below meth c H0 A D G ad Q S hK hN hA pc q ct h
  have hts := S.2.2.2.2
  unfold ct_MO_start at h
  split at h
  · rename_i hpc
    subst hpc; cases h
    exact am_callV S vw_N_ok hK hN hA ⟨Nat.zero_le _, Nat.zero_le _⟩ (m_MO_isAdmitted l) (s_MO_121 hts am_vW hN ⟨by decide, by decide⟩) (by rfl) d_MO_start_13
  split at h
  · rename_i hpc
    subst hpc; cases h
    exact am_callV S vw_N_ok hK hN hA ⟨Nat.zero_le _, Nat.zero_le _⟩ (m_MO_begin l) (s_MO_128 hts am_vW hN ⟨by decide, by decide⟩) (by rfl) d_MO_start_45
  cases h
theorem m_MO_start (l : Launch) : am_MF l y_MO_start w_MO_start r_MO_start P_MO_start f_MO_start g_MO_start := by
  refine am_mk0 i_MO_start_ok fd_MO_ok (ct_MO_start_ok l) (plainFor_of_name (by decide +kernel)) (by decide) ?_ 50 ?_
  · intro av M h
    unfold P_MO_start at h
    split at h
    · exact ⟨Nat.le_of_ble_eq_true rfl, rfl⟩
    · exact h.elim
  · intro av M Z h
    unfold P_MO_start at h
    split at h
    · rename_i i
      obtain ⟨rfl, h1, h2, h3, h4⟩ := h
      refine xs_aload_n (q := 1) i_MO_start_0 rfl rfl (xs_n rfl ?_)
      refine xs_aload_n (q := 2) i_MO_start_1 rfl rfl (xs_n rfl ?_)
      refine xs_geti (q := 5) i_MO_start_2 rfl fd_MO_111 sg_50 rfl (xs_n rfl ?_)
      refine xs_if_ne (q := 19) (r := 8) i_MO_start_5 rfl rfl h4 (fun h5 => (xs_n rfl ?_)) (fun h5 => (xs_n rfl ?_))
      · refine xs_iconst (q := 20) i_MO_start_19 rfl (xs_n rfl ?_)
        refine xs_goto (q := 24) i_MO_start_20 rfl (xs_n rfl ?_)
        refine xs_puti (q := 27) i_MO_start_24 rfl fd_MO_92 sg_50 rfl (xs_n rfl ?_)
        refine xs_aload_n (q := 28) i_MO_start_27 rfl rfl (xs_n rfl ?_)
        refine xs_geti (q := 31) i_MO_start_28 rfl fd_MO_92 sg_50 rfl (xs_n rfl ?_)
        refine xs_if_le (q := 35) (r := 34) i_MO_start_31 rfl rfl (by rw [am_up_s]; unfold am_R; omega) (fun h31 => (xs_n rfl ?_)) (fun h31 => (xs_n rfl ?_))
        · exact absurd h31 (by rw [am_up_s]; decide)
        · refine xs_ret i_MO_start_34 ?_
          have ec : mo_sc M = 1 := by unfold mo_sc; rw [if_neg (fun q => h5 q.1)]
          exact xs_fin rfl (by simp only [g_MO_start]; rw [if_neg (by rw [ec]; decide)]; try rfl) trivial
      · refine xs_aload_n (q := 9) i_MO_start_8 rfl rfl (xs_n rfl ?_)
        refine xs_aload_n (q := 10) i_MO_start_9 rfl rfl (xs_n rfl ?_)
        refine xs_geti (q := 13) i_MO_start_10 rfl fd_MO_125 sg_50 rfl (xs_n rfl ?_)
        refine xs_cv (q := 16) (av := [_, _]) (rest := [_]) i_MO_start_13 rfl (e_MO_start_13) ⟨rfl, rfl⟩ rfl rfl ?_
        rw [am_V_iff]
        refine ⟨⟨_, sg_50⟩, ⟨rfl, by show am_R (M 50 7); unfold am_R; omega, h2, h3⟩, ?_⟩
        dsimp only [g_MO_isAdmitted, g_id]
        refine xs_r1 rfl (xs_n rfl ?_)
        refine xs_if_ne (q := 23) (r := 19) i_MO_start_16 rfl rfl (by rcases mo_a_01 M (M 50 7) with q | q <;> (show am_R (mo_a M (M 50 7)); rw [q]; unfold am_R; omega)) (fun h16 => (xs_n rfl ?_)) (fun h16 => (xs_n rfl ?_))
        · refine xs_iconst (q := 24) i_MO_start_23 rfl (xs_n rfl ?_)
          refine xs_puti (q := 27) i_MO_start_24 rfl fd_MO_92 sg_50 rfl (xs_n rfl ?_)
          refine xs_aload_n (q := 28) i_MO_start_27 rfl rfl (xs_n rfl ?_)
          refine xs_geti (q := 31) i_MO_start_28 rfl fd_MO_92 sg_50 rfl (xs_n rfl ?_)
          refine xs_if_le (q := 35) (r := 34) i_MO_start_31 rfl rfl (by rw [am_up_s]; unfold am_R; omega) (fun h31 => (xs_n rfl ?_)) (fun h31 => (xs_n rfl ?_))
          · refine xs_aload_n (q := 36) i_MO_start_35 rfl rfl (xs_n rfl ?_)
            refine xs_iconst (q := 37) i_MO_start_36 rfl (xs_n rfl ?_)
            refine xs_putz (q := 40) i_MO_start_37 rfl fd_MO_111 sg_50 rfl (Or.inr rfl) (xs_n rfl ?_)
            refine xs_aload_n (q := 41) i_MO_start_40 rfl rfl (xs_n rfl ?_)
            refine xs_aload_n (q := 42) i_MO_start_41 rfl rfl (xs_n rfl ?_)
            refine xs_geti (q := 45) i_MO_start_42 rfl fd_MO_125 sg_50 rfl (xs_n rfl ?_)
            refine xs_cv (q := 48) (av := [_, _]) (rest := []) i_MO_start_45 rfl (e_MO_start_45) ⟨rfl, rfl⟩ rfl rfl ?_
            rw [am_V_iff]
            refine ⟨⟨_, sg_50⟩, ⟨rfl, by show 0 ≤ M 50 7 ∧ M 50 7 ≤ 3; omega⟩, ?_⟩
            refine xs_r0 rfl (xs_n rfl ?_)
            refine xs_ret i_MO_start_48 ?_
            have ec : mo_sc M = 0 := by unfold mo_sc; rw [if_pos ⟨h5, h16⟩]
            exact xs_fin rfl (by simp only [g_MO_start]; rw [if_pos ec]; try rfl) trivial
          · exact absurd h31 (by rw [am_up_s]; decide)
        · refine xs_iconst (q := 20) i_MO_start_19 rfl (xs_n rfl ?_)
          refine xs_goto (q := 24) i_MO_start_20 rfl (xs_n rfl ?_)
          refine xs_puti (q := 27) i_MO_start_24 rfl fd_MO_92 sg_50 rfl (xs_n rfl ?_)
          refine xs_aload_n (q := 28) i_MO_start_27 rfl rfl (xs_n rfl ?_)
          refine xs_geti (q := 31) i_MO_start_28 rfl fd_MO_92 sg_50 rfl (xs_n rfl ?_)
          refine xs_if_le (q := 35) (r := 34) i_MO_start_31 rfl rfl (by rw [am_up_s]; unfold am_R; omega) (fun h31 => (xs_n rfl ?_)) (fun h31 => (xs_n rfl ?_))
          · exact absurd h31 (by rw [am_up_s]; decide)
          · refine xs_ret i_MO_start_34 ?_
            have ec : mo_sc M = 1 := by unfold mo_sc; rw [if_neg (fun q => q.2 h16)]
            exact xs_fin rfl (by simp only [g_MO_start]; rw [if_neg (by rw [ec]; decide)]; try rfl) trivial
    · exact h.elim
def mo_kc (M : am_M) (n : Int) : Int := if (1 ≤ n ∧ n ≤ 100) then (if M 50 10 ≠ 0 ∧ M 50 19 + n ≤ 2000 then 0 else 2) else 1
def mo_ti : Nat → am_M → am_M
  | 0, X => X
  | j + 1, X => g_MO_tickOne [.inr (.inl 50)] (mo_ti j X)
def mo_tr (X : am_M) : Nat → Int
  | 0 => 0
  | j + 1 => mo_wh (mo_t1 (mo_ti j X))
def P_MO_tick : am_P := fun av M => match av with
  | [.inr (.inl i), .inl n] => i = 50 ∧ am_R n ∧ am_R (M 50 10) ∧ (0 ≤ M 50 19 ∧ M 50 19 ≤ 2000) ∧ (mo_kc M n = 0 → ∀ j, j < n.toNat → P_MO_tickOne [.inr (.inl 50)] (mo_ti j (am_up M 50 0 0)))
  | _ => False
def f_MO_tick : am_Fr := fun av M => match av with
  | [.inr (.inl i), .inl n] => some (.inl (if mo_kc M n = 0 then mo_tr (am_up M 50 0 0) n.toNat else 0))
  | _ => none
def g_MO_tick : am_Fm := fun av M => match av with
  | [.inr (.inl i), .inl n] => if mo_kc M n = 0 then mo_ti n.toNat (am_up M 50 0 0) else am_up M 50 0 (mo_kc M n)
  | _ => M
def ct_MO_tick : am_T := fun pc => if pc = 5 then some (3, am_ctS P_MO_in (am_po f_MO_in g_MO_in)) else if pc = 61 then some (1, am_ctV vw_S 11 P_MO_tickOne (am_po f_MO_tickOne g_MO_tickOne)) else none
theorem e_MO_tick_5 : ct_MO_tick 5 = some (3, am_ctS P_MO_in (am_po f_MO_in g_MO_in)) := rfl
theorem e_MO_tick_61 : ct_MO_tick 61 = some (1, am_ctV vw_S 11 P_MO_tickOne (am_po f_MO_tickOne g_MO_tickOne)) := rfl
theorem ct_MO_tick_ok (l : Launch) : am_CC b_MO_tick 4 w_MO_tick y_MO_tick.cls l r_MO_tick ct_MO_tick := by
  intro p e s m args below meth c H0 A D G ad Q S hK hN hA pc q ct h
  have hts := S.2.2.2.2
  unfold ct_MO_tick at h
  split at h
  · rename_i hpc
    subst hpc; cases h
    exact am_callS S vw_N_ok hK hN hA ⟨Nat.zero_le _, Nat.zero_le _⟩ (m_MO_in l) (s_MO_103 hts am_vW hN ⟨by decide, by decide⟩) d_MO_tick_5
  split at h
  · rename_i hpc
    subst hpc; cases h
    exact am_callV S vw_N_ok hK hN hA ⟨Nat.zero_le _, Nat.zero_le _⟩ (m_MO_tickOne l) (s_MO_182 hts am_vW hN ⟨by decide, by decide⟩) (by rfl) d_MO_tick_61
  cases h
def inv_MO_tick : List am_V → am_M → Nat → am_K := fun av M μ pc ls st M2 => match av with
  | [.inr (.inl i), .inl n] => (pc = 0 ∧ ls = am_l0 [.inr (.inl i), .inl n] 4 ∧ st = [] ∧ M = M2 ∧ μ = 1000) ∨ ∃ j : Nat, pc = 55 ∧ ls = [some (.inr (.inl i)), some (.inl n), some (.inl (mo_tr (am_up M 50 0 0) j)), some (.inl (j : Int))] ∧ st = [] ∧ M2 = mo_ti j (am_up M 50 0 0) ∧ (mo_kc M n = 0 ∧ (1 ≤ n ∧ n ≤ 100) ∧ (j : Int) ≤ n) ∧ μ = (n - j).toNat
  | _ => False
theorem m_MO_tick (l : Launch) : am_MF l y_MO_tick w_MO_tick r_MO_tick P_MO_tick f_MO_tick g_MO_tick := by
  refine am_mkL (fun pc => pc == 55) i_MO_tick_ok fd_MO_ok (ct_MO_tick_ok l) (plainFor_of_name (by decide +kernel)) (by decide) ?_ 60 inv_MO_tick ?_ ?_
  · intro av M h
    unfold P_MO_tick at h
    split at h
    · exact ⟨Nat.le_of_ble_eq_true rfl, rfl⟩
    · exact h.elim
  · intro av M h
    unfold P_MO_tick at h
    split at h
    · exact ⟨_, Or.inl ⟨rfl, rfl, rfl, rfl, rfl⟩⟩
    · exact h.elim
  · intro av M h μ pc ls st M2 hi
    unfold P_MO_tick at h
    split at h
    · rename_i i n
      obtain ⟨rfl, h1, h2, h3, h4⟩ := h
      rcases hi with ⟨rfl, rfl, rfl, rfl, rfl⟩ | ⟨j, rfl, rfl, rfl, rfl, ⟨hk, hn, hj⟩, rfl⟩
      · skip
        refine xs_aload_n (q := 1) i_MO_tick_0 rfl rfl (xs_n rfl ?_)
        refine xs_iload_n (q := 2) i_MO_tick_1 rfl rfl (xs_n rfl ?_)
        refine xs_iconst (q := 3) i_MO_tick_2 rfl (xs_n rfl ?_)
        refine xs_bipush (q := 5) i_MO_tick_3 rfl (by decide) (xs_n rfl ?_)
        refine xs_cs (q := 8) (av := [_, _, _]) (rest := [_]) i_MO_tick_5 rfl (e_MO_tick_5) ⟨rfl, rfl⟩ rfl rfl ?_
        rw [am_S_iff]
        refine ⟨⟨h1, by unfold am_R; omega, by unfold am_R; omega⟩, ?_⟩
        dsimp only [g_MO_in, g_id]
        refine xs_r1 rfl (xs_n rfl ?_)
        refine xs_if_ne (q := 15) (r := 11) i_MO_tick_8 rfl rfl am_ite (fun h8 => (xs_n rfl ?_)) (fun h8 => (xs_n rfl ?_))
        · refine xs_aload_n (q := 16) i_MO_tick_15 rfl rfl (xs_n rfl ?_)
          refine xs_geti (q := 19) i_MO_tick_16 rfl fd_MO_111 sg_50 rfl (xs_n rfl ?_)
          refine xs_if_eq (q := 34) (r := 22) i_MO_tick_19 rfl rfl h2 (fun h19 => (xs_n rfl ?_)) (fun h19 => (xs_n rfl ?_))
          · refine xs_iconst (q := 35) i_MO_tick_34 rfl (xs_n rfl ?_)
            refine xs_goto (q := 39) i_MO_tick_35 rfl (xs_n rfl ?_)
            refine xs_puti (q := 42) i_MO_tick_39 rfl fd_MO_92 sg_50 rfl (xs_n rfl ?_)
            refine xs_aload_n (q := 43) i_MO_tick_42 rfl rfl (xs_n rfl ?_)
            refine xs_geti (q := 46) i_MO_tick_43 rfl fd_MO_92 sg_50 rfl (xs_n rfl ?_)
            refine xs_if_le (q := 51) (r := 49) i_MO_tick_46 rfl rfl (by rw [am_up_s]; unfold am_R; omega) (fun h46 => (xs_n rfl ?_)) (fun h46 => (xs_n rfl ?_))
            · exact absurd h46 (by rw [am_up_s]; decide)
            · refine xs_iconst (q := 50) i_MO_tick_49 rfl (xs_n rfl ?_)
              refine xs_iret i_MO_tick_50 ?_
              have ec : mo_kc M n = 2 := by unfold mo_kc; rw [if_pos (show (1 ≤ n ∧ n ≤ 100) from am_ite1 h8), if_neg (fun q => q.1 h19)]
              exact xs_fin (by simp only [f_MO_tick]; rw [if_neg (by rw [ec]; decide)]) (by simp only [g_MO_tick]; rw [if_neg (by rw [ec]; decide), ec]) trivial
          · refine xs_aload_n (q := 23) i_MO_tick_22 rfl rfl (xs_n rfl ?_)
            refine xs_geti (q := 26) i_MO_tick_23 rfl fd_MO_132 sg_50 rfl (xs_n rfl ?_)
            refine xs_iload_n (q := 27) i_MO_tick_26 rfl rfl (xs_n rfl ?_)
            refine xs_iadd (q := 28) i_MO_tick_27 rfl (xs_n rfl ?_)
            refine xs_sipush (q := 31) i_MO_tick_28 rfl (by decide) (xs_n rfl ?_)
            refine xs_ic_le (q := 38) (r := 34) i_MO_tick_31 rfl rfl ⟨by have hn : (1 ≤ n ∧ n ≤ 100) := am_ite1 h8; show am_R (M 50 19 + n); unfold am_R; omega, by unfold am_R; omega⟩ (fun h31 => (xs_n rfl ?_)) (fun h31 => (xs_n rfl ?_))
            · refine xs_iconst (q := 39) i_MO_tick_38 rfl (xs_n rfl ?_)
              refine xs_puti (q := 42) i_MO_tick_39 rfl fd_MO_92 sg_50 rfl (xs_n rfl ?_)
              refine xs_aload_n (q := 43) i_MO_tick_42 rfl rfl (xs_n rfl ?_)
              refine xs_geti (q := 46) i_MO_tick_43 rfl fd_MO_92 sg_50 rfl (xs_n rfl ?_)
              refine xs_if_le (q := 51) (r := 49) i_MO_tick_46 rfl rfl (by rw [am_up_s]; unfold am_R; omega) (fun h46 => (xs_n rfl ?_)) (fun h46 => (xs_n rfl ?_))
              · refine xs_iconst (q := 52) i_MO_tick_51 rfl (xs_n rfl ?_)
                refine xs_istore_n (q := 53) (ls2 := [_, _, _, _]) i_MO_tick_52 rfl rfl rfl (xs_n rfl ?_)
                refine xs_iconst (q := 54) i_MO_tick_53 rfl (xs_n rfl ?_)
                refine xs_istore_n (q := 55) (ls2 := [_, _, _, _]) i_MO_tick_54 rfl rfl rfl (xs_z rfl ?_)
                have ec : mo_kc M n = 0 := by unfold mo_kc; rw [if_pos (show (1 ≤ n ∧ n ≤ 100) from am_ite1 h8), if_pos ⟨h19, h31⟩]
                have hn : (1 ≤ n ∧ n ≤ 100) := am_ite1 h8
                exact ⟨n.toNat, by omega, Or.inr ⟨0, rfl, rfl, rfl, rfl, ⟨ec, hn, by omega⟩, by omega⟩⟩
              · exact absurd h46 (by rw [am_up_s]; decide)
            · refine xs_iconst (q := 35) i_MO_tick_34 rfl (xs_n rfl ?_)
              refine xs_goto (q := 39) i_MO_tick_35 rfl (xs_n rfl ?_)
              refine xs_puti (q := 42) i_MO_tick_39 rfl fd_MO_92 sg_50 rfl (xs_n rfl ?_)
              refine xs_aload_n (q := 43) i_MO_tick_42 rfl rfl (xs_n rfl ?_)
              refine xs_geti (q := 46) i_MO_tick_43 rfl fd_MO_92 sg_50 rfl (xs_n rfl ?_)
              refine xs_if_le (q := 51) (r := 49) i_MO_tick_46 rfl rfl (by rw [am_up_s]; unfold am_R; omega) (fun h46 => (xs_n rfl ?_)) (fun h46 => (xs_n rfl ?_))
              · exact absurd h46 (by rw [am_up_s]; decide)
              · refine xs_iconst (q := 50) i_MO_tick_49 rfl (xs_n rfl ?_)
                refine xs_iret i_MO_tick_50 ?_
                have ec : mo_kc M n = 2 := by unfold mo_kc; rw [if_pos (show (1 ≤ n ∧ n ≤ 100) from am_ite1 h8), if_neg (fun q => absurd q.2 (Int.not_le.mpr h31))]
                exact xs_fin (by simp only [f_MO_tick]; rw [if_neg (by rw [ec]; decide)]) (by simp only [g_MO_tick]; rw [if_neg (by rw [ec]; decide), ec]) trivial
        · refine xs_iconst (q := 12) i_MO_tick_11 rfl (xs_n rfl ?_)
          refine xs_goto (q := 39) i_MO_tick_12 rfl (xs_n rfl ?_)
          refine xs_puti (q := 42) i_MO_tick_39 rfl fd_MO_92 sg_50 rfl (xs_n rfl ?_)
          refine xs_aload_n (q := 43) i_MO_tick_42 rfl rfl (xs_n rfl ?_)
          refine xs_geti (q := 46) i_MO_tick_43 rfl fd_MO_92 sg_50 rfl (xs_n rfl ?_)
          refine xs_if_le (q := 51) (r := 49) i_MO_tick_46 rfl rfl (by rw [am_up_s]; unfold am_R; omega) (fun h46 => (xs_n rfl ?_)) (fun h46 => (xs_n rfl ?_))
          · exact absurd h46 (by rw [am_up_s]; decide)
          · refine xs_iconst (q := 50) i_MO_tick_49 rfl (xs_n rfl ?_)
            refine xs_iret i_MO_tick_50 ?_
            have ec : mo_kc M n = 1 := by unfold mo_kc; rw [if_neg (show ¬ (1 ≤ n ∧ n ≤ 100) from am_ite0 h8)]
            exact xs_fin (by simp only [f_MO_tick]; rw [if_neg (by rw [ec]; decide)]) (by simp only [g_MO_tick]; rw [if_neg (by rw [ec]; decide), ec]) trivial
      · skip
        refine xs_iload_n (q := 56) i_MO_tick_55 rfl rfl (xs_n rfl ?_)
        refine xs_iload_n (q := 57) i_MO_tick_56 rfl rfl (xs_n rfl ?_)
        refine xs_ic_ge (q := 71) (r := 60) i_MO_tick_57 rfl rfl ⟨by unfold am_R; omega, h1⟩ (fun h57 => (xs_n rfl ?_)) (fun h57 => (xs_n rfl ?_))
        · refine xs_iload_n (q := 72) i_MO_tick_71 rfl rfl (xs_n rfl ?_)
          refine xs_iret i_MO_tick_72 ?_
          obtain rfl : j = n.toNat := by omega
          exact xs_fin (by simp only [f_MO_tick]; rw [if_pos hk]) (by simp only [g_MO_tick]; rw [if_pos hk]) trivial
        · refine xs_aload_n (q := 61) i_MO_tick_60 rfl rfl (xs_n rfl ?_)
          refine xs_cv (q := 64) (av := [_]) (rest := []) i_MO_tick_61 rfl (e_MO_tick_61) ⟨rfl, rfl⟩ rfl rfl ?_
          rw [am_V_iff]
          refine ⟨⟨_, sg_50⟩, h4 hk j (by omega), ?_⟩
          refine xs_r1 rfl (xs_n rfl ?_)
          refine xs_istore_n (q := 65) (ls2 := [_, _, _, _]) i_MO_tick_64 rfl rfl rfl (xs_n rfl ?_)
          refine xs_iinc (q := 68) (ls2 := [_, _, _, _]) i_MO_tick_65 rfl rfl rfl (xs_n rfl ?_)
          refine xs_goto (q := 55) i_MO_tick_68 rfl (xs_z rfl ?_)
          exact ⟨(n - (j + 1 : Nat)).toNat, by omega, Or.inr ⟨j + 1, rfl, rfl, rfl, rfl, ⟨hk, hn, by omega⟩, rfl⟩⟩
    · exact h.elim
def P_MO_served : am_P := fun av M => match av with
  | [.inr (.inl i), .inl a, .inl b] => i = 50 ∧ am_R a ∧ am_R b ∧ (0 ≤ M 50 19 ∧ M 50 19 ≤ 2000) ∧ ∀ j, j < 2001 → am_R (M 70 j)
  | _ => False
def f_MO_served : am_Fr := fun av M => match av with
  | [.inr (.inl i), .inl a, .inl b] => some (.inl (if (0 ≤ a ∧ a ≤ b ∧ b ≤ M 50 19) then ma_su (fun q => if M 70 (a.toNat + q) < 0 then 1 else 0) (b - a).toNat else 0))
  | _ => none
def g_MO_served : am_Fm := fun av M => match av with
  | [.inr (.inl i), .inl a, .inl b] => am_up M 50 0 (if (0 ≤ a ∧ a ≤ b ∧ b ≤ M 50 19) then 0 else 1)
  | _ => M
def inv_MO_served : List am_V → am_M → Nat → am_K := fun av M μ pc ls st M2 => match av with
  | [.inr (.inl i), .inl a, .inl b] => (pc = 0 ∧ ls = am_l0 [.inr (.inl i), .inl a, .inl b] 5 ∧ st = [] ∧ M = M2 ∧ μ = 10000) ∨ (∃ x t : Int, pc = 31 ∧ ls = [some (.inr (.inl i)), some (.inl a), some (.inl b), some (.inl x), some (.inl t)] ∧ st = [] ∧ M2 = am_up M 50 0 0 ∧ ((0 ≤ a ∧ a ≤ b ∧ b ≤ M 50 19) ∧ (a ≤ t ∧ t ≤ b) ∧ x = ma_su (fun q => if M 70 (a.toNat + q) < 0 then 1 else 0) (t - a).toNat) ∧ μ = (b - t).toNat) ∨ (pc = 31 ∧ ls = [some (.inr (.inl i)), some (.inl a), some (.inl b), some (.inl 0), some (.inl a)] ∧ st = [] ∧ M2 = am_up M 50 0 1 ∧ ¬ (0 ≤ a ∧ a ≤ b ∧ b ≤ M 50 19) ∧ μ = 5)
  | _ => False
theorem m_MO_served (l : Launch) : am_MF l y_MO_served w_MO_served r_MO_served P_MO_served f_MO_served g_MO_served := by
  refine am_mkL (fun pc => pc == 31) i_MO_served_ok fd_MO_ok am_CC0 (plainFor_of_name (by decide +kernel)) (by decide) ?_ 60 inv_MO_served ?_ ?_
  · intro av M h
    unfold P_MO_served at h
    split at h
    · exact ⟨Nat.le_of_ble_eq_true rfl, rfl⟩
    · exact h.elim
  · intro av M h
    unfold P_MO_served at h
    split at h
    · exact ⟨_, Or.inl ⟨rfl, rfl, rfl, rfl, rfl⟩⟩
    · exact h.elim
  · intro av M h μ pc ls st M2 hi
    unfold P_MO_served at h
    split at h
    · rename_i i a b
      obtain ⟨rfl, h1, h1b, h3, h4⟩ := h
      rcases hi with ⟨rfl, rfl, rfl, rfl, rfl⟩ | ⟨x, t, rfl, rfl, rfl, rfl, ⟨hc, ht, hx⟩, rfl⟩ | ⟨rfl, rfl, rfl, rfl, hc, rfl⟩
      · skip
        refine xs_aload_n (q := 1) i_MO_served_0 rfl rfl (xs_n rfl ?_)
        refine xs_iload_n (q := 2) i_MO_served_1 rfl rfl (xs_n rfl ?_)
        refine xs_if_lt (q := 22) (r := 5) i_MO_served_2 rfl rfl h1 (fun h2 => (xs_n rfl ?_)) (fun h2 => (xs_n rfl ?_))
        · refine xs_iconst (q := 23) i_MO_served_22 rfl (xs_n rfl ?_)
          refine xs_puti (q := 26) i_MO_served_23 rfl fd_MO_92 sg_50 rfl (xs_n rfl ?_)
          refine xs_iconst (q := 27) i_MO_served_26 rfl (xs_n rfl ?_)
          refine xs_istore_n (q := 28) (ls2 := [_, _, _, _, _]) i_MO_served_27 rfl rfl rfl (xs_n rfl ?_)
          refine xs_iload_n (q := 29) i_MO_served_28 rfl rfl (xs_n rfl ?_)
          refine xs_istore (q := 31) (ls2 := [_, _, _, _, _]) i_MO_served_29 rfl rfl rfl (xs_z rfl ?_)
          exact ⟨5, by omega, Or.inr (Or.inr ⟨rfl, rfl, rfl, rfl, by omega, rfl⟩)⟩
        · refine xs_iload_n (q := 6) i_MO_served_5 rfl rfl (xs_n rfl ?_)
          refine xs_iload_n (q := 7) i_MO_served_6 rfl rfl (xs_n rfl ?_)
          refine xs_ic_gt (q := 22) (r := 10) i_MO_served_7 rfl rfl ⟨h1, h1b⟩ (fun h7 => (xs_n rfl ?_)) (fun h7 => (xs_n rfl ?_))
          · refine xs_iconst (q := 23) i_MO_served_22 rfl (xs_n rfl ?_)
            refine xs_puti (q := 26) i_MO_served_23 rfl fd_MO_92 sg_50 rfl (xs_n rfl ?_)
            refine xs_iconst (q := 27) i_MO_served_26 rfl (xs_n rfl ?_)
            refine xs_istore_n (q := 28) (ls2 := [_, _, _, _, _]) i_MO_served_27 rfl rfl rfl (xs_n rfl ?_)
            refine xs_iload_n (q := 29) i_MO_served_28 rfl rfl (xs_n rfl ?_)
            refine xs_istore (q := 31) (ls2 := [_, _, _, _, _]) i_MO_served_29 rfl rfl rfl (xs_z rfl ?_)
            exact ⟨5, by omega, Or.inr (Or.inr ⟨rfl, rfl, rfl, rfl, by omega, rfl⟩)⟩
          · refine xs_iload_n (q := 11) i_MO_served_10 rfl rfl (xs_n rfl ?_)
            refine xs_aload_n (q := 12) i_MO_served_11 rfl rfl (xs_n rfl ?_)
            refine xs_geti (q := 15) i_MO_served_12 rfl fd_MO_132 sg_50 rfl (xs_n rfl ?_)
            refine xs_ic_gt (q := 22) (r := 18) i_MO_served_15 rfl rfl ⟨h1b, by unfold am_R; omega⟩ (fun h15 => (xs_n rfl ?_)) (fun h15 => (xs_n rfl ?_))
            · refine xs_iconst (q := 23) i_MO_served_22 rfl (xs_n rfl ?_)
              refine xs_puti (q := 26) i_MO_served_23 rfl fd_MO_92 sg_50 rfl (xs_n rfl ?_)
              refine xs_iconst (q := 27) i_MO_served_26 rfl (xs_n rfl ?_)
              refine xs_istore_n (q := 28) (ls2 := [_, _, _, _, _]) i_MO_served_27 rfl rfl rfl (xs_n rfl ?_)
              refine xs_iload_n (q := 29) i_MO_served_28 rfl rfl (xs_n rfl ?_)
              refine xs_istore (q := 31) (ls2 := [_, _, _, _, _]) i_MO_served_29 rfl rfl rfl (xs_z rfl ?_)
              exact ⟨5, by omega, Or.inr (Or.inr ⟨rfl, rfl, rfl, rfl, by omega, rfl⟩)⟩
            · refine xs_iconst (q := 19) i_MO_served_18 rfl (xs_n rfl ?_)
              refine xs_goto (q := 23) i_MO_served_19 rfl (xs_n rfl ?_)
              refine xs_puti (q := 26) i_MO_served_23 rfl fd_MO_92 sg_50 rfl (xs_n rfl ?_)
              refine xs_iconst (q := 27) i_MO_served_26 rfl (xs_n rfl ?_)
              refine xs_istore_n (q := 28) (ls2 := [_, _, _, _, _]) i_MO_served_27 rfl rfl rfl (xs_n rfl ?_)
              refine xs_iload_n (q := 29) i_MO_served_28 rfl rfl (xs_n rfl ?_)
              refine xs_istore (q := 31) (ls2 := [_, _, _, _, _]) i_MO_served_29 rfl rfl rfl (xs_z rfl ?_)
              exact ⟨(b - a).toNat, by omega, Or.inr (Or.inl ⟨0, a, rfl, rfl, rfl, rfl, ⟨⟨by omega, by omega, by omega⟩, by omega, by rw [Int.sub_self]; rfl⟩, rfl⟩)⟩
      · skip
        refine xs_iload (q := 33) i_MO_served_31 rfl rfl (xs_n rfl ?_)
        refine xs_iload_n (q := 34) i_MO_served_33 rfl rfl (xs_n rfl ?_)
        refine xs_ic_ge (q := 68) (r := 37) i_MO_served_34 rfl rfl ⟨by unfold am_R; omega, h1b⟩ (fun h34 => (xs_n rfl ?_)) (fun h34 => (xs_n rfl ?_))
        · refine xs_iload_n (q := 69) i_MO_served_68 rfl rfl (xs_n rfl ?_)
          refine xs_iret i_MO_served_69 ?_
          obtain rfl : t = b := by omega
          exact xs_fin (by simp only [f_MO_served]; rw [if_pos hc, hx]) (by simp only [g_MO_served]; rw [if_pos hc]) trivial
        · refine xs_aload_n (q := 38) i_MO_served_37 rfl rfl (xs_n rfl ?_)
          refine xs_geti (q := 41) i_MO_served_38 rfl fd_MO_92 sg_50 rfl (xs_n rfl ?_)
          refine xs_if_ne (q := 68) (r := 44) i_MO_served_41 rfl rfl (by rw [am_up_s]; unfold am_R; omega) (fun h41 => (xs_n rfl ?_)) (fun h41 => (xs_n rfl ?_))
          · exact absurd (am_up_s M 50 0 0) h41
          · refine xs_iload_n (q := 45) i_MO_served_44 rfl rfl (xs_n rfl ?_)
            refine xs_aload_n (q := 46) i_MO_served_45 rfl rfl (xs_n rfl ?_)
            refine xs_getr (q := 49) i_MO_served_46 rfl fd_MO_68 sg_50 rfl (xs_n rfl ?_)
            refine xs_iload (q := 51) i_MO_served_49 rfl rfl (xs_n rfl ?_)
            refine xs_iaload (q := 52) i_MO_served_51 rfl sg_70 rfl (by omega) (xs_n rfl ?_)
            refine xs_if_ge (q := 59) (r := 55) i_MO_served_52 rfl rfl (h4 _ (by omega)) (fun h52 => (xs_n rfl ?_)) (fun h52 => (xs_n rfl ?_))
            · refine xs_iconst (q := 60) i_MO_served_59 rfl (xs_n rfl ?_)
              refine xs_iadd (q := 61) i_MO_served_60 rfl (xs_n rfl ?_)
              refine xs_istore_n (q := 62) (ls2 := [_, _, _, _, _]) i_MO_served_61 rfl rfl rfl (xs_n rfl ?_)
              refine xs_iinc (q := 65) (ls2 := [_, _, _, _, _]) i_MO_served_62 rfl rfl rfl (xs_n rfl ?_)
              refine xs_goto (q := 31) i_MO_served_65 rfl (xs_z rfl ?_)
              have ea : a.toNat + (t - a).toNat = t.toNat := by omega
              exact ⟨(b - (t + 1)).toNat, by omega, Or.inr (Or.inl ⟨_, t + 1, rfl, rfl, rfl, rfl, ⟨hc, by omega, by rw [hx, show (t + 1 - a).toNat = (t - a).toNat + 1 by omega]; simp only [ma_su]; rw [if_neg (show ¬ M 70 (a.toNat + (t - a).toNat) < 0 by rw [ea]; exact Int.not_lt.mpr h52)]⟩, rfl⟩)⟩
            · refine xs_iconst (q := 56) i_MO_served_55 rfl (xs_n rfl ?_)
              refine xs_goto (q := 60) i_MO_served_56 rfl (xs_n rfl ?_)
              refine xs_iadd (q := 61) i_MO_served_60 rfl (xs_n rfl ?_)
              refine xs_istore_n (q := 62) (ls2 := [_, _, _, _, _]) i_MO_served_61 rfl rfl rfl (xs_n rfl ?_)
              refine xs_iinc (q := 65) (ls2 := [_, _, _, _, _]) i_MO_served_62 rfl rfl rfl (xs_n rfl ?_)
              refine xs_goto (q := 31) i_MO_served_65 rfl (xs_z rfl ?_)
              have ea : a.toNat + (t - a).toNat = t.toNat := by omega
              exact ⟨(b - (t + 1)).toNat, by omega, Or.inr (Or.inl ⟨_, t + 1, rfl, rfl, rfl, rfl, ⟨hc, by omega, by rw [hx, show (t + 1 - a).toNat = (t - a).toNat + 1 by omega]; simp only [ma_su]; rw [if_pos (show M 70 (a.toNat + (t - a).toNat) < 0 by rw [ea]; exact h52)]⟩, rfl⟩)⟩
      · skip
        refine xs_iload (q := 33) i_MO_served_31 rfl rfl (xs_n rfl ?_)
        refine xs_iload_n (q := 34) i_MO_served_33 rfl rfl (xs_n rfl ?_)
        refine xs_ic_ge (q := 68) (r := 37) i_MO_served_34 rfl rfl ⟨h1, h1b⟩ (fun h34 => (xs_n rfl ?_)) (fun h34 => (xs_n rfl ?_))
        · refine xs_iload_n (q := 69) i_MO_served_68 rfl rfl (xs_n rfl ?_)
          refine xs_iret i_MO_served_69 ?_
          exact xs_fin (by simp only [f_MO_served]; rw [if_neg hc]) (by simp only [g_MO_served]; rw [if_neg hc]) trivial
        · refine xs_aload_n (q := 38) i_MO_served_37 rfl rfl (xs_n rfl ?_)
          refine xs_geti (q := 41) i_MO_served_38 rfl fd_MO_92 sg_50 rfl (xs_n rfl ?_)
          refine xs_if_ne (q := 68) (r := 44) i_MO_served_41 rfl rfl (by rw [am_up_s]; unfold am_R; omega) (fun h41 => (xs_n rfl ?_)) (fun h41 => (xs_n rfl ?_))
          · refine xs_iload_n (q := 69) i_MO_served_68 rfl rfl (xs_n rfl ?_)
            refine xs_iret i_MO_served_69 ?_
            exact xs_fin (by simp only [f_MO_served]; rw [if_neg hc]) (by simp only [g_MO_served]; rw [if_neg hc]) trivial
          · exact absurd ((am_up_s M 50 0 1).symm.trans h41) (by decide)
    · exact h.elim
