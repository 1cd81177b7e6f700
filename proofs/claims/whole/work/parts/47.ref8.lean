/-! contracts: the reference, what answers (wip/whole/p47.py) -/
def P_MO_ended : am_P := fun av M => match av with
  | [.inr (.inl i), .inl j] => i = 50 ∧ am_R j ∧ (0 ≤ M 50 11 ∧ M 50 11 ≤ 40)
  | _ => False
def f_MO_ended : am_Fr := fun av M => match av with
  | [.inr (.inl i), .inl j] => some (.inl (if (0 ≤ j ∧ j ≤ M 50 11 - 1) then M 69 j.toNat else 0))
  | _ => none
def g_MO_ended : am_Fm := fun av M => match av with
  | [.inr (.inl i), .inl j] => am_up M 50 0 (if (0 ≤ j ∧ j ≤ M 50 11 - 1) then 0 else 1)
  | _ => M
def ct_MO_ended : am_T := fun pc => if pc = 9 then some (3, am_ctS P_MO_in (am_po f_MO_in g_MO_in)) else none
theorem e_MO_ended_9 : ct_MO_ended 9 = some (3, am_ctS P_MO_in (am_po f_MO_in g_MO_in)) := rfl
theorem ct_MO_ended_ok (l : Launch) : am_CC b_MO_ended 2 w_MO_ended y_MO_ended.cls l r_MO_ended ct_MO_ended := by
  intro p e s m args below meth c H0 A D G ad Q S hK hN hA pc q ct h
  have hts := S.2.2.2.2
  unfold ct_MO_ended at h
  split at h
  · rename_i hpc
    subst hpc; cases h
    exact am_callS S vw_N_ok hK hN hA ⟨Nat.zero_le _, Nat.zero_le _⟩ (m_MO_in l) (s_MO_103 hts am_vW hN ⟨by decide, by decide⟩) d_MO_ended_9
  cases h
theorem m_MO_ended (l : Launch) : am_MF l y_MO_ended w_MO_ended r_MO_ended P_MO_ended f_MO_ended g_MO_ended := by
  refine am_mk0 i_MO_ended_ok fd_MO_ok (ct_MO_ended_ok l) (plainFor_of_name (by decide +kernel)) (by decide) ?_ 40 ?_
  · intro av M h
    unfold P_MO_ended at h
    split at h
    · exact ⟨Nat.le_of_ble_eq_true rfl, rfl⟩
    · exact h.elim
  · intro av M Z h
    unfold P_MO_ended at h
    split at h
    · rename_i i j
      obtain ⟨rfl, h1, h2⟩ := h
      refine xs_aload_n (q := 1) i_MO_ended_0 rfl rfl (xs_n rfl ?_)
      refine xs_iload_n (q := 2) i_MO_ended_1 rfl rfl (xs_n rfl ?_)
      refine xs_iconst (q := 3) i_MO_ended_2 rfl (xs_n rfl ?_)
      refine xs_aload_n (q := 4) i_MO_ended_3 rfl rfl (xs_n rfl ?_)
      refine xs_geti (q := 7) i_MO_ended_4 rfl fd_MO_185 sg_50 rfl (xs_n rfl ?_)
      refine xs_iconst (q := 8) i_MO_ended_7 rfl (xs_n rfl ?_)
      refine xs_isub (q := 9) i_MO_ended_8 rfl (xs_n rfl ?_)
      refine xs_cs (q := 12) (av := [_, _, _]) (rest := [_]) i_MO_ended_9 rfl (e_MO_ended_9) ⟨rfl, rfl⟩ rfl rfl ?_
      rw [am_S_iff]
      refine ⟨⟨h1, by unfold am_R; omega, by unfold am_R; omega⟩, ?_⟩
      dsimp only [g_MO_in, g_id]
      refine xs_r1 rfl (xs_n rfl ?_)
      refine xs_if_eq (q := 19) (r := 15) i_MO_ended_12 rfl rfl am_ite (fun h12 => (xs_n rfl ?_)) (fun h12 => (xs_n rfl ?_))
      · refine xs_iconst (q := 20) i_MO_ended_19 rfl (xs_n rfl ?_)
        refine xs_puti (q := 23) i_MO_ended_20 rfl fd_MO_92 sg_50 rfl (xs_n rfl ?_)
        refine xs_aload_n (q := 24) i_MO_ended_23 rfl rfl (xs_n rfl ?_)
        refine xs_geti (q := 27) i_MO_ended_24 rfl fd_MO_92 sg_50 rfl (xs_n rfl ?_)
        refine xs_if_le (q := 34) (r := 30) i_MO_ended_27 rfl rfl (by rw [am_up_s]; unfold am_R; omega) (fun h27 => (xs_n rfl ?_)) (fun h27 => (xs_n rfl ?_))
        · exact absurd h27 (by rw [am_up_s]; decide)
        · refine xs_iconst (q := 31) i_MO_ended_30 rfl (xs_n rfl ?_)
          refine xs_goto (q := 40) i_MO_ended_31 rfl (xs_n rfl ?_)
          refine xs_iret i_MO_ended_40 ?_
          exact xs_fin (by simp only [f_MO_ended]; rw [if_neg (show ¬ (0 ≤ j ∧ j ≤ M 50 11 - 1) from am_ite0 h12)]) (by simp only [g_MO_ended]; rw [if_neg (show ¬ (0 ≤ j ∧ j ≤ M 50 11 - 1) from am_ite0 h12)]) trivial
      · refine xs_iconst (q := 16) i_MO_ended_15 rfl (xs_n rfl ?_)
        refine xs_goto (q := 20) i_MO_ended_16 rfl (xs_n rfl ?_)
        refine xs_puti (q := 23) i_MO_ended_20 rfl fd_MO_92 sg_50 rfl (xs_n rfl ?_)
        refine xs_aload_n (q := 24) i_MO_ended_23 rfl rfl (xs_n rfl ?_)
        refine xs_geti (q := 27) i_MO_ended_24 rfl fd_MO_92 sg_50 rfl (xs_n rfl ?_)
        refine xs_if_le (q := 34) (r := 30) i_MO_ended_27 rfl rfl (by rw [am_up_s]; unfold am_R; omega) (fun h27 => (xs_n rfl ?_)) (fun h27 => (xs_n rfl ?_))
        · refine xs_aload_n (q := 35) i_MO_ended_34 rfl rfl (xs_n rfl ?_)
          refine xs_getr (q := 38) i_MO_ended_35 rfl fd_MO_65 sg_50 rfl (xs_n rfl ?_)
          refine xs_iload_n (q := 39) i_MO_ended_38 rfl rfl (xs_n rfl ?_)
          refine xs_iaload (q := 40) i_MO_ended_39 rfl sg_69 rfl (by have hb : (0 ≤ j ∧ j ≤ M 50 11 - 1) := am_ite1 h12; omega) (xs_n rfl ?_)
          refine xs_iret i_MO_ended_40 ?_
          exact xs_fin (by simp only [f_MO_ended]; rw [if_pos (show (0 ≤ j ∧ j ≤ M 50 11 - 1) from am_ite1 h12), am_up_k _ _ (by decide)]) (by simp only [g_MO_ended]; rw [if_pos (show (0 ≤ j ∧ j ≤ M 50 11 - 1) from am_ite1 h12)]) trivial
        · exact absurd h27 (by rw [am_up_s]; decide)
    · exact h.elim
def P_MO_slack : am_P := fun av M => match av with
  | [.inr (.inl i)] => i = 50 ∧ am_R (M 50 10) ∧ (M 50 10 ≠ 0 → mo_in (am_up M 50 0 0))
  | _ => False
def f_MO_slack : am_Fr := fun av M => match av with
  | [.inr (.inl i)] => some (.inl (if M 50 10 = 0 then 0 else mo_sn (am_up M 50 0 0) 0 (M 50 1).toNat))
  | _ => none
def g_MO_slack : am_Fm := fun av M => match av with
  | [.inr (.inl i)] => am_up M 50 0 (if M 50 10 = 0 then 1 else 0)
  | _ => M
def ct_MO_slack : am_T := fun pc => if pc = 29 then some (2, am_ctV vw_S 11 P_MO_slackNow (am_po f_MO_slackNow g_MO_slackNow)) else none
theorem e_MO_slack_29 : ct_MO_slack 29 = some (2, am_ctV vw_S 11 P_MO_slackNow (am_po f_MO_slackNow g_MO_slackNow)) := rfl
theorem ct_MO_slack_ok (l : Launch) : am_CC b_MO_slack 1 w_MO_slack y_MO_slack.cls l r_MO_slack ct_MO_slack := by
  intro p e s m args below meth c H0 A D G ad Q S hK hN hA pc q ct h
  have hts := S.2.2.2.2
  unfold ct_MO_slack at h
  split at h
  · rename_i hpc
    subst hpc; cases h
    exact am_callV S vw_N_ok hK hN hA ⟨Nat.zero_le _, Nat.zero_le _⟩ (m_MO_slackNow l) (s_MO_162 hts am_vW hN ⟨by decide, by decide⟩) (by rfl) d_MO_slack_29
  cases h
theorem m_MO_slack (l : Launch) : am_MF l y_MO_slack w_MO_slack r_MO_slack P_MO_slack f_MO_slack g_MO_slack := by
  refine am_mk0 i_MO_slack_ok fd_MO_ok (ct_MO_slack_ok l) (plainFor_of_name (by decide +kernel)) (by decide) ?_ 40 ?_
  · intro av M h
    unfold P_MO_slack at h
    split at h
    · exact ⟨Nat.le_of_ble_eq_true rfl, rfl⟩
    · exact h.elim
  · intro av M Z h
    unfold P_MO_slack at h
    split at h
    · rename_i i
      obtain ⟨rfl, h1, h2⟩ := h
      refine xs_aload_n (q := 1) i_MO_slack_0 rfl rfl (xs_n rfl ?_)
      refine xs_aload_n (q := 2) i_MO_slack_1 rfl rfl (xs_n rfl ?_)
      refine xs_geti (q := 5) i_MO_slack_2 rfl fd_MO_111 sg_50 rfl (xs_n rfl ?_)
      refine xs_if_eq (q := 12) (r := 8) i_MO_slack_5 rfl rfl h1 (fun h5 => (xs_n rfl ?_)) (fun h5 => (xs_n rfl ?_))
      · refine xs_iconst (q := 13) i_MO_slack_12 rfl (xs_n rfl ?_)
        refine xs_puti (q := 16) i_MO_slack_13 rfl fd_MO_92 sg_50 rfl (xs_n rfl ?_)
        refine xs_aload_n (q := 17) i_MO_slack_16 rfl rfl (xs_n rfl ?_)
        refine xs_geti (q := 20) i_MO_slack_17 rfl fd_MO_92 sg_50 rfl (xs_n rfl ?_)
        refine xs_if_le (q := 27) (r := 23) i_MO_slack_20 rfl rfl (by rw [am_up_s]; unfold am_R; omega) (fun h20 => (xs_n rfl ?_)) (fun h20 => (xs_n rfl ?_))
        · exact absurd h20 (by rw [am_up_s]; decide)
        · refine xs_iconst (q := 24) i_MO_slack_23 rfl (xs_n rfl ?_)
          refine xs_goto (q := 32) i_MO_slack_24 rfl (xs_n rfl ?_)
          refine xs_iret i_MO_slack_32 ?_
          exact xs_fin (by simp only [f_MO_slack]; rw [if_pos h5]; try rfl) (by simp only [g_MO_slack]; rw [if_pos h5]) trivial
      · refine xs_iconst (q := 9) i_MO_slack_8 rfl (xs_n rfl ?_)
        refine xs_goto (q := 13) i_MO_slack_9 rfl (xs_n rfl ?_)
        refine xs_puti (q := 16) i_MO_slack_13 rfl fd_MO_92 sg_50 rfl (xs_n rfl ?_)
        refine xs_aload_n (q := 17) i_MO_slack_16 rfl rfl (xs_n rfl ?_)
        refine xs_geti (q := 20) i_MO_slack_17 rfl fd_MO_92 sg_50 rfl (xs_n rfl ?_)
        refine xs_if_le (q := 27) (r := 23) i_MO_slack_20 rfl rfl (by rw [am_up_s]; unfold am_R; omega) (fun h20 => (xs_n rfl ?_)) (fun h20 => (xs_n rfl ?_))
        · refine xs_aload_n (q := 28) i_MO_slack_27 rfl rfl (xs_n rfl ?_)
          refine xs_iconst (q := 29) i_MO_slack_28 rfl (xs_n rfl ?_)
          refine xs_cv (q := 32) (av := [_, _]) (rest := []) i_MO_slack_29 rfl (e_MO_slack_29) ⟨rfl, rfl⟩ rfl rfl ?_
          rw [am_V_iff]
          refine ⟨⟨_, sg_50⟩, ⟨rfl, h2 h5, Or.inl rfl⟩, ?_⟩
          dsimp only [g_MO_slackNow, g_id]
          refine xs_r1 rfl (xs_n rfl ?_)
          refine xs_iret i_MO_slack_32 ?_
          exact xs_fin (by simp only [f_MO_slack]; rw [if_neg h5]; try rfl) (by simp only [g_MO_slack]; rw [if_neg h5]) trivial
        · exact absurd h20 (by rw [am_up_s]; decide)
    · exact h.elim
def P_MO_trace : am_P := fun av M => match av with
  | [.inr (.inl i), .inl j] => i = 50 ∧ am_R j ∧ am_R (M 50 10) ∧ (0 ≤ M 50 19 ∧ M 50 19 ≤ 2000)
  | _ => False
def f_MO_trace : am_Fr := fun av M => match av with
  | [.inr (.inl i), .inl j] => some (.inl (if (M 50 10 ≠ 0 ∧ 0 ≤ j ∧ j ≤ M 50 19 - 1) then M 70 j.toNat else 0))
  | _ => none
def g_MO_trace : am_Fm := fun av M => match av with
  | [.inr (.inl i), .inl j] => am_up M 50 0 (if (M 50 10 ≠ 0 ∧ 0 ≤ j ∧ j ≤ M 50 19 - 1) then 0 else 1)
  | _ => M
def ct_MO_trace : am_T := fun pc => if pc = 16 then some (3, am_ctS P_MO_in (am_po f_MO_in g_MO_in)) else none
theorem e_MO_trace_16 : ct_MO_trace 16 = some (3, am_ctS P_MO_in (am_po f_MO_in g_MO_in)) := rfl
theorem ct_MO_trace_ok (l : Launch) : am_CC b_MO_trace 2 w_MO_trace y_MO_trace.cls l r_MO_trace ct_MO_trace := by
  intro p e s m args below meth c H0 A D G ad Q S hK hN hA pc q ct h
  have hts := S.2.2.2.2
  unfold ct_MO_trace at h
  split at h
  · rename_i hpc
    subst hpc; cases h
    exact am_callS S vw_N_ok hK hN hA ⟨Nat.zero_le _, Nat.zero_le _⟩ (m_MO_in l) (s_MO_103 hts am_vW hN ⟨by decide, by decide⟩) d_MO_trace_16
  cases h
theorem m_MO_trace (l : Launch) : am_MF l y_MO_trace w_MO_trace r_MO_trace P_MO_trace f_MO_trace g_MO_trace := by
  refine am_mk0 i_MO_trace_ok fd_MO_ok (ct_MO_trace_ok l) (plainFor_of_name (by decide +kernel)) (by decide) ?_ 40 ?_
  · intro av M h
    unfold P_MO_trace at h
    split at h
    · exact ⟨Nat.le_of_ble_eq_true rfl, rfl⟩
    · exact h.elim
  · intro av M Z h
    unfold P_MO_trace at h
    split at h
    · rename_i i j
      obtain ⟨rfl, h1, h2, h3⟩ := h
      refine xs_aload_n (q := 1) i_MO_trace_0 rfl rfl (xs_n rfl ?_)
      refine xs_aload_n (q := 2) i_MO_trace_1 rfl rfl (xs_n rfl ?_)
      refine xs_geti (q := 5) i_MO_trace_2 rfl fd_MO_111 sg_50 rfl (xs_n rfl ?_)
      refine xs_if_eq (q := 26) (r := 8) i_MO_trace_5 rfl rfl h2 (fun h5 => (xs_n rfl ?_)) (fun h5 => (xs_n rfl ?_))
      · refine xs_iconst (q := 27) i_MO_trace_26 rfl (xs_n rfl ?_)
        refine xs_puti (q := 30) i_MO_trace_27 rfl fd_MO_92 sg_50 rfl (xs_n rfl ?_)
        refine xs_aload_n (q := 31) i_MO_trace_30 rfl rfl (xs_n rfl ?_)
        refine xs_geti (q := 34) i_MO_trace_31 rfl fd_MO_92 sg_50 rfl (xs_n rfl ?_)
        refine xs_if_le (q := 41) (r := 37) i_MO_trace_34 rfl rfl (by rw [am_up_s]; unfold am_R; omega) (fun h34 => (xs_n rfl ?_)) (fun h34 => (xs_n rfl ?_))
        · exact absurd h34 (by rw [am_up_s]; decide)
        · refine xs_iconst (q := 38) i_MO_trace_37 rfl (xs_n rfl ?_)
          refine xs_goto (q := 47) i_MO_trace_38 rfl (xs_n rfl ?_)
          refine xs_iret i_MO_trace_47 ?_
          exact xs_fin (by simp only [f_MO_trace]; rw [if_neg (show ¬ (M 50 10 ≠ 0 ∧ 0 ≤ j ∧ j ≤ M 50 19 - 1) from fun q => q.1 h5)]) (by simp only [g_MO_trace]; rw [if_neg (show ¬ (M 50 10 ≠ 0 ∧ 0 ≤ j ∧ j ≤ M 50 19 - 1) from fun q => q.1 h5)]) trivial
      · refine xs_iload_n (q := 9) i_MO_trace_8 rfl rfl (xs_n rfl ?_)
        refine xs_iconst (q := 10) i_MO_trace_9 rfl (xs_n rfl ?_)
        refine xs_aload_n (q := 11) i_MO_trace_10 rfl rfl (xs_n rfl ?_)
        refine xs_geti (q := 14) i_MO_trace_11 rfl fd_MO_132 sg_50 rfl (xs_n rfl ?_)
        refine xs_iconst (q := 15) i_MO_trace_14 rfl (xs_n rfl ?_)
        refine xs_isub (q := 16) i_MO_trace_15 rfl (xs_n rfl ?_)
        refine xs_cs (q := 19) (av := [_, _, _]) (rest := [_]) i_MO_trace_16 rfl (e_MO_trace_16) ⟨rfl, rfl⟩ rfl rfl ?_
        rw [am_S_iff]
        refine ⟨⟨h1, by unfold am_R; omega, by unfold am_R; omega⟩, ?_⟩
        dsimp only [g_MO_in, g_id]
        refine xs_r1 rfl (xs_n rfl ?_)
        refine xs_if_eq (q := 26) (r := 22) i_MO_trace_19 rfl rfl am_ite (fun h19 => (xs_n rfl ?_)) (fun h19 => (xs_n rfl ?_))
        · refine xs_iconst (q := 27) i_MO_trace_26 rfl (xs_n rfl ?_)
          refine xs_puti (q := 30) i_MO_trace_27 rfl fd_MO_92 sg_50 rfl (xs_n rfl ?_)
          refine xs_aload_n (q := 31) i_MO_trace_30 rfl rfl (xs_n rfl ?_)
          refine xs_geti (q := 34) i_MO_trace_31 rfl fd_MO_92 sg_50 rfl (xs_n rfl ?_)
          refine xs_if_le (q := 41) (r := 37) i_MO_trace_34 rfl rfl (by rw [am_up_s]; unfold am_R; omega) (fun h34 => (xs_n rfl ?_)) (fun h34 => (xs_n rfl ?_))
          · exact absurd h34 (by rw [am_up_s]; decide)
          · refine xs_iconst (q := 38) i_MO_trace_37 rfl (xs_n rfl ?_)
            refine xs_goto (q := 47) i_MO_trace_38 rfl (xs_n rfl ?_)
            refine xs_iret i_MO_trace_47 ?_
            exact xs_fin (by simp only [f_MO_trace]; rw [if_neg (show ¬ (M 50 10 ≠ 0 ∧ 0 ≤ j ∧ j ≤ M 50 19 - 1) from fun q => (show ¬ (0 ≤ j ∧ j ≤ M 50 19 - 1) from am_ite0 h19) q.2)]) (by simp only [g_MO_trace]; rw [if_neg (show ¬ (M 50 10 ≠ 0 ∧ 0 ≤ j ∧ j ≤ M 50 19 - 1) from fun q => (show ¬ (0 ≤ j ∧ j ≤ M 50 19 - 1) from am_ite0 h19) q.2)]) trivial
        · refine xs_iconst (q := 23) i_MO_trace_22 rfl (xs_n rfl ?_)
          refine xs_goto (q := 27) i_MO_trace_23 rfl (xs_n rfl ?_)
          refine xs_puti (q := 30) i_MO_trace_27 rfl fd_MO_92 sg_50 rfl (xs_n rfl ?_)
          refine xs_aload_n (q := 31) i_MO_trace_30 rfl rfl (xs_n rfl ?_)
          refine xs_geti (q := 34) i_MO_trace_31 rfl fd_MO_92 sg_50 rfl (xs_n rfl ?_)
          refine xs_if_le (q := 41) (r := 37) i_MO_trace_34 rfl rfl (by rw [am_up_s]; unfold am_R; omega) (fun h34 => (xs_n rfl ?_)) (fun h34 => (xs_n rfl ?_))
          · refine xs_aload_n (q := 42) i_MO_trace_41 rfl rfl (xs_n rfl ?_)
            refine xs_getr (q := 45) i_MO_trace_42 rfl fd_MO_68 sg_50 rfl (xs_n rfl ?_)
            refine xs_iload_n (q := 46) i_MO_trace_45 rfl rfl (xs_n rfl ?_)
            refine xs_iaload (q := 47) i_MO_trace_46 rfl sg_70 rfl (by have hb : (0 ≤ j ∧ j ≤ M 50 19 - 1) := am_ite1 h19; omega) (xs_n rfl ?_)
            refine xs_iret i_MO_trace_47 ?_
            exact xs_fin (by simp only [f_MO_trace]; rw [if_pos (show (M 50 10 ≠ 0 ∧ 0 ≤ j ∧ j ≤ M 50 19 - 1) from ⟨h5, (show (0 ≤ j ∧ j ≤ M 50 19 - 1) from am_ite1 h19)⟩), am_up_k _ _ (by decide)]) (by simp only [g_MO_trace]; rw [if_pos (show (M 50 10 ≠ 0 ∧ 0 ≤ j ∧ j ≤ M 50 19 - 1) from ⟨h5, (show (0 ≤ j ∧ j ≤ M 50 19 - 1) from am_ite1 h19)⟩)]) trivial
          · exact absurd h34 (by rw [am_up_s]; decide)
    · exact h.elim
/-- what state answers -/
def mo_st (M : am_M) (j : Int) : Int := if j = 0 then M 50 43 else if j = 1 then M 50 44 else if j = 2 then M 50 29 else if j = 3 then M 50 45 else if j = 4 then M 50 19 else if j = 5 then ma_su (fun q => if 0 < M 68 q then 1 else 0) (M 50 26).toNat else if j = 6 then mo_hy M (M 50 1).toNat else if M 50 20 = 1 ∨ M 50 20 = 2 then M 50 24 else 0
theorem mo_hy_c (M : am_M) (v : Int) (q : Nat) : ∀ n, mo_hy (am_up M 50 q v) n = mo_hy M n
  | 0 => rfl
  | n + 1 => by simp only [mo_hy]; rw [mo_hy_c M v q n, am_up_k _ _ (by decide)]
def P_MO_state : am_P := fun av M => match av with
  | [.inr (.inl i), .inl j] => i = 50 ∧ am_R j ∧ am_R (M 50 20) ∧ P_MO_queued [.inr (.inl 50)] (am_up M 50 0 0) ∧ P_MO_hyperperiod [.inr (.inl 50)] (am_up M 50 0 0)
  | _ => False
def f_MO_state : am_Fr := fun av M => match av with
  | [.inr (.inl i), .inl j] => some (.inl (if (0 ≤ j ∧ j ≤ 7) then mo_st (am_up M 50 0 0) j else 0))
  | _ => none
def g_MO_state : am_Fm := fun av M => match av with
  | [.inr (.inl i), .inl j] => am_up M 50 0 (if (0 ≤ j ∧ j ≤ 7) then 0 else 1)
  | _ => M
def ct_MO_state : am_T := fun pc => if pc = 5 then some (3, am_ctS P_MO_in (am_po f_MO_in g_MO_in)) else if pc = 83 then some (1, am_ctV vw_S 11 P_MO_queued (am_po f_MO_queued g_MO_queued)) else if pc = 94 then some (1, am_ctV vw_S 11 P_MO_hyperperiod (am_po f_MO_hyperperiod g_MO_hyperperiod)) else none
theorem e_MO_state_5 : ct_MO_state 5 = some (3, am_ctS P_MO_in (am_po f_MO_in g_MO_in)) := rfl
theorem e_MO_state_83 : ct_MO_state 83 = some (1, am_ctV vw_S 11 P_MO_queued (am_po f_MO_queued g_MO_queued)) := rfl
theorem e_MO_state_94 : ct_MO_state 94 = some (1, am_ctV vw_S 11 P_MO_hyperperiod (am_po f_MO_hyperperiod g_MO_hyperperiod)) := rfl
theorem ct_MO_state_ok (l : Launch) : am_CC b_MO_state 2 w_MO_state y_MO_state.cls l r_MO_state ct_MO_state := by
  intro p e s m args below meth c H0 A D G ad Q S hK hN hA pc q ct h
  have hts := S.2.2.2.2
  unfold ct_MO_state at h
  split at h
  · rename_i hpc
    subst hpc; cases h
    exact am_callS S vw_N_ok hK hN hA ⟨Nat.zero_le _, Nat.zero_le _⟩ (m_MO_in l) (s_MO_103 hts am_vW hN ⟨by decide, by decide⟩) d_MO_state_5
  split at h
  · rename_i hpc
    subst hpc; cases h
    exact am_callV S vw_N_ok hK hN hA ⟨Nat.zero_le _, Nat.zero_le _⟩ (m_MO_queued l) (s_MO_235 hts am_vW hN ⟨by decide, by decide⟩) (by rfl) d_MO_state_83
  split at h
  · rename_i hpc
    subst hpc; cases h
    exact am_callV S vw_N_ok hK hN hA ⟨Nat.zero_le _, Nat.zero_le _⟩ (m_MO_hyperperiod l) (s_MO_107 hts am_vW hN ⟨by decide, by decide⟩) (by rfl) d_MO_state_94
  cases h
theorem m_MO_state (l : Launch) : am_MF l y_MO_state w_MO_state r_MO_state P_MO_state f_MO_state g_MO_state := by
  refine am_mk0 i_MO_state_ok fd_MO_ok (ct_MO_state_ok l) (plainFor_of_name (by decide +kernel)) (by decide) ?_ 60 ?_
  · intro av M h
    unfold P_MO_state at h
    split at h
    · exact ⟨Nat.le_of_ble_eq_true rfl, rfl⟩
    · exact h.elim
  · intro av M Z h
    unfold P_MO_state at h
    split at h
    · rename_i i j
      obtain ⟨rfl, h1, h2, h3, h4⟩ := h
      refine xs_aload_n (q := 1) i_MO_state_0 rfl rfl (xs_n rfl ?_)
      refine xs_iload_n (q := 2) i_MO_state_1 rfl rfl (xs_n rfl ?_)
      refine xs_iconst (q := 3) i_MO_state_2 rfl (xs_n rfl ?_)
      refine xs_bipush (q := 5) i_MO_state_3 rfl (by decide) (xs_n rfl ?_)
      refine xs_cs (q := 8) (av := [_, _, _]) (rest := [_]) i_MO_state_5 rfl (e_MO_state_5) ⟨rfl, rfl⟩ rfl rfl ?_
      rw [am_S_iff]
      refine ⟨⟨h1, by unfold am_R; omega, by unfold am_R; omega⟩, ?_⟩
      dsimp only [g_MO_in, g_id]
      refine xs_r1 rfl (xs_n rfl ?_)
      refine xs_if_eq (q := 15) (r := 11) i_MO_state_8 rfl rfl am_ite (fun h8 => (xs_n rfl ?_)) (fun h8 => (xs_n rfl ?_))
      · refine xs_iconst (q := 16) i_MO_state_15 rfl (xs_n rfl ?_)
        refine xs_puti (q := 19) i_MO_state_16 rfl fd_MO_92 sg_50 rfl (xs_n rfl ?_)
        refine xs_aload_n (q := 20) i_MO_state_19 rfl rfl (xs_n rfl ?_)
        refine xs_geti (q := 23) i_MO_state_20 rfl fd_MO_92 sg_50 rfl (xs_n rfl ?_)
        refine xs_if_le (q := 28) (r := 26) i_MO_state_23 rfl rfl (by rw [am_up_s]; unfold am_R; omega) (fun h23 => (xs_n rfl ?_)) (fun h23 => (xs_n rfl ?_))
        · exact absurd h23 (by rw [am_up_s]; decide)
        · refine xs_iconst (q := 27) i_MO_state_26 rfl (xs_n rfl ?_)
          refine xs_iret i_MO_state_27 ?_
          exact xs_fin (by simp only [f_MO_state]; rw [if_neg (show ¬ (0 ≤ j ∧ j ≤ 7) from am_ite0 h8)]) (by simp only [g_MO_state]; rw [if_neg (show ¬ (0 ≤ j ∧ j ≤ 7) from am_ite0 h8)]) trivial
      · refine xs_iconst (q := 12) i_MO_state_11 rfl (xs_n rfl ?_)
        refine xs_goto (q := 16) i_MO_state_12 rfl (xs_n rfl ?_)
        refine xs_puti (q := 19) i_MO_state_16 rfl fd_MO_92 sg_50 rfl (xs_n rfl ?_)
        refine xs_aload_n (q := 20) i_MO_state_19 rfl rfl (xs_n rfl ?_)
        refine xs_geti (q := 23) i_MO_state_20 rfl fd_MO_92 sg_50 rfl (xs_n rfl ?_)
        refine xs_if_le (q := 28) (r := 26) i_MO_state_23 rfl rfl (by rw [am_up_s]; unfold am_R; omega) (fun h23 => (xs_n rfl ?_)) (fun h23 => (xs_n rfl ?_))
        · refine xs_iload_n (q := 29) i_MO_state_28 rfl rfl (xs_n rfl ?_)
          refine xs_if_ne (q := 37) (r := 32) i_MO_state_29 rfl rfl h1 (fun h29 => (xs_n rfl ?_)) (fun h29 => (xs_n rfl ?_))
          · refine xs_iload_n (q := 38) i_MO_state_37 rfl rfl (xs_n rfl ?_)
            refine xs_iconst (q := 39) i_MO_state_38 rfl (xs_n rfl ?_)
            refine xs_ic_ne (q := 47) (r := 42) i_MO_state_39 rfl rfl ⟨h1, by unfold am_R; omega⟩ (fun h39 => (xs_n rfl ?_)) (fun h39 => (xs_n rfl ?_))
            · refine xs_iload_n (q := 48) i_MO_state_47 rfl rfl (xs_n rfl ?_)
              refine xs_iconst (q := 49) i_MO_state_48 rfl (xs_n rfl ?_)
              refine xs_ic_ne (q := 57) (r := 52) i_MO_state_49 rfl rfl ⟨h1, by unfold am_R; omega⟩ (fun h49 => (xs_n rfl ?_)) (fun h49 => (xs_n rfl ?_))
              · refine xs_iload_n (q := 58) i_MO_state_57 rfl rfl (xs_n rfl ?_)
                refine xs_iconst (q := 59) i_MO_state_58 rfl (xs_n rfl ?_)
                refine xs_ic_ne (q := 67) (r := 62) i_MO_state_59 rfl rfl ⟨h1, by unfold am_R; omega⟩ (fun h59 => (xs_n rfl ?_)) (fun h59 => (xs_n rfl ?_))
                · refine xs_iload_n (q := 68) i_MO_state_67 rfl rfl (xs_n rfl ?_)
                  refine xs_iconst (q := 69) i_MO_state_68 rfl (xs_n rfl ?_)
                  refine xs_ic_ne (q := 77) (r := 72) i_MO_state_69 rfl rfl ⟨h1, by unfold am_R; omega⟩ (fun h69 => (xs_n rfl ?_)) (fun h69 => (xs_n rfl ?_))
                  · refine xs_iload_n (q := 78) i_MO_state_77 rfl rfl (xs_n rfl ?_)
                    refine xs_iconst (q := 79) i_MO_state_78 rfl (xs_n rfl ?_)
                    refine xs_ic_ne (q := 87) (r := 82) i_MO_state_79 rfl rfl ⟨h1, by unfold am_R; omega⟩ (fun h79 => (xs_n rfl ?_)) (fun h79 => (xs_n rfl ?_))
                    · refine xs_iload_n (q := 88) i_MO_state_87 rfl rfl (xs_n rfl ?_)
                      refine xs_bipush (q := 90) i_MO_state_88 rfl (by decide) (xs_n rfl ?_)
                      refine xs_ic_ne (q := 98) (r := 93) i_MO_state_90 rfl rfl ⟨h1, by unfold am_R; omega⟩ (fun h90 => (xs_n rfl ?_)) (fun h90 => (xs_n rfl ?_))
                      · refine xs_aload_n (q := 99) i_MO_state_98 rfl rfl (xs_n rfl ?_)
                        refine xs_geti (q := 102) i_MO_state_99 rfl fd_MO_135 sg_50 rfl (xs_n rfl ?_)
                        refine xs_iconst (q := 103) i_MO_state_102 rfl (xs_n rfl ?_)
                        refine xs_ic_eq (q := 114) (r := 106) i_MO_state_103 rfl rfl ⟨h2, by unfold am_R; omega⟩ (fun h103 => (xs_n rfl ?_)) (fun h103 => (xs_n rfl ?_))
                        · refine xs_aload_n (q := 115) i_MO_state_114 rfl rfl (xs_n rfl ?_)
                          refine xs_geti (q := 118) i_MO_state_115 rfl fd_MO_138 sg_50 rfl (xs_n rfl ?_)
                          refine xs_goto (q := 122) i_MO_state_118 rfl (xs_n rfl ?_)
                          refine xs_iret i_MO_state_122 ?_
                          exact xs_fin (by simp only [f_MO_state]; rw [if_pos (show (0 ≤ j ∧ j ≤ 7) from am_ite1 h8)]; unfold mo_st; rw [if_neg h29, if_neg h39, if_neg h49, if_neg h59, if_neg h69, if_neg h79, if_neg h90, if_pos (Or.inl h103)]; try rfl) (by simp only [g_MO_state]; rw [if_pos (show (0 ≤ j ∧ j ≤ 7) from am_ite1 h8)]) trivial
                        · refine xs_aload_n (q := 107) i_MO_state_106 rfl rfl (xs_n rfl ?_)
                          refine xs_geti (q := 110) i_MO_state_107 rfl fd_MO_135 sg_50 rfl (xs_n rfl ?_)
                          refine xs_iconst (q := 111) i_MO_state_110 rfl (xs_n rfl ?_)
                          refine xs_ic_ne (q := 121) (r := 114) i_MO_state_111 rfl rfl ⟨h2, by unfold am_R; omega⟩ (fun h111 => (xs_n rfl ?_)) (fun h111 => (xs_n rfl ?_))
                          · refine xs_iconst (q := 122) i_MO_state_121 rfl (xs_n rfl ?_)
                            refine xs_iret i_MO_state_122 ?_
                            exact xs_fin (by simp only [f_MO_state]; rw [if_pos (show (0 ≤ j ∧ j ≤ 7) from am_ite1 h8)]; unfold mo_st; rw [if_neg h29, if_neg h39, if_neg h49, if_neg h59, if_neg h69, if_neg h79, if_neg h90, if_neg (fun q => q.elim h103 h111)]; try rfl) (by simp only [g_MO_state]; rw [if_pos (show (0 ≤ j ∧ j ≤ 7) from am_ite1 h8)]) trivial
                          · refine xs_aload_n (q := 115) i_MO_state_114 rfl rfl (xs_n rfl ?_)
                            refine xs_geti (q := 118) i_MO_state_115 rfl fd_MO_138 sg_50 rfl (xs_n rfl ?_)
                            refine xs_goto (q := 122) i_MO_state_118 rfl (xs_n rfl ?_)
                            refine xs_iret i_MO_state_122 ?_
                            exact xs_fin (by simp only [f_MO_state]; rw [if_pos (show (0 ≤ j ∧ j ≤ 7) from am_ite1 h8)]; unfold mo_st; rw [if_neg h29, if_neg h39, if_neg h49, if_neg h59, if_neg h69, if_neg h79, if_neg h90, if_pos (Or.inr h111)]; try rfl) (by simp only [g_MO_state]; rw [if_pos (show (0 ≤ j ∧ j ≤ 7) from am_ite1 h8)]) trivial
                      · refine xs_aload_n (q := 94) i_MO_state_93 rfl rfl (xs_n rfl ?_)
                        refine xs_cv (q := 97) (av := [_]) (rest := []) i_MO_state_94 rfl (e_MO_state_94) ⟨rfl, rfl⟩ rfl rfl ?_
                        rw [am_V_iff]
                        refine ⟨⟨_, sg_50⟩, h4, ?_⟩
                        dsimp only [g_MO_hyperperiod, g_id]
                        refine xs_r1 rfl (xs_n rfl ?_)
                        refine xs_iret i_MO_state_97 ?_
                        exact xs_fin (by simp only [f_MO_state]; rw [if_pos (show (0 ≤ j ∧ j ≤ 7) from am_ite1 h8)]; unfold mo_st; rw [if_neg h29, if_neg h39, if_neg h49, if_neg h59, if_neg h69, if_neg h79, if_pos h90]; try rfl) (by simp only [g_MO_state]; rw [if_pos (show (0 ≤ j ∧ j ≤ 7) from am_ite1 h8)]) trivial
                    · refine xs_aload_n (q := 83) i_MO_state_82 rfl rfl (xs_n rfl ?_)
                      refine xs_cv (q := 86) (av := [_]) (rest := []) i_MO_state_83 rfl (e_MO_state_83) ⟨rfl, rfl⟩ rfl rfl ?_
                      rw [am_V_iff]
                      refine ⟨⟨_, sg_50⟩, h3, ?_⟩
                      dsimp only [g_MO_queued, g_id]
                      refine xs_r1 rfl (xs_n rfl ?_)
                      refine xs_iret i_MO_state_86 ?_
                      exact xs_fin (by simp only [f_MO_state]; rw [if_pos (show (0 ≤ j ∧ j ≤ 7) from am_ite1 h8)]; unfold mo_st; rw [if_neg h29, if_neg h39, if_neg h49, if_neg h59, if_neg h69, if_pos h79]; try rfl) (by simp only [g_MO_state]; rw [if_pos (show (0 ≤ j ∧ j ≤ 7) from am_ite1 h8)]) trivial
                  · refine xs_aload_n (q := 73) i_MO_state_72 rfl rfl (xs_n rfl ?_)
                    refine xs_geti (q := 76) i_MO_state_73 rfl fd_MO_132 sg_50 rfl (xs_n rfl ?_)
                    refine xs_iret i_MO_state_76 ?_
                    exact xs_fin (by simp only [f_MO_state]; rw [if_pos (show (0 ≤ j ∧ j ≤ 7) from am_ite1 h8)]; unfold mo_st; rw [if_neg h29, if_neg h39, if_neg h49, if_neg h59, if_pos h69]; try rfl) (by simp only [g_MO_state]; rw [if_pos (show (0 ≤ j ∧ j ≤ 7) from am_ite1 h8)]) trivial
                · refine xs_aload_n (q := 63) i_MO_state_62 rfl rfl (xs_n rfl ?_)
                  refine xs_geti (q := 66) i_MO_state_63 rfl fd_MO_232 sg_50 rfl (xs_n rfl ?_)
                  refine xs_iret i_MO_state_66 ?_
                  exact xs_fin (by simp only [f_MO_state]; rw [if_pos (show (0 ≤ j ∧ j ≤ 7) from am_ite1 h8)]; unfold mo_st; rw [if_neg h29, if_neg h39, if_neg h49, if_pos h59]; try rfl) (by simp only [g_MO_state]; rw [if_pos (show (0 ≤ j ∧ j ≤ 7) from am_ite1 h8)]) trivial
              · refine xs_aload_n (q := 53) i_MO_state_52 rfl rfl (xs_n rfl ?_)
                refine xs_geti (q := 56) i_MO_state_53 rfl fd_MO_144 sg_50 rfl (xs_n rfl ?_)
                refine xs_iret i_MO_state_56 ?_
                exact xs_fin (by simp only [f_MO_state]; rw [if_pos (show (0 ≤ j ∧ j ≤ 7) from am_ite1 h8)]; unfold mo_st; rw [if_neg h29, if_neg h39, if_pos h49]; try rfl) (by simp only [g_MO_state]; rw [if_pos (show (0 ≤ j ∧ j ≤ 7) from am_ite1 h8)]) trivial
            · refine xs_aload_n (q := 43) i_MO_state_42 rfl rfl (xs_n rfl ?_)
              refine xs_geti (q := 46) i_MO_state_43 rfl fd_MO_229 sg_50 rfl (xs_n rfl ?_)
              refine xs_iret i_MO_state_46 ?_
              exact xs_fin (by simp only [f_MO_state]; rw [if_pos (show (0 ≤ j ∧ j ≤ 7) from am_ite1 h8)]; unfold mo_st; rw [if_neg h29, if_pos h39]; try rfl) (by simp only [g_MO_state]; rw [if_pos (show (0 ≤ j ∧ j ≤ 7) from am_ite1 h8)]) trivial
          · refine xs_aload_n (q := 33) i_MO_state_32 rfl rfl (xs_n rfl ?_)
            refine xs_geti (q := 36) i_MO_state_33 rfl fd_MO_226 sg_50 rfl (xs_n rfl ?_)
            refine xs_iret i_MO_state_36 ?_
            exact xs_fin (by simp only [f_MO_state]; rw [if_pos (show (0 ≤ j ∧ j ≤ 7) from am_ite1 h8)]; unfold mo_st; rw [if_pos h29]; try rfl) (by simp only [g_MO_state]; rw [if_pos (show (0 ≤ j ∧ j ≤ 7) from am_ite1 h8)]) trivial
        · exact absurd h23 (by rw [am_up_s]; decide)
    · exact h.elim
def mo_jc (M : am_M) (c : Int) : Int := if (1 ≤ c ∧ c ≤ 30) then (if M 50 10 = 0 ∨ M 50 11 = 40 then 2 else 0) else 1
def P_MO_job : am_P := fun av M => match av with
  | [.inr (.inl i), .inl c] => i = 50 ∧ am_R c ∧ am_R (M 50 10) ∧ (0 ≤ M 50 11 ∧ M 50 11 ≤ 40) ∧ M 50 26 = M 50 11
  | _ => False
def f_MO_job : am_Fr := fun av M => match av with
  | [.inr (.inl i), .inl c] => some (.inl (if mo_jc M c = 0 then M 50 11 else 0))
  | _ => none
def g_MO_job : am_Fm := fun av M => match av with
  | [.inr (.inl i), .inl c] => if mo_jc M c = 0 then g_MO_arrive [.inr (.inl 50), .inl c, .inl 0] (am_up M 50 0 0) else am_up M 50 0 (mo_jc M c)
  | _ => M
def ct_MO_job : am_T := fun pc => if pc = 5 then some (3, am_ctS P_MO_in (am_po f_MO_in g_MO_in)) else if pc = 53 then some (3, am_ctV vw_S 11 P_MO_arrive (am_po f_MO_arrive g_MO_arrive)) else none
theorem e_MO_job_5 : ct_MO_job 5 = some (3, am_ctS P_MO_in (am_po f_MO_in g_MO_in)) := rfl
theorem e_MO_job_53 : ct_MO_job 53 = some (3, am_ctV vw_S 11 P_MO_arrive (am_po f_MO_arrive g_MO_arrive)) := rfl
theorem ct_MO_job_ok (l : Launch) : am_CC b_MO_job 2 w_MO_job y_MO_job.cls l r_MO_job ct_MO_job := by
  intro p e s m args below meth c H0 A D G ad Q S hK hN hA pc q ct h
  have hts := S.2.2.2.2
  unfold ct_MO_job at h
  split at h
  · rename_i hpc
    subst hpc; cases h
    exact am_callS S vw_N_ok hK hN hA ⟨Nat.zero_le _, Nat.zero_le _⟩ (m_MO_in l) (s_MO_103 hts am_vW hN ⟨by decide, by decide⟩) d_MO_job_5
  split at h
  · rename_i hpc
    subst hpc; cases h
    exact am_callV S vw_N_ok hK hN hA ⟨Nat.zero_le _, Nat.zero_le _⟩ (m_MO_arrive l) (s_MO_191 hts am_vW hN ⟨by decide, by decide⟩) (by rfl) d_MO_job_53
  cases h
theorem m_MO_job (l : Launch) : am_MF l y_MO_job w_MO_job r_MO_job P_MO_job f_MO_job g_MO_job := by
  refine am_mk0 i_MO_job_ok fd_MO_ok (ct_MO_job_ok l) (plainFor_of_name (by decide +kernel)) (by decide) ?_ 60 ?_
  · intro av M h
    unfold P_MO_job at h
    split at h
    · exact ⟨Nat.le_of_ble_eq_true rfl, rfl⟩
    · exact h.elim
  · intro av M Z h
    unfold P_MO_job at h
    split at h
    · rename_i i c
      obtain ⟨rfl, h1, h2, h3, h4⟩ := h
      refine xs_aload_n (q := 1) i_MO_job_0 rfl rfl (xs_n rfl ?_)
      refine xs_iload_n (q := 2) i_MO_job_1 rfl rfl (xs_n rfl ?_)
      refine xs_iconst (q := 3) i_MO_job_2 rfl (xs_n rfl ?_)
      refine xs_bipush (q := 5) i_MO_job_3 rfl (by decide) (xs_n rfl ?_)
      refine xs_cs (q := 8) (av := [_, _, _]) (rest := [_]) i_MO_job_5 rfl (e_MO_job_5) ⟨rfl, rfl⟩ rfl rfl ?_
      rw [am_S_iff]
      refine ⟨⟨h1, by unfold am_R; omega, by unfold am_R; omega⟩, ?_⟩
      dsimp only [g_MO_in, g_id]
      refine xs_r1 rfl (xs_n rfl ?_)
      refine xs_if_ne (q := 15) (r := 11) i_MO_job_8 rfl rfl am_ite (fun h8 => (xs_n rfl ?_)) (fun h8 => (xs_n rfl ?_))
      · refine xs_aload_n (q := 16) i_MO_job_15 rfl rfl (xs_n rfl ?_)
        refine xs_geti (q := 19) i_MO_job_16 rfl fd_MO_111 sg_50 rfl (xs_n rfl ?_)
        refine xs_if_eq (q := 31) (r := 22) i_MO_job_19 rfl rfl h2 (fun h19 => (xs_n rfl ?_)) (fun h19 => (xs_n rfl ?_))
        · refine xs_iconst (q := 32) i_MO_job_31 rfl (xs_n rfl ?_)
          refine xs_goto (q := 36) i_MO_job_32 rfl (xs_n rfl ?_)
          refine xs_puti (q := 39) i_MO_job_36 rfl fd_MO_92 sg_50 rfl (xs_n rfl ?_)
          refine xs_aload_n (q := 40) i_MO_job_39 rfl rfl (xs_n rfl ?_)
          refine xs_geti (q := 43) i_MO_job_40 rfl fd_MO_92 sg_50 rfl (xs_n rfl ?_)
          refine xs_if_le (q := 50) (r := 46) i_MO_job_43 rfl rfl (by rw [am_up_s]; unfold am_R; omega) (fun h43 => (xs_n rfl ?_)) (fun h43 => (xs_n rfl ?_))
          · exact absurd h43 (by rw [am_up_s]; decide)
          · refine xs_iconst (q := 47) i_MO_job_46 rfl (xs_n rfl ?_)
            refine xs_goto (q := 56) i_MO_job_47 rfl (xs_n rfl ?_)
            refine xs_iret i_MO_job_56 ?_
            have ec : mo_jc M c = 2 := by unfold mo_jc; rw [if_pos (show (1 ≤ c ∧ c ≤ 30) from am_ite1 h8), if_pos (Or.inl h19)]
            exact xs_fin (by simp only [f_MO_job]; rw [if_neg (by rw [ec]; decide)]; try rfl) (by simp only [g_MO_job]; rw [if_neg (by rw [ec]; decide), ec]) trivial
        · refine xs_aload_n (q := 23) i_MO_job_22 rfl rfl (xs_n rfl ?_)
          refine xs_geti (q := 26) i_MO_job_23 rfl fd_MO_185 sg_50 rfl (xs_n rfl ?_)
          refine xs_bipush (q := 28) i_MO_job_26 rfl (by decide) (xs_n rfl ?_)
          refine xs_ic_ne (q := 35) (r := 31) i_MO_job_28 rfl rfl ⟨by unfold am_R; omega, by unfold am_R; omega⟩ (fun h28 => (xs_n rfl ?_)) (fun h28 => (xs_n rfl ?_))
          · refine xs_iconst (q := 36) i_MO_job_35 rfl (xs_n rfl ?_)
            refine xs_puti (q := 39) i_MO_job_36 rfl fd_MO_92 sg_50 rfl (xs_n rfl ?_)
            refine xs_aload_n (q := 40) i_MO_job_39 rfl rfl (xs_n rfl ?_)
            refine xs_geti (q := 43) i_MO_job_40 rfl fd_MO_92 sg_50 rfl (xs_n rfl ?_)
            refine xs_if_le (q := 50) (r := 46) i_MO_job_43 rfl rfl (by rw [am_up_s]; unfold am_R; omega) (fun h43 => (xs_n rfl ?_)) (fun h43 => (xs_n rfl ?_))
            · refine xs_aload_n (q := 51) i_MO_job_50 rfl rfl (xs_n rfl ?_)
              refine xs_iload_n (q := 52) i_MO_job_51 rfl rfl (xs_n rfl ?_)
              refine xs_iconst (q := 53) i_MO_job_52 rfl (xs_n rfl ?_)
              refine xs_cv (q := 56) (av := [_, _, _]) (rest := []) i_MO_job_53 rfl (e_MO_job_53) ⟨rfl, rfl⟩ rfl rfl ?_
              rw [am_V_iff]
              refine ⟨⟨_, sg_50⟩, ⟨rfl, by show 0 ≤ M 50 11 ∧ M 50 11 < 40; omega, Or.inl rfl, h4⟩, ?_⟩
              refine xs_r1 rfl (xs_n rfl ?_)
              refine xs_iret i_MO_job_56 ?_
              have ec : mo_jc M c = 0 := by unfold mo_jc; rw [if_pos (show (1 ≤ c ∧ c ≤ 30) from am_ite1 h8), if_neg (fun q => q.elim h19 h28)]
              exact xs_fin (by simp only [f_MO_job]; rw [if_pos ec]; try rfl) (by simp only [g_MO_job]; rw [if_pos ec]) trivial
            · exact absurd h43 (by rw [am_up_s]; decide)
          · refine xs_iconst (q := 32) i_MO_job_31 rfl (xs_n rfl ?_)
            refine xs_goto (q := 36) i_MO_job_32 rfl (xs_n rfl ?_)
            refine xs_puti (q := 39) i_MO_job_36 rfl fd_MO_92 sg_50 rfl (xs_n rfl ?_)
            refine xs_aload_n (q := 40) i_MO_job_39 rfl rfl (xs_n rfl ?_)
            refine xs_geti (q := 43) i_MO_job_40 rfl fd_MO_92 sg_50 rfl (xs_n rfl ?_)
            refine xs_if_le (q := 50) (r := 46) i_MO_job_43 rfl rfl (by rw [am_up_s]; unfold am_R; omega) (fun h43 => (xs_n rfl ?_)) (fun h43 => (xs_n rfl ?_))
            · exact absurd h43 (by rw [am_up_s]; decide)
            · refine xs_iconst (q := 47) i_MO_job_46 rfl (xs_n rfl ?_)
              refine xs_goto (q := 56) i_MO_job_47 rfl (xs_n rfl ?_)
              refine xs_iret i_MO_job_56 ?_
              have ec : mo_jc M c = 2 := by unfold mo_jc; rw [if_pos (show (1 ≤ c ∧ c ≤ 30) from am_ite1 h8), if_pos (Or.inr h28)]
              exact xs_fin (by simp only [f_MO_job]; rw [if_neg (by rw [ec]; decide)]; try rfl) (by simp only [g_MO_job]; rw [if_neg (by rw [ec]; decide), ec]) trivial
      · refine xs_iconst (q := 12) i_MO_job_11 rfl (xs_n rfl ?_)
        refine xs_goto (q := 36) i_MO_job_12 rfl (xs_n rfl ?_)
        refine xs_puti (q := 39) i_MO_job_36 rfl fd_MO_92 sg_50 rfl (xs_n rfl ?_)
        refine xs_aload_n (q := 40) i_MO_job_39 rfl rfl (xs_n rfl ?_)
        refine xs_geti (q := 43) i_MO_job_40 rfl fd_MO_92 sg_50 rfl (xs_n rfl ?_)
        refine xs_if_le (q := 50) (r := 46) i_MO_job_43 rfl rfl (by rw [am_up_s]; unfold am_R; omega) (fun h43 => (xs_n rfl ?_)) (fun h43 => (xs_n rfl ?_))
        · exact absurd h43 (by rw [am_up_s]; decide)
        · refine xs_iconst (q := 47) i_MO_job_46 rfl (xs_n rfl ?_)
          refine xs_goto (q := 56) i_MO_job_47 rfl (xs_n rfl ?_)
          refine xs_iret i_MO_job_56 ?_
          have ec : mo_jc M c = 1 := by unfold mo_jc; rw [if_neg (show ¬ (1 ≤ c ∧ c ≤ 30) from am_ite0 h8)]
          exact xs_fin (by simp only [f_MO_job]; rw [if_neg (by rw [ec]; decide)]; try rfl) (by simp only [g_MO_job]; rw [if_neg (by rw [ec]; decide), ec]) trivial
    · exact h.elim
def mo_ec (M : am_M) (t k : Int) : Int := if (0 ≤ t ∧ t ≤ M 50 1 - 1) ∧ (1 ≤ k ∧ k ≤ M 53 t.toNat) then (if M 50 10 = 0 ∨ M 50 15 = 200 then 2 else 0) else 1
def mo_e1 (M : am_M) (t k : Int) : am_M := am_up (am_up (am_up (am_up M 50 0 0) 61 (M 50 15).toNat t) 62 (M 50 15).toNat k) 63 (M 50 15).toNat (M 50 19)
def mo_e2 (M : am_M) (t k : Int) : am_M := am_up (mo_e1 M t k) 50 15 (M 50 15 + 1)
def P_MO_early : am_P := fun av M => match av with
  | [.inr (.inl i), .inl t, .inl k] => i = 50 ∧ am_R t ∧ am_R k ∧ am_R (M 50 10) ∧ (0 ≤ M 50 1 ∧ M 50 1 ≤ 5) ∧ (0 ≤ M 50 15 ∧ M 50 15 ≤ 200) ∧ (∀ j, j < 5 → am_R (M 53 j)) ∧ (∀ j, j < 5 → am_R (M 66 j))
  | _ => False
def f_MO_early : am_Fr := fun av M => match av with
  | [.inr (.inl i), .inl t, .inl k] => none
  | _ => none
def g_MO_early : am_Fm := fun av M => match av with
  | [.inr (.inl i), .inl t, .inl k] => if mo_ec M t k = 0 then g_MO_tell [.inr (.inl 50), .inl t, .inl k] (mo_e2 M t k) else am_up M 50 0 (mo_ec M t k)
  | _ => M
def ct_MO_early : am_T := fun pc => if pc = 8 then some (3, am_ctS P_MO_in (am_po f_MO_in g_MO_in)) else if pc = 24 then some (3, am_ctS P_MO_in (am_po f_MO_in g_MO_in)) else if pc = 116 then some (3, am_ctV vw_S 11 P_MO_tell (am_po f_MO_tell g_MO_tell)) else none
theorem e_MO_early_8 : ct_MO_early 8 = some (3, am_ctS P_MO_in (am_po f_MO_in g_MO_in)) := rfl
theorem e_MO_early_24 : ct_MO_early 24 = some (3, am_ctS P_MO_in (am_po f_MO_in g_MO_in)) := rfl
theorem e_MO_early_116 : ct_MO_early 116 = some (3, am_ctV vw_S 11 P_MO_tell (am_po f_MO_tell g_MO_tell)) := rfl
theorem ct_MO_early_ok (l : Launch) : am_CC b_MO_early 4 w_MO_early y_MO_early.cls l r_MO_early ct_MO_early := by
  intro p e s m args below meth c H0 A D G ad Q S hK hN hA pc q ct h
  have hts := S.2.2.2.2
  unfold ct_MO_early at h
  split at h
  · rename_i hpc
    subst hpc; cases h
    exact am_callS S vw_N_ok hK hN hA ⟨Nat.zero_le _, Nat.zero_le _⟩ (m_MO_in l) (s_MO_103 hts am_vW hN ⟨by decide, by decide⟩) d_MO_early_8
  split at h
  · rename_i hpc
    subst hpc; cases h
    exact am_callS S vw_N_ok hK hN hA ⟨Nat.zero_le _, Nat.zero_le _⟩ (m_MO_in l) (s_MO_103 hts am_vW hN ⟨by decide, by decide⟩) d_MO_early_24
  split at h
  · rename_i hpc
    subst hpc; cases h
    exact am_callV S vw_N_ok hK hN hA ⟨Nat.zero_le _, Nat.zero_le _⟩ (m_MO_tell l) (s_MO_207 hts am_vW hN ⟨by decide, by decide⟩) (by rfl) d_MO_early_116
  cases h
theorem m_MO_early (l : Launch) : am_MF l y_MO_early w_MO_early r_MO_early P_MO_early f_MO_early g_MO_early := by
  refine am_mk0 i_MO_early_ok fd_MO_ok (ct_MO_early_ok l) (plainFor_of_name (by decide +kernel)) (by decide) ?_ 80 ?_
  · intro av M h
    unfold P_MO_early at h
    split at h
    · exact ⟨Nat.le_of_ble_eq_true rfl, rfl⟩
    · exact h.elim
  · intro av M Z h
    unfold P_MO_early at h
    split at h
    · rename_i i t k
      obtain ⟨rfl, h1, h2, h3, h4, h5, h6, h7⟩ := h
      refine xs_iload_n (q := 1) i_MO_early_0 rfl rfl (xs_n rfl ?_)
      refine xs_iconst (q := 2) i_MO_early_1 rfl (xs_n rfl ?_)
      refine xs_aload_n (q := 3) i_MO_early_2 rfl rfl (xs_n rfl ?_)
      refine xs_geti (q := 6) i_MO_early_3 rfl fd_MO_96 sg_50 rfl (xs_n rfl ?_)
      refine xs_iconst (q := 7) i_MO_early_6 rfl (xs_n rfl ?_)
      refine xs_isub (q := 8) i_MO_early_7 rfl (xs_n rfl ?_)
      refine xs_cs (q := 11) (av := [_, _, _]) (rest := []) i_MO_early_8 rfl (e_MO_early_8) ⟨rfl, rfl⟩ rfl rfl ?_
      rw [am_S_iff]
      refine ⟨⟨h1, by unfold am_R; omega, by unfold am_R; omega⟩, ?_⟩
      dsimp only [g_MO_in, g_id]
      refine xs_r1 rfl (xs_n rfl ?_)
      refine xs_istore_n (q := 12) (ls2 := [_, _, _, _]) i_MO_early_11 rfl rfl rfl (xs_n rfl ?_)
      refine xs_iload_n (q := 13) i_MO_early_12 rfl rfl (xs_n rfl ?_)
      refine xs_if_eq (q := 28) (r := 16) i_MO_early_13 rfl rfl am_ite (fun h13 => (xs_n rfl ?_)) (fun h13 => (xs_n rfl ?_))
      · refine xs_aload_n (q := 29) i_MO_early_28 rfl rfl (xs_n rfl ?_)
        refine xs_iload_n (q := 30) i_MO_early_29 rfl rfl (xs_n rfl ?_)
        refine xs_if_ne (q := 37) (r := 33) i_MO_early_30 rfl rfl am_ite (fun h30 => (xs_n rfl ?_)) (fun h30 => (xs_n rfl ?_))
        · exact absurd h13 h30
        · refine xs_iconst (q := 34) i_MO_early_33 rfl (xs_n rfl ?_)
          refine xs_goto (q := 59) i_MO_early_34 rfl (xs_n rfl ?_)
          refine xs_puti (q := 62) i_MO_early_59 rfl fd_MO_92 sg_50 rfl (xs_n rfl ?_)
          refine xs_aload_n (q := 63) i_MO_early_62 rfl rfl (xs_n rfl ?_)
          refine xs_geti (q := 66) i_MO_early_63 rfl fd_MO_92 sg_50 rfl (xs_n rfl ?_)
          refine xs_if_le (q := 70) (r := 69) i_MO_early_66 rfl rfl (by rw [am_up_s]; unfold am_R; omega) (fun h66 => (xs_n rfl ?_)) (fun h66 => (xs_n rfl ?_))
          · exact absurd h66 (by rw [am_up_s]; decide)
          · refine xs_ret i_MO_early_69 ?_
            have ec : mo_ec M t k = 1 := by unfold mo_ec; rw [if_neg (show ¬ ((0 ≤ t ∧ t ≤ M 50 1 - 1) ∧ (1 ≤ k ∧ k ≤ M 53 t.toNat)) from fun q => (show ¬ (0 ≤ t ∧ t ≤ M 50 1 - 1) from am_ite0 h13) q.1)]
            exact xs_fin rfl (by simp only [g_MO_early]; rw [if_neg (by rw [ec]; decide), ec]; try rfl) trivial
      · refine xs_iload_n (q := 17) i_MO_early_16 rfl rfl (xs_n rfl ?_)
        refine xs_iconst (q := 18) i_MO_early_17 rfl (xs_n rfl ?_)
        refine xs_aload_n (q := 19) i_MO_early_18 rfl rfl (xs_n rfl ?_)
        refine xs_getr (q := 22) i_MO_early_19 rfl fd_MO_16 sg_50 rfl (xs_n rfl ?_)
        refine xs_iload_n (q := 23) i_MO_early_22 rfl rfl (xs_n rfl ?_)
        refine xs_iaload (q := 24) i_MO_early_23 rfl sg_53 rfl (by have hb : (0 ≤ t ∧ t ≤ M 50 1 - 1) := am_ite1 h13; omega) (xs_n rfl ?_)
        refine xs_cs (q := 27) (av := [_, _, _]) (rest := []) i_MO_early_24 rfl (e_MO_early_24) ⟨rfl, rfl⟩ rfl rfl ?_
        rw [am_S_iff]
        refine ⟨⟨h2, by unfold am_R; omega, by have hb : (0 ≤ t ∧ t ≤ M 50 1 - 1) := am_ite1 h13; exact h6 _ (by omega)⟩, ?_⟩
        dsimp only [g_MO_in, g_id]
        refine xs_r1 rfl (xs_n rfl ?_)
        refine xs_istore_n (q := 28) (ls2 := [_, _, _, _]) i_MO_early_27 rfl rfl rfl (xs_n rfl ?_)
        refine xs_aload_n (q := 29) i_MO_early_28 rfl rfl (xs_n rfl ?_)
        refine xs_iload_n (q := 30) i_MO_early_29 rfl rfl (xs_n rfl ?_)
        refine xs_if_ne (q := 37) (r := 33) i_MO_early_30 rfl rfl am_ite (fun h30 => (xs_n rfl ?_)) (fun h30 => (xs_n rfl ?_))
        · refine xs_aload_n (q := 38) i_MO_early_37 rfl rfl (xs_n rfl ?_)
          refine xs_geti (q := 41) i_MO_early_38 rfl fd_MO_111 sg_50 rfl (xs_n rfl ?_)
          refine xs_if_eq (q := 54) (r := 44) i_MO_early_41 rfl rfl h3 (fun h41 => (xs_n rfl ?_)) (fun h41 => (xs_n rfl ?_))
          · refine xs_iconst (q := 55) i_MO_early_54 rfl (xs_n rfl ?_)
            refine xs_goto (q := 59) i_MO_early_55 rfl (xs_n rfl ?_)
            refine xs_puti (q := 62) i_MO_early_59 rfl fd_MO_92 sg_50 rfl (xs_n rfl ?_)
            refine xs_aload_n (q := 63) i_MO_early_62 rfl rfl (xs_n rfl ?_)
            refine xs_geti (q := 66) i_MO_early_63 rfl fd_MO_92 sg_50 rfl (xs_n rfl ?_)
            refine xs_if_le (q := 70) (r := 69) i_MO_early_66 rfl rfl (by rw [am_up_s]; unfold am_R; omega) (fun h66 => (xs_n rfl ?_)) (fun h66 => (xs_n rfl ?_))
            · exact absurd h66 (by rw [am_up_s]; decide)
            · refine xs_ret i_MO_early_69 ?_
              have ec : mo_ec M t k = 2 := by unfold mo_ec; rw [if_pos (show (0 ≤ t ∧ t ≤ M 50 1 - 1) ∧ (1 ≤ k ∧ k ≤ M 53 t.toNat) from ⟨am_ite1 h13, am_ite1 h30⟩), if_pos (Or.inl h41)]
              exact xs_fin rfl (by simp only [g_MO_early]; rw [if_neg (by rw [ec]; decide), ec]; try rfl) trivial
          · refine xs_aload_n (q := 45) i_MO_early_44 rfl rfl (xs_n rfl ?_)
            refine xs_geti (q := 48) i_MO_early_45 rfl fd_MO_204 sg_50 rfl (xs_n rfl ?_)
            refine xs_sipush (q := 51) i_MO_early_48 rfl (by decide) (xs_n rfl ?_)
            refine xs_ic_ne (q := 58) (r := 54) i_MO_early_51 rfl rfl ⟨by unfold am_R; omega, by unfold am_R; omega⟩ (fun h51 => (xs_n rfl ?_)) (fun h51 => (xs_n rfl ?_))
            · refine xs_iconst (q := 59) i_MO_early_58 rfl (xs_n rfl ?_)
              refine xs_puti (q := 62) i_MO_early_59 rfl fd_MO_92 sg_50 rfl (xs_n rfl ?_)
              refine xs_aload_n (q := 63) i_MO_early_62 rfl rfl (xs_n rfl ?_)
              refine xs_geti (q := 66) i_MO_early_63 rfl fd_MO_92 sg_50 rfl (xs_n rfl ?_)
              refine xs_if_le (q := 70) (r := 69) i_MO_early_66 rfl rfl (by rw [am_up_s]; unfold am_R; omega) (fun h66 => (xs_n rfl ?_)) (fun h66 => (xs_n rfl ?_))
              · refine xs_aload_n (q := 71) i_MO_early_70 rfl rfl (xs_n rfl ?_)
                refine xs_getr (q := 74) i_MO_early_71 rfl fd_MO_41 sg_50 rfl (xs_n rfl ?_)
                refine xs_aload_n (q := 75) i_MO_early_74 rfl rfl (xs_n rfl ?_)
                refine xs_geti (q := 78) i_MO_early_75 rfl fd_MO_204 sg_50 rfl (xs_n rfl ?_)
                refine xs_iload_n (q := 79) i_MO_early_78 rfl rfl (xs_n rfl ?_)
                refine xs_iastore (q := 80) i_MO_early_79 rfl sg_61 (by show 0 ≤ M 50 15 ∧ M 50 15 < 200; omega) (xs_n rfl ?_)
                refine xs_aload_n (q := 81) i_MO_early_80 rfl rfl (xs_n rfl ?_)
                refine xs_getr (q := 84) i_MO_early_81 rfl fd_MO_44 sg_50 rfl (xs_n rfl ?_)
                refine xs_aload_n (q := 85) i_MO_early_84 rfl rfl (xs_n rfl ?_)
                refine xs_geti (q := 88) i_MO_early_85 rfl fd_MO_204 sg_50 rfl (xs_n rfl ?_)
                refine xs_iload_n (q := 89) i_MO_early_88 rfl rfl (xs_n rfl ?_)
                refine xs_iastore (q := 90) i_MO_early_89 rfl sg_62 (by show 0 ≤ M 50 15 ∧ M 50 15 < 200; omega) (xs_n rfl ?_)
                refine xs_aload_n (q := 91) i_MO_early_90 rfl rfl (xs_n rfl ?_)
                refine xs_getr (q := 94) i_MO_early_91 rfl fd_MO_47 sg_50 rfl (xs_n rfl ?_)
                refine xs_aload_n (q := 95) i_MO_early_94 rfl rfl (xs_n rfl ?_)
                refine xs_geti (q := 98) i_MO_early_95 rfl fd_MO_204 sg_50 rfl (xs_n rfl ?_)
                refine xs_aload_n (q := 99) i_MO_early_98 rfl rfl (xs_n rfl ?_)
                refine xs_geti (q := 102) i_MO_early_99 rfl fd_MO_132 sg_50 rfl (xs_n rfl ?_)
                refine xs_iastore (q := 103) i_MO_early_102 rfl sg_63 (by show 0 ≤ M 50 15 ∧ M 50 15 < 200; omega) (xs_n rfl ?_)
                refine xs_aload_n (q := 104) i_MO_early_103 rfl rfl (xs_n rfl ?_)
                refine xs_dupr (q := 105) i_MO_early_104 rfl (xs_n rfl ?_)
                refine xs_geti (q := 108) i_MO_early_105 rfl fd_MO_204 sg_50 rfl (xs_n rfl ?_)
                refine xs_iconst (q := 109) i_MO_early_108 rfl (xs_n rfl ?_)
                refine xs_iadd (q := 110) i_MO_early_109 rfl (xs_n rfl ?_)
                refine xs_puti (q := 113) i_MO_early_110 rfl fd_MO_204 sg_50 rfl (xs_n rfl ?_)
                refine xs_aload_n (q := 114) i_MO_early_113 rfl rfl (xs_n rfl ?_)
                refine xs_iload_n (q := 115) i_MO_early_114 rfl rfl (xs_n rfl ?_)
                refine xs_iload_n (q := 116) i_MO_early_115 rfl rfl (xs_n rfl ?_)
                refine xs_cv (q := 119) (av := [_, _, _]) (rest := []) i_MO_early_116 rfl (e_MO_early_116) ⟨rfl, rfl⟩ rfl rfl ?_
                rw [am_V_iff]
                refine ⟨⟨_, sg_50⟩, ⟨rfl, by have hb : (0 ≤ t ∧ t ≤ M 50 1 - 1) := am_ite1 h13; omega, h2, by have hb : (0 ≤ t ∧ t ≤ M 50 1 - 1) := am_ite1 h13; simp only [am_up]; simp; exact h7 _ (by omega)⟩, ?_⟩
                refine xs_r0 rfl (xs_n rfl ?_)
                refine xs_ret i_MO_early_119 ?_
                have ec : mo_ec M t k = 0 := by unfold mo_ec; rw [if_pos (show (0 ≤ t ∧ t ≤ M 50 1 - 1) ∧ (1 ≤ k ∧ k ≤ M 53 t.toNat) from ⟨am_ite1 h13, am_ite1 h30⟩), if_neg (fun q => q.elim h41 h51)]
                exact xs_fin rfl (by simp only [g_MO_early]; rw [if_pos ec]; try rfl) trivial
              · exact absurd h66 (by rw [am_up_s]; decide)
            · refine xs_iconst (q := 55) i_MO_early_54 rfl (xs_n rfl ?_)
              refine xs_goto (q := 59) i_MO_early_55 rfl (xs_n rfl ?_)
              refine xs_puti (q := 62) i_MO_early_59 rfl fd_MO_92 sg_50 rfl (xs_n rfl ?_)
              refine xs_aload_n (q := 63) i_MO_early_62 rfl rfl (xs_n rfl ?_)
              refine xs_geti (q := 66) i_MO_early_63 rfl fd_MO_92 sg_50 rfl (xs_n rfl ?_)
              refine xs_if_le (q := 70) (r := 69) i_MO_early_66 rfl rfl (by rw [am_up_s]; unfold am_R; omega) (fun h66 => (xs_n rfl ?_)) (fun h66 => (xs_n rfl ?_))
              · exact absurd h66 (by rw [am_up_s]; decide)
              · refine xs_ret i_MO_early_69 ?_
                have ec : mo_ec M t k = 2 := by unfold mo_ec; rw [if_pos (show (0 ≤ t ∧ t ≤ M 50 1 - 1) ∧ (1 ≤ k ∧ k ≤ M 53 t.toNat) from ⟨am_ite1 h13, am_ite1 h30⟩), if_pos (Or.inr h51)]
                exact xs_fin rfl (by simp only [g_MO_early]; rw [if_neg (by rw [ec]; decide), ec]; try rfl) trivial
        · refine xs_iconst (q := 34) i_MO_early_33 rfl (xs_n rfl ?_)
          refine xs_goto (q := 59) i_MO_early_34 rfl (xs_n rfl ?_)
          refine xs_puti (q := 62) i_MO_early_59 rfl fd_MO_92 sg_50 rfl (xs_n rfl ?_)
          refine xs_aload_n (q := 63) i_MO_early_62 rfl rfl (xs_n rfl ?_)
          refine xs_geti (q := 66) i_MO_early_63 rfl fd_MO_92 sg_50 rfl (xs_n rfl ?_)
          refine xs_if_le (q := 70) (r := 69) i_MO_early_66 rfl rfl (by rw [am_up_s]; unfold am_R; omega) (fun h66 => (xs_n rfl ?_)) (fun h66 => (xs_n rfl ?_))
          · exact absurd h66 (by rw [am_up_s]; decide)
          · refine xs_ret i_MO_early_69 ?_
            have ec : mo_ec M t k = 1 := by unfold mo_ec; rw [if_neg (show ¬ ((0 ≤ t ∧ t ≤ M 50 1 - 1) ∧ (1 ≤ k ∧ k ≤ M 53 t.toNat)) from fun q => (show ¬ (1 ≤ k ∧ k ≤ M 53 t.toNat) from am_ite0 h30) q.2)]
            exact xs_fin rfl (by simp only [g_MO_early]; rw [if_neg (by rw [ec]; decide), ec]; try rfl) trivial
    · exact h.elim
def mo_z0 (M : am_M) : am_M := am_up (am_up (am_up (am_up (am_up (am_up M 50 0 0) 50 1 0) 50 7 0) 50 10 0) 50 11 0) 50 15 0
def mo_z1 (n : Nat) (M : am_M) : am_M := am_fill 57 n 60 (am_fill 56 n 1 M)
theorem mo_z1_0 (M : am_M) : mo_z1 0 M = M := by simp [mo_z1, am_fill_0]
theorem mo_z1_s (n : Nat) (M : am_M) : am_up (am_up (mo_z1 n M) 56 n 1) 57 n 60 = mo_z1 (n + 1) M := by
  funext p q
  simp only [mo_z1, am_fill, am_up]
  (repeat' split) <;> (first | rfl | omega)
def mo_rs (M : am_M) : am_M := am_up (am_up (am_up (g_MO_begin [.inr (.inl 50), .inl 0] (mo_z1 4 (mo_z0 M))) 50 43 0) 50 44 0) 50 45 0
def P_MO_reset : am_P := fun av M => match av with
  | [.inr (.inl i)] => i = 50
  | _ => False
def f_MO_reset : am_Fr := fun av M => match av with
  | [.inr (.inl i)] => none
  | _ => none
def g_MO_reset : am_Fm := fun av M => match av with
  | [.inr (.inl i)] => mo_rs M
  | _ => M
def ct_MO_reset : am_T := fun pc => if pc = 60 then some (2, am_ctV vw_S 11 P_MO_begin (am_po f_MO_begin g_MO_begin)) else none
theorem e_MO_reset_60 : ct_MO_reset 60 = some (2, am_ctV vw_S 11 P_MO_begin (am_po f_MO_begin g_MO_begin)) := rfl
theorem ct_MO_reset_ok (l : Launch) : am_CC b_MO_reset 2 w_MO_reset y_MO_reset.cls l r_MO_reset ct_MO_reset := by
  intro p e s m args below meth c H0 A D G ad Q S hK hN hA pc q ct h
  have hts := S.2.2.2.2
  unfold ct_MO_reset at h
  split at h
  · rename_i hpc
    subst hpc; cases h
    exact am_callV S vw_N_ok hK hN hA ⟨Nat.zero_le _, Nat.zero_le _⟩ (m_MO_begin l) (s_MO_128 hts am_vW hN ⟨by decide, by decide⟩) (by rfl) d_MO_reset_60
  cases h
def inv_MO_reset : List am_V → am_M → Nat → am_K := fun av M μ pc ls st M2 => match av with
  | [.inr (.inl i)] => (pc = 0 ∧ ls = am_l0 [.inr (.inl i)] 2 ∧ st = [] ∧ M = M2 ∧ μ = 100000) ∨ (∃ t : Nat, pc = 32 ∧ ls = [some (.inr (.inl i)), some (.inl (t : Int))] ∧ st = [] ∧ M2 = mo_z1 t (mo_z0 M) ∧ t ≤ 4 ∧ μ = 10 - t)
  | _ => False
theorem m_MO_reset (l : Launch) : am_MF l y_MO_reset w_MO_reset r_MO_reset P_MO_reset f_MO_reset g_MO_reset := by
  refine am_mkL (fun pc => pc == 32) i_MO_reset_ok fd_MO_ok (ct_MO_reset_ok l) (plainFor_of_name (by decide +kernel)) (by decide) ?_ 60 inv_MO_reset ?_ ?_
  · intro av M h
    unfold P_MO_reset at h
    split at h
    · exact ⟨Nat.le_of_ble_eq_true rfl, rfl⟩
    · exact h.elim
  · intro av M h
    unfold P_MO_reset at h
    split at h
    · exact ⟨_, Or.inl ⟨rfl, rfl, rfl, rfl, rfl⟩⟩
    · exact h.elim
  · intro av M h μ pc ls st M2 hi
    unfold P_MO_reset at h
    split at h
    · rename_i i
      subst h
      rcases hi with ⟨rfl, rfl, rfl, rfl, rfl⟩ | ⟨t, rfl, rfl, rfl, rfl, ht, rfl⟩
      · skip
        refine xs_aload_n (q := 1) i_MO_reset_0 rfl rfl (xs_n rfl ?_)
        refine xs_iconst (q := 2) i_MO_reset_1 rfl (xs_n rfl ?_)
        refine xs_puti (q := 5) i_MO_reset_2 rfl fd_MO_92 sg_50 rfl (xs_n rfl ?_)
        refine xs_aload_n (q := 6) i_MO_reset_5 rfl rfl (xs_n rfl ?_)
        refine xs_iconst (q := 7) i_MO_reset_6 rfl (xs_n rfl ?_)
        refine xs_puti (q := 10) i_MO_reset_7 rfl fd_MO_96 sg_50 rfl (xs_n rfl ?_)
        refine xs_aload_n (q := 11) i_MO_reset_10 rfl rfl (xs_n rfl ?_)
        refine xs_iconst (q := 12) i_MO_reset_11 rfl (xs_n rfl ?_)
        refine xs_puti (q := 15) i_MO_reset_12 rfl fd_MO_125 sg_50 rfl (xs_n rfl ?_)
        refine xs_aload_n (q := 16) i_MO_reset_15 rfl rfl (xs_n rfl ?_)
        refine xs_iconst (q := 17) i_MO_reset_16 rfl (xs_n rfl ?_)
        refine xs_putz (q := 20) i_MO_reset_17 rfl fd_MO_111 sg_50 rfl (Or.inl rfl) (xs_n rfl ?_)
        refine xs_aload_n (q := 21) i_MO_reset_20 rfl rfl (xs_n rfl ?_)
        refine xs_iconst (q := 22) i_MO_reset_21 rfl (xs_n rfl ?_)
        refine xs_puti (q := 25) i_MO_reset_22 rfl fd_MO_185 sg_50 rfl (xs_n rfl ?_)
        refine xs_aload_n (q := 26) i_MO_reset_25 rfl rfl (xs_n rfl ?_)
        refine xs_iconst (q := 27) i_MO_reset_26 rfl (xs_n rfl ?_)
        refine xs_puti (q := 30) i_MO_reset_27 rfl fd_MO_204 sg_50 rfl (xs_n rfl ?_)
        refine xs_iconst (q := 31) i_MO_reset_30 rfl (xs_n rfl ?_)
        refine xs_istore_n (q := 32) (ls2 := [_, _]) i_MO_reset_31 rfl rfl rfl (xs_z rfl ?_)
        exact ⟨10, by omega, Or.inr ⟨0, rfl, rfl, rfl, (mo_z1_0 _).symm, by omega, rfl⟩⟩
      · skip
        refine xs_iload_n (q := 33) i_MO_reset_32 rfl rfl (xs_n rfl ?_)
        refine xs_iconst (q := 34) i_MO_reset_33 rfl (xs_n rfl ?_)
        refine xs_ic_ge (q := 58) (r := 37) i_MO_reset_34 rfl rfl ⟨by unfold am_R; omega, by unfold am_R; omega⟩ (fun h34 => (xs_n rfl ?_)) (fun h34 => (xs_n rfl ?_))
        · refine xs_aload_n (q := 59) i_MO_reset_58 rfl rfl (xs_n rfl ?_)
          refine xs_iconst (q := 60) i_MO_reset_59 rfl (xs_n rfl ?_)
          refine xs_cv (q := 63) (av := [_, _]) (rest := []) i_MO_reset_60 rfl (e_MO_reset_60) ⟨rfl, rfl⟩ rfl rfl ?_
          rw [am_V_iff]
          refine ⟨⟨_, sg_50⟩, ⟨rfl, by omega⟩, ?_⟩
          refine xs_r0 rfl (xs_n rfl ?_)
          refine xs_aload_n (q := 64) i_MO_reset_63 rfl rfl (xs_n rfl ?_)
          refine xs_iconst (q := 65) i_MO_reset_64 rfl (xs_n rfl ?_)
          refine xs_puti (q := 68) i_MO_reset_65 rfl fd_MO_226 sg_50 rfl (xs_n rfl ?_)
          refine xs_aload_n (q := 69) i_MO_reset_68 rfl rfl (xs_n rfl ?_)
          refine xs_iconst (q := 70) i_MO_reset_69 rfl (xs_n rfl ?_)
          refine xs_puti (q := 73) i_MO_reset_70 rfl fd_MO_229 sg_50 rfl (xs_n rfl ?_)
          refine xs_aload_n (q := 74) i_MO_reset_73 rfl rfl (xs_n rfl ?_)
          refine xs_iconst (q := 75) i_MO_reset_74 rfl (xs_n rfl ?_)
          refine xs_puti (q := 78) i_MO_reset_75 rfl fd_MO_232 sg_50 rfl (xs_n rfl ?_)
          refine xs_ret i_MO_reset_78 ?_
          obtain rfl : t = 4 := by omega
          exact xs_fin rfl rfl trivial
        · refine xs_aload_n (q := 38) i_MO_reset_37 rfl rfl (xs_n rfl ?_)
          refine xs_getr (q := 41) i_MO_reset_38 rfl fd_MO_25 sg_50 rfl (xs_n rfl ?_)
          refine xs_iload_n (q := 42) i_MO_reset_41 rfl rfl (xs_n rfl ?_)
          refine xs_iconst (q := 43) i_MO_reset_42 rfl (xs_n rfl ?_)
          refine xs_iastore (q := 44) i_MO_reset_43 rfl sg_56 (by omega) (xs_n rfl ?_)
          refine xs_aload_n (q := 45) i_MO_reset_44 rfl rfl (xs_n rfl ?_)
          refine xs_getr (q := 48) i_MO_reset_45 rfl fd_MO_28 sg_50 rfl (xs_n rfl ?_)
          refine xs_iload_n (q := 49) i_MO_reset_48 rfl rfl (xs_n rfl ?_)
          refine xs_bipush (q := 51) i_MO_reset_49 rfl (by decide) (xs_n rfl ?_)
          refine xs_iastore (q := 52) i_MO_reset_51 rfl sg_57 (by omega) (xs_n rfl ?_)
          refine xs_iinc (q := 55) (ls2 := [_, _]) i_MO_reset_52 rfl rfl rfl (xs_n rfl ?_)
          refine xs_goto (q := 32) i_MO_reset_55 rfl (xs_z rfl ?_)
          exact ⟨10 - (t + 1), by omega, Or.inr ⟨t + 1, rfl, rfl, rfl, by simp only [Int.toNat_natCast]; exact mo_z1_s _ _, by omega, rfl⟩⟩
    · exact h.elim
