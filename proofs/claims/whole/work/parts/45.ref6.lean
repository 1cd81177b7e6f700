/-! contract: the reference, tickOne (wip/whole/p45.py) -/
def mo_t0 (M : am_M) : am_M := g_MO_comeBack [.inr (.inl 50)] M
def mo_t1 (M : am_M) : am_M := g_MO_getReady [.inr (.inl 50)] (mo_t0 M)
def mo_ga (M : am_M) : Int := if M 50 20 = 3 then (if 0 < mo_sn M 1 (M 50 1).toNat then 1 else 0) else (if M 50 20 ≠ 0 ∧ 0 < M 50 24 then 1 else 0)
def mo_s1 (M : am_M) : am_M := am_up M 68 (mo_fj M).toNat (M 68 (mo_fj M).toNat - 1)
def mo_s2 (M : am_M) : am_M := if mo_s1 M 68 (mo_fj M).toNat = 0 then am_up (mo_s1 M) 69 (mo_fj M).toNat (mo_s1 M 50 19 + 1) else mo_s1 M
def mo_sy (M : am_M) : am_M := am_up (mo_s2 M) 50 24 (mo_s2 M 50 24 - 1)
def mo_s3 (M : am_M) : am_M := if mo_ga M = 1 ∧ mo_s2 M 50 20 ≠ 3 then am_up (mo_sy M) 67 (mo_sy M 50 19).toNat (mo_sy M 67 (mo_sy M 50 19).toNat + 1) else mo_s2 M
def mo_rx (M : am_M) : am_M := am_up M 64 (mo_rt M).toNat (M 64 (mo_rt M).toNat - 1)
def mo_fi (r : Int) (X : am_M) : am_M := am_up (am_up X 70 (X 50 19).toNat r) 50 19 (am_up X 70 (X 50 19).toNat r 50 19 + 1)
/-- who runs, and the memory without trace and moment -/
def mo_wh (M : am_M) : Int := if mo_fj M ≠ -1 ∧ (mo_ga M = 1 ∨ mo_rt M = -1) then -1 - mo_fj M else if mo_rt M = -1 then 0 else mo_rt M + 1
def mo_wm (M : am_M) : am_M := if mo_fj M ≠ -1 ∧ (mo_ga M = 1 ∨ mo_rt M = -1) then mo_s3 M else if mo_rt M = -1 then M else mo_rx M
theorem mo_fj_b {M : am_M} (h : 0 ≤ M 50 26) : mo_fj M = -1 ∨ (0 ≤ mo_fj M ∧ mo_fj M < M 50 26) := by
  unfold mo_fj
  by_cases c1 : mo_fh M < (M 50 26).toNat
  · rw [if_pos c1]; omega
  · rw [if_neg c1]
    by_cases c2 : mo_fs M < (M 50 26).toNat
    · rw [if_pos c2]; omega
    · rw [if_neg c2]; omega
theorem mo_rt_b {M : am_M} (h : mo_ok M) : mo_rt M = -1 ∨ (0 ≤ mo_rt M ∧ mo_rt M < M 50 1) := by
  unfold mo_rt
  by_cases c : (mo_rk M : Int) < M 50 1
  · rw [if_pos c]
    have := (h.2 _ c).1
    omega
  · rw [if_neg c]; omega
theorem mo_ga_01 (M : am_M) : mo_ga M = 0 ∨ mo_ga M = 1 := by
  unfold mo_ga
  by_cases c : M 50 20 = 3
  · rw [if_pos c]
    by_cases c2 : 0 < mo_sn M 1 (M 50 1).toNat
    · rw [if_pos c2]; exact Or.inr rfl
    · rw [if_neg c2]; exact Or.inl rfl
  · rw [if_neg c]
    by_cases c2 : M 50 20 ≠ 0 ∧ 0 < M 50 24
    · rw [if_pos c2]; exact Or.inr rfl
    · rw [if_neg c2]; exact Or.inl rfl
theorem mo_s2_k {M : am_M} {k j : Nat} (h : k ≠ 68) (h2 : k ≠ 69) : mo_s2 M k j = M k j := by
  unfold mo_s2
  by_cases c : mo_s1 M 68 (mo_fj M).toNat = 0
  · rw [if_pos c, am_up_k _ _ h2]; exact am_up_k _ _ h
  · rw [if_neg c]; exact am_up_k _ _ h
def P_MO_tickOne : am_P := fun av M => match av with
  | [.inr (.inl i)] => i = 50 ∧ P_MO_comeBack [.inr (.inl 50)] M ∧ P_MO_getReady [.inr (.inl 50)] (mo_t0 M) ∧ P_MO_firstJob [.inr (.inl 50)] (mo_t1 M) ∧ P_MO_readyTask [.inr (.inl 50)] (mo_t1 M) ∧ P_MO_goesAhead [.inr (.inl 50)] (mo_t1 M) ∧ (0 ≤ mo_t1 M 50 19 ∧ mo_t1 M 50 19 ≤ 2000) ∧ ∀ j, j < 40 → -1000000 ≤ mo_t1 M 68 j ∧ mo_t1 M 68 j ≤ 1000000
  | _ => False
def f_MO_tickOne : am_Fr := fun av M => match av with
  | [.inr (.inl i)] => some (.inl (mo_wh (mo_t1 M)))
  | _ => none
def g_MO_tickOne : am_Fm := fun av M => match av with
  | [.inr (.inl i)] => mo_fi (mo_wh (mo_t1 M)) (mo_wm (mo_t1 M))
  | _ => M
def ct_MO_tickOne : am_T := fun pc => if pc = 1 then some (1, am_ctV vw_S 11 P_MO_comeBack (am_po f_MO_comeBack g_MO_comeBack)) else if pc = 5 then some (1, am_ctV vw_S 11 P_MO_getReady (am_po f_MO_getReady g_MO_getReady)) else if pc = 9 then some (1, am_ctV vw_S 11 P_MO_firstJob (am_po f_MO_firstJob g_MO_firstJob)) else if pc = 14 then some (1, am_ctV vw_S 11 P_MO_readyTask (am_po f_MO_readyTask g_MO_readyTask)) else if pc = 24 then some (1, am_ctV vw_S 11 P_MO_goesAhead (am_po f_MO_goesAhead g_MO_goesAhead)) else none
theorem e_MO_tickOne_1 : ct_MO_tickOne 1 = some (1, am_ctV vw_S 11 P_MO_comeBack (am_po f_MO_comeBack g_MO_comeBack)) := rfl
theorem e_MO_tickOne_5 : ct_MO_tickOne 5 = some (1, am_ctV vw_S 11 P_MO_getReady (am_po f_MO_getReady g_MO_getReady)) := rfl
theorem e_MO_tickOne_9 : ct_MO_tickOne 9 = some (1, am_ctV vw_S 11 P_MO_firstJob (am_po f_MO_firstJob g_MO_firstJob)) := rfl
theorem e_MO_tickOne_14 : ct_MO_tickOne 14 = some (1, am_ctV vw_S 11 P_MO_readyTask (am_po f_MO_readyTask g_MO_readyTask)) := rfl
theorem e_MO_tickOne_24 : ct_MO_tickOne 24 = some (1, am_ctV vw_S 11 P_MO_goesAhead (am_po f_MO_goesAhead g_MO_goesAhead)) := rfl
theorem ct_MO_tickOne_ok (l : Launch) : am_CC b_MO_tickOne 5 w_MO_tickOne y_MO_tickOne.cls l r_MO_tickOne ct_MO_tickOne := by
  intro p e s m args below meth c H0 A D G ad Q S hK hN hA pc q ct h
  have hts := S.2.2.2.2
  unfold ct_MO_tickOne at h
  split at h
  · rename_i hpc
    subst hpc; cases h
    exact am_callV S vw_N_ok hK hN hA ⟨Nat.zero_le _, Nat.zero_le _⟩ (m_MO_comeBack l) (s_MO_166 hts am_vW hN ⟨by decide, by decide⟩) (by rfl) d_MO_tickOne_1
  split at h
  · rename_i hpc
    subst hpc; cases h
    exact am_callV S vw_N_ok hK hN hA ⟨Nat.zero_le _, Nat.zero_le _⟩ (m_MO_getReady l) (s_MO_169 hts am_vW hN ⟨by decide, by decide⟩) (by rfl) d_MO_tickOne_5
  split at h
  · rename_i hpc
    subst hpc; cases h
    exact am_callV S vw_N_ok hK hN hA ⟨Nat.zero_le _, Nat.zero_le _⟩ (m_MO_firstJob l) (s_MO_172 hts am_vW hN ⟨by decide, by decide⟩) (by rfl) d_MO_tickOne_9
  split at h
  · rename_i hpc
    subst hpc; cases h
    exact am_callV S vw_N_ok hK hN hA ⟨Nat.zero_le _, Nat.zero_le _⟩ (m_MO_readyTask l) (s_MO_175 hts am_vW hN ⟨by decide, by decide⟩) (by rfl) d_MO_tickOne_14
  split at h
  · rename_i hpc
    subst hpc; cases h
    exact am_callV S vw_N_ok hK hN hA ⟨Nat.zero_le _, Nat.zero_le _⟩ (m_MO_goesAhead l) (s_MO_178 hts am_vW hN ⟨by decide, by decide⟩) (by rfl) d_MO_tickOne_24
  cases h
theorem m_MO_tickOne (l : Launch) : am_MF l y_MO_tickOne w_MO_tickOne r_MO_tickOne P_MO_tickOne f_MO_tickOne g_MO_tickOne := by
  refine am_mk0 i_MO_tickOne_ok fd_MO_ok (ct_MO_tickOne_ok l) (plainFor_of_name (by decide +kernel)) (by decide) ?_ 110 ?_
  · intro av M h
    unfold P_MO_tickOne at h
    split at h
    · exact ⟨Nat.le_of_ble_eq_true rfl, rfl⟩
    · exact h.elim
  · intro av M Z h
    unfold P_MO_tickOne at h
    split at h
    · rename_i i
      obtain ⟨rfl, p1, p2, p3, p4, p5, p6, p7⟩ := h
      have hj := mo_fj_b (M := mo_t1 M) p3.2.1.1
      have hkn := p3.2.1.2
      have hr := mo_rt_b (M := mo_t1 M) p4.2.1
      have htk := p4.2.1.1
      have hga := mo_ga_01 (mo_t1 M)
      have hby := p5.2.2.1
      refine xs_aload_n (q := 1) i_MO_tickOne_0 rfl rfl (xs_n rfl ?_)
      refine xs_cv (q := 4) (av := [_]) (rest := []) i_MO_tickOne_1 rfl (e_MO_tickOne_1) ⟨rfl, rfl⟩ rfl rfl ?_
      rw [am_V_iff]
      refine ⟨⟨_, sg_50⟩, p1, ?_⟩
      rw [show g_MO_comeBack [.inr (.inl 50)] M = mo_t0 M from rfl]
      refine xs_r0 rfl (xs_n rfl ?_)
      refine xs_aload_n (q := 5) i_MO_tickOne_4 rfl rfl (xs_n rfl ?_)
      refine xs_cv (q := 8) (av := [_]) (rest := []) i_MO_tickOne_5 rfl (e_MO_tickOne_5) ⟨rfl, rfl⟩ rfl rfl ?_
      rw [am_V_iff]
      refine ⟨⟨_, sg_50⟩, p2, ?_⟩
      rw [show g_MO_getReady [.inr (.inl 50)] (mo_t0 M) = mo_t1 M from rfl]
      refine xs_r0 rfl (xs_n rfl ?_)
      refine xs_aload_n (q := 9) i_MO_tickOne_8 rfl rfl (xs_n rfl ?_)
      refine xs_cv (q := 12) (av := [_]) (rest := []) i_MO_tickOne_9 rfl (e_MO_tickOne_9) ⟨rfl, rfl⟩ rfl rfl ?_
      rw [am_V_iff]
      refine ⟨⟨_, sg_50⟩, p3, ?_⟩
      dsimp only [g_MO_firstJob, g_id]
      refine xs_r1 rfl (xs_n rfl ?_)
      refine xs_istore_n (q := 13) (ls2 := [_, _, _, _, _]) i_MO_tickOne_12 rfl rfl rfl (xs_n rfl ?_)
      refine xs_aload_n (q := 14) i_MO_tickOne_13 rfl rfl (xs_n rfl ?_)
      refine xs_cv (q := 17) (av := [_]) (rest := []) i_MO_tickOne_14 rfl (e_MO_tickOne_14) ⟨rfl, rfl⟩ rfl rfl ?_
      rw [am_V_iff]
      refine ⟨⟨_, sg_50⟩, p4, ?_⟩
      dsimp only [g_MO_readyTask, g_id]
      refine xs_r1 rfl (xs_n rfl ?_)
      refine xs_istore_n (q := 18) (ls2 := [_, _, _, _, _]) i_MO_tickOne_17 rfl rfl rfl (xs_n rfl ?_)
      refine xs_iload_n (q := 19) i_MO_tickOne_18 rfl rfl (xs_n rfl ?_)
      refine xs_iconst (q := 20) i_MO_tickOne_19 rfl (xs_n rfl ?_)
      refine xs_ic_eq (q := 34) (r := 23) i_MO_tickOne_20 rfl rfl ⟨by show am_R (mo_fj (mo_t1 M)); unfold am_R; omega, by unfold am_R; omega⟩ (fun h20 => (xs_n rfl ?_)) (fun h20 => (xs_n rfl ?_))
      · refine xs_iconst (q := 35) i_MO_tickOne_34 rfl (xs_n rfl ?_)
        refine xs_istore_n (q := 36) (ls2 := [_, _, _, _, _]) i_MO_tickOne_35 rfl rfl rfl (xs_n rfl ?_)
        refine xs_iconst (q := 37) i_MO_tickOne_36 rfl (xs_n rfl ?_)
        refine xs_istore (q := 39) (ls2 := [_, _, _, _, _]) i_MO_tickOne_37 rfl rfl rfl (xs_n rfl ?_)
        refine xs_iload_n (q := 40) i_MO_tickOne_39 rfl rfl (xs_n rfl ?_)
        refine xs_iconst (q := 41) i_MO_tickOne_40 rfl (xs_n rfl ?_)
        refine xs_ic_eq (q := 127) (r := 44) i_MO_tickOne_41 rfl rfl ⟨by show am_R (mo_fj (mo_t1 M)); unfold am_R; omega, by unfold am_R; omega⟩ (fun h41 => (xs_n rfl ?_)) (fun h41 => (xs_n rfl ?_))
        · refine xs_iload_n (q := 128) i_MO_tickOne_127 rfl rfl (xs_n rfl ?_)
          refine xs_iconst (q := 129) i_MO_tickOne_128 rfl (xs_n rfl ?_)
          refine xs_ic_eq (q := 147) (r := 132) i_MO_tickOne_129 rfl rfl ⟨by show am_R (mo_rt (mo_t1 M)); unfold am_R; omega, by unfold am_R; omega⟩ (fun h129 => (xs_n rfl ?_)) (fun h129 => (xs_n rfl ?_))
          · refine xs_aload_n (q := 148) i_MO_tickOne_147 rfl rfl (xs_n rfl ?_)
            refine xs_getr (q := 151) i_MO_tickOne_148 rfl fd_MO_68 sg_50 rfl (xs_n rfl ?_)
            refine xs_aload_n (q := 152) i_MO_tickOne_151 rfl rfl (xs_n rfl ?_)
            refine xs_geti (q := 155) i_MO_tickOne_152 rfl fd_MO_132 sg_50 rfl (xs_n rfl ?_)
            refine xs_iload (q := 157) i_MO_tickOne_155 rfl rfl (xs_n rfl ?_)
            refine xs_iastore (q := 158) i_MO_tickOne_157 rfl sg_70 (by simp [am_up]; omega) (xs_n rfl ?_)
            refine xs_aload_n (q := 159) i_MO_tickOne_158 rfl rfl (xs_n rfl ?_)
            refine xs_dupr (q := 160) i_MO_tickOne_159 rfl (xs_n rfl ?_)
            refine xs_geti (q := 163) i_MO_tickOne_160 rfl fd_MO_132 sg_50 rfl (xs_n rfl ?_)
            refine xs_iconst (q := 164) i_MO_tickOne_163 rfl (xs_n rfl ?_)
            refine xs_iadd (q := 165) i_MO_tickOne_164 rfl (xs_n rfl ?_)
            refine xs_puti (q := 168) i_MO_tickOne_165 rfl fd_MO_132 sg_50 rfl (xs_n rfl ?_)
            refine xs_iload (q := 170) i_MO_tickOne_168 rfl rfl (xs_n rfl ?_)
            refine xs_iret i_MO_tickOne_170 ?_
            exact xs_fin (by simp only [f_MO_tickOne, mo_wh]; rw [if_neg (show ¬ (mo_fj (mo_t1 M) ≠ -1 ∧ (mo_ga (mo_t1 M) = 1 ∨ mo_rt (mo_t1 M) = -1)) from fun q => q.1 h20), if_pos (show mo_rt (mo_t1 M) = -1 from h129)]) (by simp only [g_MO_tickOne, mo_wh, mo_wm]; rw [if_neg (show ¬ (mo_fj (mo_t1 M) ≠ -1 ∧ (mo_ga (mo_t1 M) = 1 ∨ mo_rt (mo_t1 M) = -1)) from fun q => q.1 h20), if_neg (show ¬ (mo_fj (mo_t1 M) ≠ -1 ∧ (mo_ga (mo_t1 M) = 1 ∨ mo_rt (mo_t1 M) = -1)) from fun q => q.1 h20), if_pos (show mo_rt (mo_t1 M) = -1 from h129), if_pos (show mo_rt (mo_t1 M) = -1 from h129)]; rfl) trivial
          · refine xs_iload_n (q := 133) i_MO_tickOne_132 rfl rfl (xs_n rfl ?_)
            refine xs_iconst (q := 134) i_MO_tickOne_133 rfl (xs_n rfl ?_)
            refine xs_iadd (q := 135) i_MO_tickOne_134 rfl (xs_n rfl ?_)
            refine xs_istore (q := 137) (ls2 := [_, _, _, _, _]) i_MO_tickOne_135 rfl rfl rfl (xs_n rfl ?_)
            refine xs_aload_n (q := 138) i_MO_tickOne_137 rfl rfl (xs_n rfl ?_)
            refine xs_getr (q := 141) i_MO_tickOne_138 rfl fd_MO_50 sg_50 rfl (xs_n rfl ?_)
            refine xs_iload_n (q := 142) i_MO_tickOne_141 rfl rfl (xs_n rfl ?_)
            refine xs_dup2 (q := 143) i_MO_tickOne_142 rfl (xs_n rfl ?_)
            refine xs_iaload (q := 144) i_MO_tickOne_143 rfl sg_64 rfl (by have h129b : mo_rt (mo_t1 M) ≠ -1 := h129; show (0 ≤ mo_rt (mo_t1 M) ∧ mo_rt (mo_t1 M) < 5); omega) (xs_n rfl ?_)
            refine xs_iconst (q := 145) i_MO_tickOne_144 rfl (xs_n rfl ?_)
            refine xs_isub (q := 146) i_MO_tickOne_145 rfl (xs_n rfl ?_)
            refine xs_iastore (q := 147) i_MO_tickOne_146 rfl sg_64 (by have h129b : mo_rt (mo_t1 M) ≠ -1 := h129; show (0 ≤ mo_rt (mo_t1 M) ∧ mo_rt (mo_t1 M) < 5); omega) (xs_n rfl ?_)
            refine xs_aload_n (q := 148) i_MO_tickOne_147 rfl rfl (xs_n rfl ?_)
            refine xs_getr (q := 151) i_MO_tickOne_148 rfl fd_MO_68 sg_50 rfl (xs_n rfl ?_)
            refine xs_aload_n (q := 152) i_MO_tickOne_151 rfl rfl (xs_n rfl ?_)
            refine xs_geti (q := 155) i_MO_tickOne_152 rfl fd_MO_132 sg_50 rfl (xs_n rfl ?_)
            refine xs_iload (q := 157) i_MO_tickOne_155 rfl rfl (xs_n rfl ?_)
            refine xs_iastore (q := 158) i_MO_tickOne_157 rfl sg_70 (by simp [am_up]; omega) (xs_n rfl ?_)
            refine xs_aload_n (q := 159) i_MO_tickOne_158 rfl rfl (xs_n rfl ?_)
            refine xs_dupr (q := 160) i_MO_tickOne_159 rfl (xs_n rfl ?_)
            refine xs_geti (q := 163) i_MO_tickOne_160 rfl fd_MO_132 sg_50 rfl (xs_n rfl ?_)
            refine xs_iconst (q := 164) i_MO_tickOne_163 rfl (xs_n rfl ?_)
            refine xs_iadd (q := 165) i_MO_tickOne_164 rfl (xs_n rfl ?_)
            refine xs_puti (q := 168) i_MO_tickOne_165 rfl fd_MO_132 sg_50 rfl (xs_n rfl ?_)
            refine xs_iload (q := 170) i_MO_tickOne_168 rfl rfl (xs_n rfl ?_)
            refine xs_iret i_MO_tickOne_170 ?_
            exact xs_fin (by simp only [f_MO_tickOne, mo_wh]; rw [if_neg (show ¬ (mo_fj (mo_t1 M) ≠ -1 ∧ (mo_ga (mo_t1 M) = 1 ∨ mo_rt (mo_t1 M) = -1)) from fun q => q.1 h20), if_neg (show ¬ mo_rt (mo_t1 M) = -1 from h129)]) (by simp only [g_MO_tickOne, mo_wh, mo_wm]; rw [if_neg (show ¬ (mo_fj (mo_t1 M) ≠ -1 ∧ (mo_ga (mo_t1 M) = 1 ∨ mo_rt (mo_t1 M) = -1)) from fun q => q.1 h20), if_neg (show ¬ (mo_fj (mo_t1 M) ≠ -1 ∧ (mo_ga (mo_t1 M) = 1 ∨ mo_rt (mo_t1 M) = -1)) from fun q => q.1 h20), if_neg (show ¬ mo_rt (mo_t1 M) = -1 from h129), if_neg (show ¬ mo_rt (mo_t1 M) = -1 from h129)]; rfl) trivial
        · first | exact absurd rfl h41 | exact absurd h41 (by decide) | exact absurd h20 h41 | exact absurd h41 h20 | exact absurd h129 h50
      · refine xs_aload_n (q := 24) i_MO_tickOne_23 rfl rfl (xs_n rfl ?_)
        refine xs_cv (q := 27) (av := [_]) (rest := []) i_MO_tickOne_24 rfl (e_MO_tickOne_24) ⟨rfl, rfl⟩ rfl rfl ?_
        rw [am_V_iff]
        refine ⟨⟨_, sg_50⟩, p5, ?_⟩
        dsimp only [g_MO_goesAhead, g_id]
        refine xs_r1 rfl (xs_n rfl ?_)
        refine xs_if_eq (q := 34) (r := 30) i_MO_tickOne_27 rfl rfl (by show am_R (mo_ga (mo_t1 M)); unfold am_R; omega) (fun h27 => (xs_n rfl ?_)) (fun h27 => (xs_n rfl ?_))
        · refine xs_iconst (q := 35) i_MO_tickOne_34 rfl (xs_n rfl ?_)
          refine xs_istore_n (q := 36) (ls2 := [_, _, _, _, _]) i_MO_tickOne_35 rfl rfl rfl (xs_n rfl ?_)
          refine xs_iconst (q := 37) i_MO_tickOne_36 rfl (xs_n rfl ?_)
          refine xs_istore (q := 39) (ls2 := [_, _, _, _, _]) i_MO_tickOne_37 rfl rfl rfl (xs_n rfl ?_)
          refine xs_iload_n (q := 40) i_MO_tickOne_39 rfl rfl (xs_n rfl ?_)
          refine xs_iconst (q := 41) i_MO_tickOne_40 rfl (xs_n rfl ?_)
          refine xs_ic_eq (q := 127) (r := 44) i_MO_tickOne_41 rfl rfl ⟨by show am_R (mo_fj (mo_t1 M)); unfold am_R; omega, by unfold am_R; omega⟩ (fun h41 => (xs_n rfl ?_)) (fun h41 => (xs_n rfl ?_))
          · first | exact absurd rfl h41 | exact absurd h41 (by decide) | exact absurd h20 h41 | exact absurd h41 h20 | exact absurd h129 h50
          · refine xs_iload_n (q := 45) i_MO_tickOne_44 rfl rfl (xs_n rfl ?_)
            refine xs_if_ne (q := 53) (r := 48) i_MO_tickOne_45 rfl rfl (by unfold am_R; omega) (fun h45 => (xs_n rfl ?_)) (fun h45 => (xs_n rfl ?_))
            · first | exact absurd rfl h45 | exact absurd h45 (by decide) | exact absurd h20 h41 | exact absurd h41 h20 | exact absurd h129 h50
            · refine xs_iload_n (q := 49) i_MO_tickOne_48 rfl rfl (xs_n rfl ?_)
              refine xs_iconst (q := 50) i_MO_tickOne_49 rfl (xs_n rfl ?_)
              refine xs_ic_ne (q := 127) (r := 53) i_MO_tickOne_50 rfl rfl ⟨by show am_R (mo_rt (mo_t1 M)); unfold am_R; omega, by unfold am_R; omega⟩ (fun h50 => (xs_n rfl ?_)) (fun h50 => (xs_n rfl ?_))
              · refine xs_iload_n (q := 128) i_MO_tickOne_127 rfl rfl (xs_n rfl ?_)
                refine xs_iconst (q := 129) i_MO_tickOne_128 rfl (xs_n rfl ?_)
                refine xs_ic_eq (q := 147) (r := 132) i_MO_tickOne_129 rfl rfl ⟨by show am_R (mo_rt (mo_t1 M)); unfold am_R; omega, by unfold am_R; omega⟩ (fun h129 => (xs_n rfl ?_)) (fun h129 => (xs_n rfl ?_))
                · first | exact absurd rfl h129 | exact absurd h129 (by decide) | exact absurd h20 h41 | exact absurd h41 h20 | exact absurd h129 h50
                · refine xs_iload_n (q := 133) i_MO_tickOne_132 rfl rfl (xs_n rfl ?_)
                  refine xs_iconst (q := 134) i_MO_tickOne_133 rfl (xs_n rfl ?_)
                  refine xs_iadd (q := 135) i_MO_tickOne_134 rfl (xs_n rfl ?_)
                  refine xs_istore (q := 137) (ls2 := [_, _, _, _, _]) i_MO_tickOne_135 rfl rfl rfl (xs_n rfl ?_)
                  refine xs_aload_n (q := 138) i_MO_tickOne_137 rfl rfl (xs_n rfl ?_)
                  refine xs_getr (q := 141) i_MO_tickOne_138 rfl fd_MO_50 sg_50 rfl (xs_n rfl ?_)
                  refine xs_iload_n (q := 142) i_MO_tickOne_141 rfl rfl (xs_n rfl ?_)
                  refine xs_dup2 (q := 143) i_MO_tickOne_142 rfl (xs_n rfl ?_)
                  refine xs_iaload (q := 144) i_MO_tickOne_143 rfl sg_64 rfl (by have h129b : mo_rt (mo_t1 M) ≠ -1 := h129; show (0 ≤ mo_rt (mo_t1 M) ∧ mo_rt (mo_t1 M) < 5); omega) (xs_n rfl ?_)
                  refine xs_iconst (q := 145) i_MO_tickOne_144 rfl (xs_n rfl ?_)
                  refine xs_isub (q := 146) i_MO_tickOne_145 rfl (xs_n rfl ?_)
                  refine xs_iastore (q := 147) i_MO_tickOne_146 rfl sg_64 (by have h129b : mo_rt (mo_t1 M) ≠ -1 := h129; show (0 ≤ mo_rt (mo_t1 M) ∧ mo_rt (mo_t1 M) < 5); omega) (xs_n rfl ?_)
                  refine xs_aload_n (q := 148) i_MO_tickOne_147 rfl rfl (xs_n rfl ?_)
                  refine xs_getr (q := 151) i_MO_tickOne_148 rfl fd_MO_68 sg_50 rfl (xs_n rfl ?_)
                  refine xs_aload_n (q := 152) i_MO_tickOne_151 rfl rfl (xs_n rfl ?_)
                  refine xs_geti (q := 155) i_MO_tickOne_152 rfl fd_MO_132 sg_50 rfl (xs_n rfl ?_)
                  refine xs_iload (q := 157) i_MO_tickOne_155 rfl rfl (xs_n rfl ?_)
                  refine xs_iastore (q := 158) i_MO_tickOne_157 rfl sg_70 (by simp [am_up]; omega) (xs_n rfl ?_)
                  refine xs_aload_n (q := 159) i_MO_tickOne_158 rfl rfl (xs_n rfl ?_)
                  refine xs_dupr (q := 160) i_MO_tickOne_159 rfl (xs_n rfl ?_)
                  refine xs_geti (q := 163) i_MO_tickOne_160 rfl fd_MO_132 sg_50 rfl (xs_n rfl ?_)
                  refine xs_iconst (q := 164) i_MO_tickOne_163 rfl (xs_n rfl ?_)
                  refine xs_iadd (q := 165) i_MO_tickOne_164 rfl (xs_n rfl ?_)
                  refine xs_puti (q := 168) i_MO_tickOne_165 rfl fd_MO_132 sg_50 rfl (xs_n rfl ?_)
                  refine xs_iload (q := 170) i_MO_tickOne_168 rfl rfl (xs_n rfl ?_)
                  refine xs_iret i_MO_tickOne_170 ?_
                  exact xs_fin (by simp only [f_MO_tickOne, mo_wh]; rw [if_neg (show ¬ (mo_fj (mo_t1 M) ≠ -1 ∧ (mo_ga (mo_t1 M) = 1 ∨ mo_rt (mo_t1 M) = -1)) from fun q => q.2.elim (fun e => by have h27b : mo_ga (mo_t1 M) = 0 := h27; omega) (fun e => h50 e)), if_neg (show ¬ mo_rt (mo_t1 M) = -1 from h129)]) (by simp only [g_MO_tickOne, mo_wh, mo_wm]; rw [if_neg (show ¬ (mo_fj (mo_t1 M) ≠ -1 ∧ (mo_ga (mo_t1 M) = 1 ∨ mo_rt (mo_t1 M) = -1)) from fun q => q.2.elim (fun e => by have h27b : mo_ga (mo_t1 M) = 0 := h27; omega) (fun e => h50 e)), if_neg (show ¬ (mo_fj (mo_t1 M) ≠ -1 ∧ (mo_ga (mo_t1 M) = 1 ∨ mo_rt (mo_t1 M) = -1)) from fun q => q.2.elim (fun e => by have h27b : mo_ga (mo_t1 M) = 0 := h27; omega) (fun e => h50 e)), if_neg (show ¬ mo_rt (mo_t1 M) = -1 from h129), if_neg (show ¬ mo_rt (mo_t1 M) = -1 from h129)]; rfl) trivial
              · refine xs_iconst (q := 54) i_MO_tickOne_53 rfl (xs_n rfl ?_)
                refine xs_iload_n (q := 55) i_MO_tickOne_54 rfl rfl (xs_n rfl ?_)
                refine xs_isub (q := 56) i_MO_tickOne_55 rfl (xs_n rfl ?_)
                refine xs_istore (q := 58) (ls2 := [_, _, _, _, _]) i_MO_tickOne_56 rfl rfl rfl (xs_n rfl ?_)
                refine xs_aload_n (q := 59) i_MO_tickOne_58 rfl rfl (xs_n rfl ?_)
                refine xs_getr (q := 62) i_MO_tickOne_59 rfl fd_MO_62 sg_50 rfl (xs_n rfl ?_)
                refine xs_iload_n (q := 63) i_MO_tickOne_62 rfl rfl (xs_n rfl ?_)
                refine xs_dup2 (q := 64) i_MO_tickOne_63 rfl (xs_n rfl ?_)
                refine xs_iaload (q := 65) i_MO_tickOne_64 rfl sg_68 rfl (by have h20b : mo_fj (mo_t1 M) ≠ -1 := h20; show (0 ≤ mo_fj (mo_t1 M) ∧ mo_fj (mo_t1 M) < 40); omega) (xs_n rfl ?_)
                refine xs_iconst (q := 66) i_MO_tickOne_65 rfl (xs_n rfl ?_)
                refine xs_isub (q := 67) i_MO_tickOne_66 rfl (xs_n rfl ?_)
                refine xs_iastore (q := 68) i_MO_tickOne_67 rfl sg_68 (by have h20b : mo_fj (mo_t1 M) ≠ -1 := h20; show (0 ≤ mo_fj (mo_t1 M) ∧ mo_fj (mo_t1 M) < 40); omega) (xs_n rfl ?_)
                refine xs_aload_n (q := 69) i_MO_tickOne_68 rfl rfl (xs_n rfl ?_)
                refine xs_getr (q := 72) i_MO_tickOne_69 rfl fd_MO_62 sg_50 rfl (xs_n rfl ?_)
                refine xs_iload_n (q := 73) i_MO_tickOne_72 rfl rfl (xs_n rfl ?_)
                refine xs_iaload (q := 74) i_MO_tickOne_73 rfl sg_68 rfl (by have h20b : mo_fj (mo_t1 M) ≠ -1 := h20; show (0 ≤ mo_fj (mo_t1 M) ∧ mo_fj (mo_t1 M) < 40); omega) (xs_n rfl ?_)
                refine xs_if_ne (q := 89) (r := 77) i_MO_tickOne_74 rfl rfl (by have h20b : mo_fj (mo_t1 M) ≠ -1 := h20; have := p7 (mo_fj (mo_t1 M)).toNat (by omega); rw [am_up_s]; unfold am_R; show _ ≤ mo_t1 M 68 (mo_fj (mo_t1 M)).toNat - 1 ∧ mo_t1 M 68 (mo_fj (mo_t1 M)).toNat - 1 < _; omega) (fun h74 => (xs_n rfl ?_)) (fun h74 => (xs_n rfl ?_))
                · refine xs_iload_n (q := 90) i_MO_tickOne_89 rfl rfl (xs_n rfl ?_)
                  refine xs_if_eq (q := 147) (r := 93) i_MO_tickOne_90 rfl rfl (by unfold am_R; omega) (fun h90 => (xs_n rfl ?_)) (fun h90 => (xs_n rfl ?_))
                  · refine xs_aload_n (q := 148) i_MO_tickOne_147 rfl rfl (xs_n rfl ?_)
                    refine xs_getr (q := 151) i_MO_tickOne_148 rfl fd_MO_68 sg_50 rfl (xs_n rfl ?_)
                    refine xs_aload_n (q := 152) i_MO_tickOne_151 rfl rfl (xs_n rfl ?_)
                    refine xs_geti (q := 155) i_MO_tickOne_152 rfl fd_MO_132 sg_50 rfl (xs_n rfl ?_)
                    refine xs_iload (q := 157) i_MO_tickOne_155 rfl rfl (xs_n rfl ?_)
                    refine xs_iastore (q := 158) i_MO_tickOne_157 rfl sg_70 (by simp [am_up]; omega) (xs_n rfl ?_)
                    refine xs_aload_n (q := 159) i_MO_tickOne_158 rfl rfl (xs_n rfl ?_)
                    refine xs_dupr (q := 160) i_MO_tickOne_159 rfl (xs_n rfl ?_)
                    refine xs_geti (q := 163) i_MO_tickOne_160 rfl fd_MO_132 sg_50 rfl (xs_n rfl ?_)
                    refine xs_iconst (q := 164) i_MO_tickOne_163 rfl (xs_n rfl ?_)
                    refine xs_iadd (q := 165) i_MO_tickOne_164 rfl (xs_n rfl ?_)
                    refine xs_puti (q := 168) i_MO_tickOne_165 rfl fd_MO_132 sg_50 rfl (xs_n rfl ?_)
                    refine xs_iload (q := 170) i_MO_tickOne_168 rfl rfl (xs_n rfl ?_)
                    refine xs_iret i_MO_tickOne_170 ?_
                    have es2 : mo_s2 (mo_t1 M) = mo_s1 (mo_t1 M) := by unfold mo_s2; rw [if_neg (show ¬ mo_s1 (mo_t1 M) 68 (mo_fj (mo_t1 M)).toNat = 0 from h74)]
                    have es3 : mo_s3 (mo_t1 M) = mo_s2 (mo_t1 M) := by unfold mo_s3; rw [if_neg (fun q => by have h27b : mo_ga (mo_t1 M) = 0 := h27; omega)]
                    exact xs_fin (by simp only [f_MO_tickOne, mo_wh]; rw [if_pos (show mo_fj (mo_t1 M) ≠ -1 ∧ (mo_ga (mo_t1 M) = 1 ∨ mo_rt (mo_t1 M) = -1) from ⟨h20, Or.inr h50⟩)]) (by simp only [g_MO_tickOne, mo_wh, mo_wm]; rw [if_pos (show mo_fj (mo_t1 M) ≠ -1 ∧ (mo_ga (mo_t1 M) = 1 ∨ mo_rt (mo_t1 M) = -1) from ⟨h20, Or.inr h50⟩), if_pos (show mo_fj (mo_t1 M) ≠ -1 ∧ (mo_ga (mo_t1 M) = 1 ∨ mo_rt (mo_t1 M) = -1) from ⟨h20, Or.inr h50⟩)]; rw [es3, es2]; rfl) trivial
                  · first | exact absurd rfl h90 | exact absurd h90 (by decide) | exact absurd h20 h41 | exact absurd h41 h20 | exact absurd h129 h50
                · refine xs_aload_n (q := 78) i_MO_tickOne_77 rfl rfl (xs_n rfl ?_)
                  refine xs_getr (q := 81) i_MO_tickOne_78 rfl fd_MO_65 sg_50 rfl (xs_n rfl ?_)
                  refine xs_iload_n (q := 82) i_MO_tickOne_81 rfl rfl (xs_n rfl ?_)
                  refine xs_aload_n (q := 83) i_MO_tickOne_82 rfl rfl (xs_n rfl ?_)
                  refine xs_geti (q := 86) i_MO_tickOne_83 rfl fd_MO_132 sg_50 rfl (xs_n rfl ?_)
                  refine xs_iconst (q := 87) i_MO_tickOne_86 rfl (xs_n rfl ?_)
                  refine xs_iadd (q := 88) i_MO_tickOne_87 rfl (xs_n rfl ?_)
                  refine xs_iastore (q := 89) i_MO_tickOne_88 rfl sg_69 (by have h20b : mo_fj (mo_t1 M) ≠ -1 := h20; show (0 ≤ mo_fj (mo_t1 M) ∧ mo_fj (mo_t1 M) < 40); omega) (xs_n rfl ?_)
                  refine xs_iload_n (q := 90) i_MO_tickOne_89 rfl rfl (xs_n rfl ?_)
                  refine xs_if_eq (q := 147) (r := 93) i_MO_tickOne_90 rfl rfl (by unfold am_R; omega) (fun h90 => (xs_n rfl ?_)) (fun h90 => (xs_n rfl ?_))
                  · refine xs_aload_n (q := 148) i_MO_tickOne_147 rfl rfl (xs_n rfl ?_)
                    refine xs_getr (q := 151) i_MO_tickOne_148 rfl fd_MO_68 sg_50 rfl (xs_n rfl ?_)
                    refine xs_aload_n (q := 152) i_MO_tickOne_151 rfl rfl (xs_n rfl ?_)
                    refine xs_geti (q := 155) i_MO_tickOne_152 rfl fd_MO_132 sg_50 rfl (xs_n rfl ?_)
                    refine xs_iload (q := 157) i_MO_tickOne_155 rfl rfl (xs_n rfl ?_)
                    refine xs_iastore (q := 158) i_MO_tickOne_157 rfl sg_70 (by simp [am_up]; omega) (xs_n rfl ?_)
                    refine xs_aload_n (q := 159) i_MO_tickOne_158 rfl rfl (xs_n rfl ?_)
                    refine xs_dupr (q := 160) i_MO_tickOne_159 rfl (xs_n rfl ?_)
                    refine xs_geti (q := 163) i_MO_tickOne_160 rfl fd_MO_132 sg_50 rfl (xs_n rfl ?_)
                    refine xs_iconst (q := 164) i_MO_tickOne_163 rfl (xs_n rfl ?_)
                    refine xs_iadd (q := 165) i_MO_tickOne_164 rfl (xs_n rfl ?_)
                    refine xs_puti (q := 168) i_MO_tickOne_165 rfl fd_MO_132 sg_50 rfl (xs_n rfl ?_)
                    refine xs_iload (q := 170) i_MO_tickOne_168 rfl rfl (xs_n rfl ?_)
                    refine xs_iret i_MO_tickOne_170 ?_
                    have es2 : mo_s2 (mo_t1 M) = am_up (mo_s1 (mo_t1 M)) 69 (mo_fj (mo_t1 M)).toNat (mo_s1 (mo_t1 M) 50 19 + 1) := by unfold mo_s2; rw [if_pos (show mo_s1 (mo_t1 M) 68 (mo_fj (mo_t1 M)).toNat = 0 from h74)]
                    have es3 : mo_s3 (mo_t1 M) = mo_s2 (mo_t1 M) := by unfold mo_s3; rw [if_neg (fun q => by have h27b : mo_ga (mo_t1 M) = 0 := h27; omega)]
                    exact xs_fin (by simp only [f_MO_tickOne, mo_wh]; rw [if_pos (show mo_fj (mo_t1 M) ≠ -1 ∧ (mo_ga (mo_t1 M) = 1 ∨ mo_rt (mo_t1 M) = -1) from ⟨h20, Or.inr h50⟩)]) (by simp only [g_MO_tickOne, mo_wh, mo_wm]; rw [if_pos (show mo_fj (mo_t1 M) ≠ -1 ∧ (mo_ga (mo_t1 M) = 1 ∨ mo_rt (mo_t1 M) = -1) from ⟨h20, Or.inr h50⟩), if_pos (show mo_fj (mo_t1 M) ≠ -1 ∧ (mo_ga (mo_t1 M) = 1 ∨ mo_rt (mo_t1 M) = -1) from ⟨h20, Or.inr h50⟩)]; rw [es3, es2]; rfl) trivial
                  · first | exact absurd rfl h90 | exact absurd h90 (by decide) | exact absurd h20 h41 | exact absurd h41 h20 | exact absurd h129 h50
        · refine xs_iconst (q := 31) i_MO_tickOne_30 rfl (xs_n rfl ?_)
          refine xs_goto (q := 35) i_MO_tickOne_31 rfl (xs_n rfl ?_)
          refine xs_istore_n (q := 36) (ls2 := [_, _, _, _, _]) i_MO_tickOne_35 rfl rfl rfl (xs_n rfl ?_)
          refine xs_iconst (q := 37) i_MO_tickOne_36 rfl (xs_n rfl ?_)
          refine xs_istore (q := 39) (ls2 := [_, _, _, _, _]) i_MO_tickOne_37 rfl rfl rfl (xs_n rfl ?_)
          refine xs_iload_n (q := 40) i_MO_tickOne_39 rfl rfl (xs_n rfl ?_)
          refine xs_iconst (q := 41) i_MO_tickOne_40 rfl (xs_n rfl ?_)
          refine xs_ic_eq (q := 127) (r := 44) i_MO_tickOne_41 rfl rfl ⟨by show am_R (mo_fj (mo_t1 M)); unfold am_R; omega, by unfold am_R; omega⟩ (fun h41 => (xs_n rfl ?_)) (fun h41 => (xs_n rfl ?_))
          · first | exact absurd rfl h41 | exact absurd h41 (by decide) | exact absurd h20 h41 | exact absurd h41 h20 | exact absurd h129 h50
          · refine xs_iload_n (q := 45) i_MO_tickOne_44 rfl rfl (xs_n rfl ?_)
            refine xs_if_ne (q := 53) (r := 48) i_MO_tickOne_45 rfl rfl (by unfold am_R; omega) (fun h45 => (xs_n rfl ?_)) (fun h45 => (xs_n rfl ?_))
            · refine xs_iconst (q := 54) i_MO_tickOne_53 rfl (xs_n rfl ?_)
              refine xs_iload_n (q := 55) i_MO_tickOne_54 rfl rfl (xs_n rfl ?_)
              refine xs_isub (q := 56) i_MO_tickOne_55 rfl (xs_n rfl ?_)
              refine xs_istore (q := 58) (ls2 := [_, _, _, _, _]) i_MO_tickOne_56 rfl rfl rfl (xs_n rfl ?_)
              refine xs_aload_n (q := 59) i_MO_tickOne_58 rfl rfl (xs_n rfl ?_)
              refine xs_getr (q := 62) i_MO_tickOne_59 rfl fd_MO_62 sg_50 rfl (xs_n rfl ?_)
              refine xs_iload_n (q := 63) i_MO_tickOne_62 rfl rfl (xs_n rfl ?_)
              refine xs_dup2 (q := 64) i_MO_tickOne_63 rfl (xs_n rfl ?_)
              refine xs_iaload (q := 65) i_MO_tickOne_64 rfl sg_68 rfl (by have h20b : mo_fj (mo_t1 M) ≠ -1 := h20; show (0 ≤ mo_fj (mo_t1 M) ∧ mo_fj (mo_t1 M) < 40); omega) (xs_n rfl ?_)
              refine xs_iconst (q := 66) i_MO_tickOne_65 rfl (xs_n rfl ?_)
              refine xs_isub (q := 67) i_MO_tickOne_66 rfl (xs_n rfl ?_)
              refine xs_iastore (q := 68) i_MO_tickOne_67 rfl sg_68 (by have h20b : mo_fj (mo_t1 M) ≠ -1 := h20; show (0 ≤ mo_fj (mo_t1 M) ∧ mo_fj (mo_t1 M) < 40); omega) (xs_n rfl ?_)
              refine xs_aload_n (q := 69) i_MO_tickOne_68 rfl rfl (xs_n rfl ?_)
              refine xs_getr (q := 72) i_MO_tickOne_69 rfl fd_MO_62 sg_50 rfl (xs_n rfl ?_)
              refine xs_iload_n (q := 73) i_MO_tickOne_72 rfl rfl (xs_n rfl ?_)
              refine xs_iaload (q := 74) i_MO_tickOne_73 rfl sg_68 rfl (by have h20b : mo_fj (mo_t1 M) ≠ -1 := h20; show (0 ≤ mo_fj (mo_t1 M) ∧ mo_fj (mo_t1 M) < 40); omega) (xs_n rfl ?_)
              refine xs_if_ne (q := 89) (r := 77) i_MO_tickOne_74 rfl rfl (by have h20b : mo_fj (mo_t1 M) ≠ -1 := h20; have := p7 (mo_fj (mo_t1 M)).toNat (by omega); rw [am_up_s]; unfold am_R; show _ ≤ mo_t1 M 68 (mo_fj (mo_t1 M)).toNat - 1 ∧ mo_t1 M 68 (mo_fj (mo_t1 M)).toNat - 1 < _; omega) (fun h74 => (xs_n rfl ?_)) (fun h74 => (xs_n rfl ?_))
              · refine xs_iload_n (q := 90) i_MO_tickOne_89 rfl rfl (xs_n rfl ?_)
                refine xs_if_eq (q := 147) (r := 93) i_MO_tickOne_90 rfl rfl (by unfold am_R; omega) (fun h90 => (xs_n rfl ?_)) (fun h90 => (xs_n rfl ?_))
                · first | exact absurd rfl h90 | exact absurd h90 (by decide) | exact absurd h20 h41 | exact absurd h41 h20 | exact absurd h129 h50
                · refine xs_aload_n (q := 94) i_MO_tickOne_93 rfl rfl (xs_n rfl ?_)
                  refine xs_geti (q := 97) i_MO_tickOne_94 rfl fd_MO_135 sg_50 rfl (xs_n rfl ?_)
                  refine xs_iconst (q := 98) i_MO_tickOne_97 rfl (xs_n rfl ?_)
                  refine xs_ic_eq (q := 147) (r := 101) i_MO_tickOne_98 rfl rfl ⟨by simp [am_up]; exact hby, by unfold am_R; omega⟩ (fun h98 => (xs_n rfl ?_)) (fun h98 => (xs_n rfl ?_))
                  · refine xs_aload_n (q := 148) i_MO_tickOne_147 rfl rfl (xs_n rfl ?_)
                    refine xs_getr (q := 151) i_MO_tickOne_148 rfl fd_MO_68 sg_50 rfl (xs_n rfl ?_)
                    refine xs_aload_n (q := 152) i_MO_tickOne_151 rfl rfl (xs_n rfl ?_)
                    refine xs_geti (q := 155) i_MO_tickOne_152 rfl fd_MO_132 sg_50 rfl (xs_n rfl ?_)
                    refine xs_iload (q := 157) i_MO_tickOne_155 rfl rfl (xs_n rfl ?_)
                    refine xs_iastore (q := 158) i_MO_tickOne_157 rfl sg_70 (by simp [am_up]; omega) (xs_n rfl ?_)
                    refine xs_aload_n (q := 159) i_MO_tickOne_158 rfl rfl (xs_n rfl ?_)
                    refine xs_dupr (q := 160) i_MO_tickOne_159 rfl (xs_n rfl ?_)
                    refine xs_geti (q := 163) i_MO_tickOne_160 rfl fd_MO_132 sg_50 rfl (xs_n rfl ?_)
                    refine xs_iconst (q := 164) i_MO_tickOne_163 rfl (xs_n rfl ?_)
                    refine xs_iadd (q := 165) i_MO_tickOne_164 rfl (xs_n rfl ?_)
                    refine xs_puti (q := 168) i_MO_tickOne_165 rfl fd_MO_132 sg_50 rfl (xs_n rfl ?_)
                    refine xs_iload (q := 170) i_MO_tickOne_168 rfl rfl (xs_n rfl ?_)
                    refine xs_iret i_MO_tickOne_170 ?_
                    have es2 : mo_s2 (mo_t1 M) = mo_s1 (mo_t1 M) := by unfold mo_s2; rw [if_neg (show ¬ mo_s1 (mo_t1 M) 68 (mo_fj (mo_t1 M)).toNat = 0 from h74)]
                    have es3 : mo_s3 (mo_t1 M) = mo_s2 (mo_t1 M) := by unfold mo_s3; rw [if_neg (fun q => q.2 (by rw [es2]; exact h98))]
                    exact xs_fin (by simp only [f_MO_tickOne, mo_wh]; rw [if_pos (show mo_fj (mo_t1 M) ≠ -1 ∧ (mo_ga (mo_t1 M) = 1 ∨ mo_rt (mo_t1 M) = -1) from ⟨h20, Or.inl ((mo_ga_01 (mo_t1 M)).resolve_left h27)⟩)]) (by simp only [g_MO_tickOne, mo_wh, mo_wm]; rw [if_pos (show mo_fj (mo_t1 M) ≠ -1 ∧ (mo_ga (mo_t1 M) = 1 ∨ mo_rt (mo_t1 M) = -1) from ⟨h20, Or.inl ((mo_ga_01 (mo_t1 M)).resolve_left h27)⟩), if_pos (show mo_fj (mo_t1 M) ≠ -1 ∧ (mo_ga (mo_t1 M) = 1 ∨ mo_rt (mo_t1 M) = -1) from ⟨h20, Or.inl ((mo_ga_01 (mo_t1 M)).resolve_left h27)⟩)]; rw [es3, es2]; rfl) trivial
                  · refine xs_aload_n (q := 102) i_MO_tickOne_101 rfl rfl (xs_n rfl ?_)
                    refine xs_dupr (q := 103) i_MO_tickOne_102 rfl (xs_n rfl ?_)
                    refine xs_geti (q := 106) i_MO_tickOne_103 rfl fd_MO_138 sg_50 rfl (xs_n rfl ?_)
                    refine xs_iconst (q := 107) i_MO_tickOne_106 rfl (xs_n rfl ?_)
                    refine xs_isub (q := 108) i_MO_tickOne_107 rfl (xs_n rfl ?_)
                    refine xs_puti (q := 111) i_MO_tickOne_108 rfl fd_MO_138 sg_50 rfl (xs_n rfl ?_)
                    refine xs_aload_n (q := 112) i_MO_tickOne_111 rfl rfl (xs_n rfl ?_)
                    refine xs_getr (q := 115) i_MO_tickOne_112 rfl fd_MO_59 sg_50 rfl (xs_n rfl ?_)
                    refine xs_aload_n (q := 116) i_MO_tickOne_115 rfl rfl (xs_n rfl ?_)
                    refine xs_geti (q := 119) i_MO_tickOne_116 rfl fd_MO_132 sg_50 rfl (xs_n rfl ?_)
                    refine xs_dup2 (q := 120) i_MO_tickOne_119 rfl (xs_n rfl ?_)
                    refine xs_iaload (q := 121) i_MO_tickOne_120 rfl sg_67 rfl (by simp [am_up]; omega) (xs_n rfl ?_)
                    refine xs_iconst (q := 122) i_MO_tickOne_121 rfl (xs_n rfl ?_)
                    refine xs_iadd (q := 123) i_MO_tickOne_122 rfl (xs_n rfl ?_)
                    refine xs_iastore (q := 124) i_MO_tickOne_123 rfl sg_67 (by simp [am_up]; omega) (xs_n rfl ?_)
                    refine xs_goto (q := 147) i_MO_tickOne_124 rfl (xs_n rfl ?_)
                    refine xs_aload_n (q := 148) i_MO_tickOne_147 rfl rfl (xs_n rfl ?_)
                    refine xs_getr (q := 151) i_MO_tickOne_148 rfl fd_MO_68 sg_50 rfl (xs_n rfl ?_)
                    refine xs_aload_n (q := 152) i_MO_tickOne_151 rfl rfl (xs_n rfl ?_)
                    refine xs_geti (q := 155) i_MO_tickOne_152 rfl fd_MO_132 sg_50 rfl (xs_n rfl ?_)
                    refine xs_iload (q := 157) i_MO_tickOne_155 rfl rfl (xs_n rfl ?_)
                    refine xs_iastore (q := 158) i_MO_tickOne_157 rfl sg_70 (by simp [am_up]; omega) (xs_n rfl ?_)
                    refine xs_aload_n (q := 159) i_MO_tickOne_158 rfl rfl (xs_n rfl ?_)
                    refine xs_dupr (q := 160) i_MO_tickOne_159 rfl (xs_n rfl ?_)
                    refine xs_geti (q := 163) i_MO_tickOne_160 rfl fd_MO_132 sg_50 rfl (xs_n rfl ?_)
                    refine xs_iconst (q := 164) i_MO_tickOne_163 rfl (xs_n rfl ?_)
                    refine xs_iadd (q := 165) i_MO_tickOne_164 rfl (xs_n rfl ?_)
                    refine xs_puti (q := 168) i_MO_tickOne_165 rfl fd_MO_132 sg_50 rfl (xs_n rfl ?_)
                    refine xs_iload (q := 170) i_MO_tickOne_168 rfl rfl (xs_n rfl ?_)
                    refine xs_iret i_MO_tickOne_170 ?_
                    have es2 : mo_s2 (mo_t1 M) = mo_s1 (mo_t1 M) := by unfold mo_s2; rw [if_neg (show ¬ mo_s1 (mo_t1 M) 68 (mo_fj (mo_t1 M)).toNat = 0 from h74)]
                    have es3 : mo_s3 (mo_t1 M) = am_up (mo_sy (mo_t1 M)) 67 (mo_sy (mo_t1 M) 50 19).toNat (mo_sy (mo_t1 M) 67 (mo_sy (mo_t1 M) 50 19).toNat + 1) := by unfold mo_s3; rw [if_pos ⟨(mo_ga_01 (mo_t1 M)).resolve_left h27, by rw [es2]; exact h98⟩]
                    exact xs_fin (by simp only [f_MO_tickOne, mo_wh]; rw [if_pos (show mo_fj (mo_t1 M) ≠ -1 ∧ (mo_ga (mo_t1 M) = 1 ∨ mo_rt (mo_t1 M) = -1) from ⟨h20, Or.inl ((mo_ga_01 (mo_t1 M)).resolve_left h27)⟩)]) (by simp only [g_MO_tickOne, mo_wh, mo_wm]; rw [if_pos (show mo_fj (mo_t1 M) ≠ -1 ∧ (mo_ga (mo_t1 M) = 1 ∨ mo_rt (mo_t1 M) = -1) from ⟨h20, Or.inl ((mo_ga_01 (mo_t1 M)).resolve_left h27)⟩), if_pos (show mo_fj (mo_t1 M) ≠ -1 ∧ (mo_ga (mo_t1 M) = 1 ∨ mo_rt (mo_t1 M) = -1) from ⟨h20, Or.inl ((mo_ga_01 (mo_t1 M)).resolve_left h27)⟩)]; rw [es3]; unfold mo_sy; rw [es2]; rfl) trivial
              · refine xs_aload_n (q := 78) i_MO_tickOne_77 rfl rfl (xs_n rfl ?_)
                refine xs_getr (q := 81) i_MO_tickOne_78 rfl fd_MO_65 sg_50 rfl (xs_n rfl ?_)
                refine xs_iload_n (q := 82) i_MO_tickOne_81 rfl rfl (xs_n rfl ?_)
                refine xs_aload_n (q := 83) i_MO_tickOne_82 rfl rfl (xs_n rfl ?_)
                refine xs_geti (q := 86) i_MO_tickOne_83 rfl fd_MO_132 sg_50 rfl (xs_n rfl ?_)
                refine xs_iconst (q := 87) i_MO_tickOne_86 rfl (xs_n rfl ?_)
                refine xs_iadd (q := 88) i_MO_tickOne_87 rfl (xs_n rfl ?_)
                refine xs_iastore (q := 89) i_MO_tickOne_88 rfl sg_69 (by have h20b : mo_fj (mo_t1 M) ≠ -1 := h20; show (0 ≤ mo_fj (mo_t1 M) ∧ mo_fj (mo_t1 M) < 40); omega) (xs_n rfl ?_)
                refine xs_iload_n (q := 90) i_MO_tickOne_89 rfl rfl (xs_n rfl ?_)
                refine xs_if_eq (q := 147) (r := 93) i_MO_tickOne_90 rfl rfl (by unfold am_R; omega) (fun h90 => (xs_n rfl ?_)) (fun h90 => (xs_n rfl ?_))
                · first | exact absurd rfl h90 | exact absurd h90 (by decide) | exact absurd h20 h41 | exact absurd h41 h20 | exact absurd h129 h50
                · refine xs_aload_n (q := 94) i_MO_tickOne_93 rfl rfl (xs_n rfl ?_)
                  refine xs_geti (q := 97) i_MO_tickOne_94 rfl fd_MO_135 sg_50 rfl (xs_n rfl ?_)
                  refine xs_iconst (q := 98) i_MO_tickOne_97 rfl (xs_n rfl ?_)
                  refine xs_ic_eq (q := 147) (r := 101) i_MO_tickOne_98 rfl rfl ⟨by simp [am_up]; exact hby, by unfold am_R; omega⟩ (fun h98 => (xs_n rfl ?_)) (fun h98 => (xs_n rfl ?_))
                  · refine xs_aload_n (q := 148) i_MO_tickOne_147 rfl rfl (xs_n rfl ?_)
                    refine xs_getr (q := 151) i_MO_tickOne_148 rfl fd_MO_68 sg_50 rfl (xs_n rfl ?_)
                    refine xs_aload_n (q := 152) i_MO_tickOne_151 rfl rfl (xs_n rfl ?_)
                    refine xs_geti (q := 155) i_MO_tickOne_152 rfl fd_MO_132 sg_50 rfl (xs_n rfl ?_)
                    refine xs_iload (q := 157) i_MO_tickOne_155 rfl rfl (xs_n rfl ?_)
                    refine xs_iastore (q := 158) i_MO_tickOne_157 rfl sg_70 (by simp [am_up]; omega) (xs_n rfl ?_)
                    refine xs_aload_n (q := 159) i_MO_tickOne_158 rfl rfl (xs_n rfl ?_)
                    refine xs_dupr (q := 160) i_MO_tickOne_159 rfl (xs_n rfl ?_)
                    refine xs_geti (q := 163) i_MO_tickOne_160 rfl fd_MO_132 sg_50 rfl (xs_n rfl ?_)
                    refine xs_iconst (q := 164) i_MO_tickOne_163 rfl (xs_n rfl ?_)
                    refine xs_iadd (q := 165) i_MO_tickOne_164 rfl (xs_n rfl ?_)
                    refine xs_puti (q := 168) i_MO_tickOne_165 rfl fd_MO_132 sg_50 rfl (xs_n rfl ?_)
                    refine xs_iload (q := 170) i_MO_tickOne_168 rfl rfl (xs_n rfl ?_)
                    refine xs_iret i_MO_tickOne_170 ?_
                    have es2 : mo_s2 (mo_t1 M) = am_up (mo_s1 (mo_t1 M)) 69 (mo_fj (mo_t1 M)).toNat (mo_s1 (mo_t1 M) 50 19 + 1) := by unfold mo_s2; rw [if_pos (show mo_s1 (mo_t1 M) 68 (mo_fj (mo_t1 M)).toNat = 0 from h74)]
                    have es3 : mo_s3 (mo_t1 M) = mo_s2 (mo_t1 M) := by unfold mo_s3; rw [if_neg (fun q => q.2 (by rw [es2]; exact h98))]
                    exact xs_fin (by simp only [f_MO_tickOne, mo_wh]; rw [if_pos (show mo_fj (mo_t1 M) ≠ -1 ∧ (mo_ga (mo_t1 M) = 1 ∨ mo_rt (mo_t1 M) = -1) from ⟨h20, Or.inl ((mo_ga_01 (mo_t1 M)).resolve_left h27)⟩)]) (by simp only [g_MO_tickOne, mo_wh, mo_wm]; rw [if_pos (show mo_fj (mo_t1 M) ≠ -1 ∧ (mo_ga (mo_t1 M) = 1 ∨ mo_rt (mo_t1 M) = -1) from ⟨h20, Or.inl ((mo_ga_01 (mo_t1 M)).resolve_left h27)⟩), if_pos (show mo_fj (mo_t1 M) ≠ -1 ∧ (mo_ga (mo_t1 M) = 1 ∨ mo_rt (mo_t1 M) = -1) from ⟨h20, Or.inl ((mo_ga_01 (mo_t1 M)).resolve_left h27)⟩)]; rw [es3, es2]; rfl) trivial
                  · refine xs_aload_n (q := 102) i_MO_tickOne_101 rfl rfl (xs_n rfl ?_)
                    refine xs_dupr (q := 103) i_MO_tickOne_102 rfl (xs_n rfl ?_)
                    refine xs_geti (q := 106) i_MO_tickOne_103 rfl fd_MO_138 sg_50 rfl (xs_n rfl ?_)
                    refine xs_iconst (q := 107) i_MO_tickOne_106 rfl (xs_n rfl ?_)
                    refine xs_isub (q := 108) i_MO_tickOne_107 rfl (xs_n rfl ?_)
                    refine xs_puti (q := 111) i_MO_tickOne_108 rfl fd_MO_138 sg_50 rfl (xs_n rfl ?_)
                    refine xs_aload_n (q := 112) i_MO_tickOne_111 rfl rfl (xs_n rfl ?_)
                    refine xs_getr (q := 115) i_MO_tickOne_112 rfl fd_MO_59 sg_50 rfl (xs_n rfl ?_)
                    refine xs_aload_n (q := 116) i_MO_tickOne_115 rfl rfl (xs_n rfl ?_)
                    refine xs_geti (q := 119) i_MO_tickOne_116 rfl fd_MO_132 sg_50 rfl (xs_n rfl ?_)
                    refine xs_dup2 (q := 120) i_MO_tickOne_119 rfl (xs_n rfl ?_)
                    refine xs_iaload (q := 121) i_MO_tickOne_120 rfl sg_67 rfl (by simp [am_up]; omega) (xs_n rfl ?_)
                    refine xs_iconst (q := 122) i_MO_tickOne_121 rfl (xs_n rfl ?_)
                    refine xs_iadd (q := 123) i_MO_tickOne_122 rfl (xs_n rfl ?_)
                    refine xs_iastore (q := 124) i_MO_tickOne_123 rfl sg_67 (by simp [am_up]; omega) (xs_n rfl ?_)
                    refine xs_goto (q := 147) i_MO_tickOne_124 rfl (xs_n rfl ?_)
                    refine xs_aload_n (q := 148) i_MO_tickOne_147 rfl rfl (xs_n rfl ?_)
                    refine xs_getr (q := 151) i_MO_tickOne_148 rfl fd_MO_68 sg_50 rfl (xs_n rfl ?_)
                    refine xs_aload_n (q := 152) i_MO_tickOne_151 rfl rfl (xs_n rfl ?_)
                    refine xs_geti (q := 155) i_MO_tickOne_152 rfl fd_MO_132 sg_50 rfl (xs_n rfl ?_)
                    refine xs_iload (q := 157) i_MO_tickOne_155 rfl rfl (xs_n rfl ?_)
                    refine xs_iastore (q := 158) i_MO_tickOne_157 rfl sg_70 (by simp [am_up]; omega) (xs_n rfl ?_)
                    refine xs_aload_n (q := 159) i_MO_tickOne_158 rfl rfl (xs_n rfl ?_)
                    refine xs_dupr (q := 160) i_MO_tickOne_159 rfl (xs_n rfl ?_)
                    refine xs_geti (q := 163) i_MO_tickOne_160 rfl fd_MO_132 sg_50 rfl (xs_n rfl ?_)
                    refine xs_iconst (q := 164) i_MO_tickOne_163 rfl (xs_n rfl ?_)
                    refine xs_iadd (q := 165) i_MO_tickOne_164 rfl (xs_n rfl ?_)
                    refine xs_puti (q := 168) i_MO_tickOne_165 rfl fd_MO_132 sg_50 rfl (xs_n rfl ?_)
                    refine xs_iload (q := 170) i_MO_tickOne_168 rfl rfl (xs_n rfl ?_)
                    refine xs_iret i_MO_tickOne_170 ?_
                    have es2 : mo_s2 (mo_t1 M) = am_up (mo_s1 (mo_t1 M)) 69 (mo_fj (mo_t1 M)).toNat (mo_s1 (mo_t1 M) 50 19 + 1) := by unfold mo_s2; rw [if_pos (show mo_s1 (mo_t1 M) 68 (mo_fj (mo_t1 M)).toNat = 0 from h74)]
                    have es3 : mo_s3 (mo_t1 M) = am_up (mo_sy (mo_t1 M)) 67 (mo_sy (mo_t1 M) 50 19).toNat (mo_sy (mo_t1 M) 67 (mo_sy (mo_t1 M) 50 19).toNat + 1) := by unfold mo_s3; rw [if_pos ⟨(mo_ga_01 (mo_t1 M)).resolve_left h27, by rw [es2]; exact h98⟩]
                    exact xs_fin (by simp only [f_MO_tickOne, mo_wh]; rw [if_pos (show mo_fj (mo_t1 M) ≠ -1 ∧ (mo_ga (mo_t1 M) = 1 ∨ mo_rt (mo_t1 M) = -1) from ⟨h20, Or.inl ((mo_ga_01 (mo_t1 M)).resolve_left h27)⟩)]) (by simp only [g_MO_tickOne, mo_wh, mo_wm]; rw [if_pos (show mo_fj (mo_t1 M) ≠ -1 ∧ (mo_ga (mo_t1 M) = 1 ∨ mo_rt (mo_t1 M) = -1) from ⟨h20, Or.inl ((mo_ga_01 (mo_t1 M)).resolve_left h27)⟩), if_pos (show mo_fj (mo_t1 M) ≠ -1 ∧ (mo_ga (mo_t1 M) = 1 ∨ mo_rt (mo_t1 M) = -1) from ⟨h20, Or.inl ((mo_ga_01 (mo_t1 M)).resolve_left h27)⟩)]; rw [es3]; unfold mo_sy; rw [es2]; rfl) trivial
            · first | exact absurd rfl h45 | exact absurd h45 (by decide) | exact absurd h20 h41 | exact absurd h41 h20 | exact absurd h129 h50
    · exact h.elim
