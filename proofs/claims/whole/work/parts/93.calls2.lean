/-! the class's methods that may throw: early, ended, trace, slack, hard, replay (wip/whole/p93.py) -/
theorem sd_ec_z {M B : am_M} {t k : Int} (hI : lw_I M B) (h1 : (0 ≤ t ∧ t ≤ M 1 5 - 1) ∧ (1 ≤ k ∧ k ≤ M 4 t.toNat)) (h2 : ¬ M 0 8 = 0) (h3 : M 14 3 < 200) : sd_ec M t k = 0 := by
  unfold sd_ec
  rw [if_pos h1, if_neg (fun q => q.elim h2 (fun z => by omega))]
abbrev t_SD_early : Room := { frames := 6, cells := 1, slots := 6, locals := 100 }
def P_SD_early : am_P := fun av M => match av with
  | [.inr (.inl i), .inl t, .inl k] => i = 0 ∧ (am_R t ∧ am_R k) ∧ lw_M M
  | _ => False
def f_SD_early : am_Fr := fun av M => match av with
  | [.inr (.inl i), .inl t, .inl k] => none
  | _ => none
def g_SD_early : am_Fm := fun av M => match av with
  | [.inr (.inl i), .inl t, .inl k] => sd_eg t k M
  | _ => M
def cd_SD_early : List am_V → am_M → Int := fun av M => match av with
  | [.inr (.inl i), .inl t, .inl k] => sd_ec M t k
  | _ => 0
def tc_SD_early : Int → String := fun k => if k = 1 then "java/lang/IllegalArgumentException" else "java/lang/IllegalStateException"
def th_SD_early : Nat → Option (Int × (String × Nat × Nat × Nat × String)) := fun pc => if pc = 34 then some (1, th_bl[12]) else if pc = 64 then some (2, th_bl[13]) else none
theorem th_SD_early_ok : th_D b_SD_early th_SD_early tc_SD_early := by
  intro pc k b h
  unfold th_SD_early at h
  split at h
  · rename_i e
    subst e
    cases h
    exact ⟨by decide, List.getElem_mem _, rfl, d_SD_early_34, d_SD_early_37, d_SD_early_38, d_SD_early_40, d_SD_early_43⟩
  split at h
  · rename_i e
    subst e
    cases h
    exact ⟨by decide, List.getElem_mem _, rfl, d_SD_early_64, d_SD_early_67, d_SD_early_68, d_SD_early_70, d_SD_early_73⟩
  cases h
def ct_SD_early : am_T := fun pc => if pc = 11 then some (3, am_ctS P_SD_isWithin (am_po f_SD_isWithin g_SD_isWithin)) else if pc = 28 then some (3, am_ctS P_SD_isWithin (am_po f_SD_isWithin g_SD_isWithin)) else if pc = 84 then some (4, am_ctV vw_S 4 P_EL_add (am_po f_EL_add g_EL_add)) else if pc = 96 then some (3, am_ctV vw_S 5 P_LO_shorten (am_po f_LO_shorten g_LO_shorten)) else none
theorem e_SD_early_11 : ct_SD_early 11 = some (3, am_ctS P_SD_isWithin (am_po f_SD_isWithin g_SD_isWithin)) := rfl
theorem e_SD_early_28 : ct_SD_early 28 = some (3, am_ctS P_SD_isWithin (am_po f_SD_isWithin g_SD_isWithin)) := rfl
theorem e_SD_early_84 : ct_SD_early 84 = some (4, am_ctV vw_S 4 P_EL_add (am_po f_EL_add g_EL_add)) := rfl
theorem e_SD_early_96 : ct_SD_early 96 = some (3, am_ctV vw_S 5 P_LO_shorten (am_po f_LO_shorten g_LO_shorten)) := rfl
theorem ct_SD_early_ok (l : Launch) : am_CC b_SD_early 3 w_SD_early y_SD_early.cls l t_SD_early ct_SD_early := by
  intro p e s m args below meth c H0 A D G ad Q S hK hN hA pc q ct h
  have hts := S.2.2.2.2
  unfold ct_SD_early at h
  split at h
  · rename_i hpc
    subst hpc; cases h
    exact am_callS S vw_N_ok hK hN hA ⟨Nat.zero_le _, Nat.zero_le _⟩ (m_SD_isWithin l) (s_SD_76 hts am_vW hN ⟨by decide, by decide⟩) d_SD_early_11
  split at h
  · rename_i hpc
    subst hpc; cases h
    exact am_callS S vw_N_ok hK hN hA ⟨Nat.zero_le _, Nat.zero_le _⟩ (m_SD_isWithin l) (s_SD_76 hts am_vW hN ⟨by decide, by decide⟩) d_SD_early_28
  split at h
  · rename_i hpc
    subst hpc; cases h
    exact am_callV S vw_N_ok hK hN hA ⟨Nat.zero_le _, Nat.zero_le _⟩ (m_EL_add l) (s_SD_182 hts am_vW hN ⟨by decide, by decide⟩) (by rfl) d_SD_early_84
  split at h
  · rename_i hpc
    subst hpc; cases h
    exact am_callV S vw_N_ok hK hN hA ⟨Nat.zero_le _, Nat.zero_le _⟩ (m_LO_shorten l) (s_SD_184 hts am_vW hN ⟨by decide, by decide⟩) (by rfl) d_SD_early_96
  cases h
def inv_SD_early : List am_V → am_M → Nat → am_K := fun av M _ pc ls st M2 => pc = 0 ∧ ls = am_l0 av 3 ∧ st = [] ∧ M = M2
set_option maxHeartbeats 2000000 in
theorem m_SD_early (l : Launch) (hfl : l.flags = flags0) : am_ME l y_SD_early w_SD_early t_SD_early P_SD_early f_SD_early g_SD_early cd_SD_early tc_SD_early := by
  refine am_mkE (fun pc => pc == 34 || pc == 64) hfl rfl ⟨by decide, by decide, by decide, by decide⟩ th_SD_early_ok i_SD_early_ok fd_SD_ok (ct_SD_early_ok l) (plainFor_of_name (by decide +kernel)) (by decide) ?_ 80 inv_SD_early ?_ ?_
  · intro av M h
    unfold P_SD_early at h
    split at h
    · exact ⟨Nat.le_of_ble_eq_true rfl, rfl⟩
    · exact h.elim
  · intro av M h
    unfold P_SD_early at h
    split at h
    · exact ⟨0, rfl, rfl, rfl, rfl⟩
    · exact h.elim
  · intro av M h μ pc ls st M2 hi
    unfold P_SD_early at h
    split at h
    · rename_i i t k
      obtain ⟨rfl, ⟨r1, r2⟩, B, hI⟩ := h
      have hT := hI.1
      have h08 := hI.2.1.1
      have ts5 := hT.2.1.1
      have e0 := hI.2.2.1.2.1.1
      obtain ⟨rfl, rfl, rfl, rfl⟩ := hi
      refine xs_iload_n (q := 1) i_SD_early_0 rfl rfl (xs_n rfl ?_)
      refine xs_iconst (q := 2) i_SD_early_1 rfl (xs_n rfl ?_)
      refine xs_aload_n (q := 3) i_SD_early_2 rfl rfl (xs_n rfl ?_)
      refine xs_getr (q := 6) i_SD_early_3 rfl fd_SD_10 sg_0 rfl (xs_n rfl ?_)
      refine xs_geti (q := 9) i_SD_early_6 rfl fd_SD_87 sg_1 rfl (xs_n rfl ?_)
      refine xs_iconst (q := 10) i_SD_early_9 rfl (xs_n rfl ?_)
      refine xs_isub (q := 11) i_SD_early_10 rfl (xs_n rfl ?_)
      refine xs_cs (q := 14) (av := [_, _, _]) (rest := []) i_SD_early_11 rfl (e_SD_early_11) ⟨rfl, rfl⟩ rfl rfl ?_
      rw [am_S_iff]
      refine ⟨⟨r1, by unfold am_R; omega, by unfold am_R; omega⟩, ?_⟩
      dsimp only [g_SD_isWithin, g_id]
      refine xs_r1 rfl (xs_n rfl ?_)
      refine xs_if_eq (q := 34) (r := 17) i_SD_early_14 rfl rfl am_ite (fun h14 => (xs_z rfl ?_)) (fun h14 => (xs_n rfl ?_))
      · have ec : sd_ec M t k = 1 := by unfold sd_ec; rw [if_neg (fun q => am_ite0 h14 q.1)]
        exact Or.inr ⟨th_bl[12], by show th_SD_early 34 = some (sd_ec M t k, th_bl[12]); rw [ec]; rfl, rfl, rfl⟩
      · refine xs_iload_n (q := 18) i_SD_early_17 rfl rfl (xs_n rfl ?_)
        refine xs_iconst (q := 19) i_SD_early_18 rfl (xs_n rfl ?_)
        refine xs_aload_n (q := 20) i_SD_early_19 rfl rfl (xs_n rfl ?_)
        refine xs_getr (q := 23) i_SD_early_20 rfl fd_SD_10 sg_0 rfl (xs_n rfl ?_)
        refine xs_getr (q := 26) i_SD_early_23 rfl fd_SD_174 sg_1 rfl (xs_n rfl ?_)
        refine xs_iload_n (q := 27) i_SD_early_26 rfl rfl (xs_n rfl ?_)
        refine xs_iaload (q := 28) i_SD_early_27 rfl sg_4 rfl (by have q : 0 ≤ t ∧ t ≤ M 1 5 - 1 := am_ite1 h14; omega) (xs_n rfl ?_)
        refine xs_cs (q := 31) (av := [_, _, _]) (rest := []) i_SD_early_28 rfl (e_SD_early_28) ⟨rfl, rfl⟩ rfl rfl ?_
        rw [am_S_iff]
        refine ⟨⟨r2, by unfold am_R; omega, by have q : 0 ≤ t ∧ t ≤ M 1 5 - 1 := am_ite1 h14; have q2 := hT.2.2.2.2.2.2.2.2.1 t.toNat (by omega); exact ⟨by omega, by omega⟩⟩, ?_⟩
        dsimp only [g_SD_isWithin, g_id]
        refine xs_r1 rfl (xs_n rfl ?_)
        refine xs_if_ne (q := 44) (r := 34) i_SD_early_31 rfl rfl am_ite (fun h31 => (xs_n rfl ?_)) (fun h31 => (xs_z rfl ?_))
        · refine xs_aload_n (q := 45) i_SD_early_44 rfl rfl (xs_n rfl ?_)
          refine xs_geti (q := 48) i_SD_early_45 rfl fd_SD_68 sg_0 rfl (xs_n rfl ?_)
          refine xs_if_eq (q := 64) (r := 51) i_SD_early_48 rfl rfl (by unfold am_R; omega) (fun h48 => (xs_z rfl ?_)) (fun h48 => (xs_n rfl ?_))
          · have ec : sd_ec M t k = 2 := by unfold sd_ec; rw [if_pos (show ((0 ≤ t ∧ t ≤ M 1 5 - 1) ∧ (1 ≤ k ∧ k ≤ M 4 t.toNat)) from ⟨am_ite1 h14, am_ite1 h31⟩), if_pos (Or.inl h48)]
            exact Or.inr ⟨th_bl[13], by show th_SD_early 64 = some (sd_ec M t k, th_bl[13]); rw [ec]; rfl, rfl, rfl⟩
          · refine xs_aload_n (q := 52) i_SD_early_51 rfl rfl (xs_n rfl ?_)
            refine xs_getr (q := 55) i_SD_early_52 rfl fd_SD_33 sg_0 rfl (xs_n rfl ?_)
            refine xs_geti (q := 58) i_SD_early_55 rfl fd_SD_179 sg_14 rfl (xs_n rfl ?_)
            refine xs_sipush (q := 61) i_SD_early_58 rfl (by decide) (xs_n rfl ?_)
            refine xs_ic_lt (q := 74) (r := 64) i_SD_early_61 rfl rfl ⟨by unfold am_R; omega, by unfold am_R; omega⟩ (fun h61 => (xs_n rfl ?_)) (fun h61 => (xs_z rfl ?_))
            · refine xs_aload_n (q := 75) i_SD_early_74 rfl rfl (xs_n rfl ?_)
              refine xs_getr (q := 78) i_SD_early_75 rfl fd_SD_33 sg_0 rfl (xs_n rfl ?_)
              refine xs_aload_n (q := 79) i_SD_early_78 rfl rfl (xs_n rfl ?_)
              refine xs_geti (q := 82) i_SD_early_79 rfl fd_SD_72 sg_0 rfl (xs_n rfl ?_)
              refine xs_iload_n (q := 83) i_SD_early_82 rfl rfl (xs_n rfl ?_)
              refine xs_iload_n (q := 84) i_SD_early_83 rfl rfl (xs_n rfl ?_)
              refine xs_cv (q := 87) (av := [_, _, _, _]) (rest := []) i_SD_early_84 rfl (e_SD_early_84) ⟨rfl, rfl⟩ rfl rfl ?_
              rw [am_V_iff]
              refine ⟨⟨_, sg_14⟩, ((sd_early (t := t) (k := k) hI).2 (sd_ec_z hI (show ((0 ≤ t ∧ t ≤ M 1 5 - 1) ∧ (1 ≤ k ∧ k ≤ M 4 t.toNat)) from ⟨am_ite1 h14, am_ite1 h31⟩) h48 h61)).1, ?_⟩
              refine xs_r0 rfl (xs_n rfl ?_)
              refine xs_aload_n (q := 88) i_SD_early_87 rfl rfl (xs_n rfl ?_)
              refine xs_getr (q := 91) i_SD_early_88 rfl fd_SD_51 sg_0 rfl (xs_n rfl ?_)
              refine xs_getr (q := 94) i_SD_early_91 rfl fd_SD_166 sg_26 rfl (xs_n rfl ?_)
              refine xs_iload_n (q := 95) i_SD_early_94 rfl rfl (xs_n rfl ?_)
              refine xs_iload_n (q := 96) i_SD_early_95 rfl rfl (xs_n rfl ?_)
              refine xs_cv (q := 99) (av := [_, _, _]) (rest := []) i_SD_early_96 rfl (e_SD_early_96) ⟨rfl, rfl⟩ rfl rfl ?_
              rw [am_V_iff]
              refine ⟨⟨_, sg_27⟩, ((sd_early (t := t) (k := k) hI).2 (sd_ec_z hI (show ((0 ≤ t ∧ t ≤ M 1 5 - 1) ∧ (1 ≤ k ∧ k ≤ M 4 t.toNat)) from ⟨am_ite1 h14, am_ite1 h31⟩) h48 h61)).2 r1 r2, ?_⟩
              have ec : sd_ec M t k = 0 := sd_ec_z hI (show ((0 ≤ t ∧ t ≤ M 1 5 - 1) ∧ (1 ≤ k ∧ k ≤ M 4 t.toNat)) from ⟨am_ite1 h14, am_ite1 h31⟩) h48 h61
              refine xs_r0 rfl (xs_n rfl ?_)
              refine xs_ret i_SD_early_99 ?_
              exact xs_finE (cd := cd_SD_early) (show cd_SD_early [.inr (.inl 0), .inl t, .inl k] _ = 0 from ec) (rfl) (rfl) (trivial)
            · have ec : sd_ec M t k = 2 := by unfold sd_ec; rw [if_pos (show ((0 ≤ t ∧ t ≤ M 1 5 - 1) ∧ (1 ≤ k ∧ k ≤ M 4 t.toNat)) from ⟨am_ite1 h14, am_ite1 h31⟩), if_pos (Or.inr h61)]
              exact Or.inr ⟨th_bl[13], by show th_SD_early 64 = some (sd_ec M t k, th_bl[13]); rw [ec]; rfl, rfl, rfl⟩
        · have ec : sd_ec M t k = 1 := by unfold sd_ec; rw [if_neg (fun q => am_ite0 h31 q.2)]
          exact Or.inr ⟨th_bl[12], by show th_SD_early 34 = some (sd_ec M t k, th_bl[12]); rw [ec]; rfl, rfl, rfl⟩
    · exact h.elim
abbrev t_SD_ended : Room := { frames := 6, cells := 1, slots := 6, locals := 100 }
def P_SD_ended : am_P := fun av M => match av with
  | [.inr (.inl i), .inl j] => i = 0 ∧ am_R j ∧ lw_M M
  | _ => False
def f_SD_ended : am_Fr := fun av M => match av with
  | [.inr (.inl i), .inl j] => some (.inl (M 34 j.toNat))
  | _ => none
abbrev g_SD_ended : am_Fm := g_id
def cd_SD_ended : List am_V → am_M → Int := fun av M => match av with
  | [.inr (.inl i), .inl j] => sd_nc M j
  | _ => 0
def tc_SD_ended : Int → String := fun k =>  "java/util/NoSuchElementException"
def th_SD_ended : Nat → Option (Int × (String × Nat × Nat × Nat × String)) := fun pc => if pc = 17 then some (1, th_bl[14]) else none
theorem th_SD_ended_ok : th_D b_SD_ended th_SD_ended tc_SD_ended := by
  intro pc k b h
  unfold th_SD_ended at h
  split at h
  · rename_i e
    subst e
    cases h
    exact ⟨by decide, List.getElem_mem _, rfl, d_SD_ended_17, d_SD_ended_20, d_SD_ended_21, d_SD_ended_23, d_SD_ended_26⟩
  cases h
def ct_SD_ended : am_T := fun pc => if pc = 11 then some (3, am_ctS P_SD_isWithin (am_po f_SD_isWithin g_SD_isWithin)) else none
theorem e_SD_ended_11 : ct_SD_ended 11 = some (3, am_ctS P_SD_isWithin (am_po f_SD_isWithin g_SD_isWithin)) := rfl
theorem ct_SD_ended_ok (l : Launch) : am_CC b_SD_ended 2 w_SD_ended y_SD_ended.cls l t_SD_ended ct_SD_ended := by
  intro p e s m args below meth c H0 A D G ad Q S hK hN hA pc q ct h
  have hts := S.2.2.2.2
  unfold ct_SD_ended at h
  split at h
  · rename_i hpc
    subst hpc; cases h
    exact am_callS S vw_N_ok hK hN hA ⟨Nat.zero_le _, Nat.zero_le _⟩ (m_SD_isWithin l) (s_SD_76 hts am_vW hN ⟨by decide, by decide⟩) d_SD_ended_11
  cases h
def inv_SD_ended : List am_V → am_M → Nat → am_K := fun av M _ pc ls st M2 => pc = 0 ∧ ls = am_l0 av 2 ∧ st = [] ∧ M = M2
set_option maxHeartbeats 2000000 in
theorem m_SD_ended (l : Launch) (hfl : l.flags = flags0) : am_ME l y_SD_ended w_SD_ended t_SD_ended P_SD_ended f_SD_ended g_SD_ended cd_SD_ended tc_SD_ended := by
  refine am_mkE (fun pc => pc == 17) hfl rfl ⟨by decide, by decide, by decide, by decide⟩ th_SD_ended_ok i_SD_ended_ok fd_SD_ok (ct_SD_ended_ok l) (plainFor_of_name (by decide +kernel)) (by decide) ?_ 80 inv_SD_ended ?_ ?_
  · intro av M h
    unfold P_SD_ended at h
    split at h
    · exact ⟨Nat.le_of_ble_eq_true rfl, rfl⟩
    · exact h.elim
  · intro av M h
    unfold P_SD_ended at h
    split at h
    · exact ⟨0, rfl, rfl, rfl, rfl⟩
    · exact h.elim
  · intro av M h μ pc ls st M2 hi
    unfold P_SD_ended at h
    split at h
    · rename_i i j
      obtain ⟨rfl, r1, B, hI⟩ := h
      have j0 := hI.2.2.1.1.1
      obtain ⟨rfl, rfl, rfl, rfl⟩ := hi
      refine xs_iload_n (q := 1) i_SD_ended_0 rfl rfl (xs_n rfl ?_)
      refine xs_iconst (q := 2) i_SD_ended_1 rfl (xs_n rfl ?_)
      refine xs_aload_n (q := 3) i_SD_ended_2 rfl rfl (xs_n rfl ?_)
      refine xs_getr (q := 6) i_SD_ended_3 rfl fd_SD_26 sg_0 rfl (xs_n rfl ?_)
      refine xs_geti (q := 9) i_SD_ended_6 rfl fd_SD_145 sg_10 rfl (xs_n rfl ?_)
      refine xs_iconst (q := 10) i_SD_ended_9 rfl (xs_n rfl ?_)
      refine xs_isub (q := 11) i_SD_ended_10 rfl (xs_n rfl ?_)
      refine xs_cs (q := 14) (av := [_, _, _]) (rest := []) i_SD_ended_11 rfl (e_SD_ended_11) ⟨rfl, rfl⟩ rfl rfl ?_
      rw [am_S_iff]
      refine ⟨⟨r1, by unfold am_R; omega, by unfold am_R; omega⟩, ?_⟩
      dsimp only [g_SD_isWithin, g_id]
      refine xs_r1 rfl (xs_n rfl ?_)
      refine xs_if_ne (q := 27) (r := 17) i_SD_ended_14 rfl rfl am_ite (fun h14 => (xs_n rfl ?_)) (fun h14 => (xs_z rfl ?_))
      · refine xs_aload_n (q := 28) i_SD_ended_27 rfl rfl (xs_n rfl ?_)
        refine xs_getr (q := 31) i_SD_ended_28 rfl fd_SD_51 sg_0 rfl (xs_n rfl ?_)
        refine xs_getr (q := 34) i_SD_ended_31 rfl fd_SD_156 sg_26 rfl (xs_n rfl ?_)
        refine xs_getr (q := 37) i_SD_ended_34 rfl fd_SD_195 sg_32 rfl (xs_n rfl ?_)
        refine xs_iload_n (q := 38) i_SD_ended_37 rfl rfl (xs_n rfl ?_)
        refine xs_iaload (q := 39) i_SD_ended_38 rfl sg_34 rfl (by have q : 0 ≤ j ∧ j ≤ M 10 3 - 1 := am_ite1 h14; omega) (xs_n rfl ?_)
        refine xs_iret i_SD_ended_39 ?_
        have ec : sd_nc M j = 0 := by unfold sd_nc; rw [if_pos (am_ite1 h14)]
        exact xs_finE (cd := cd_SD_ended) (show cd_SD_ended [.inr (.inl 0), .inl j] _ = 0 from ec) (rfl) (rfl) (trivial)
      · have ec : sd_nc M j = 1 := by unfold sd_nc; rw [if_neg (am_ite0 h14)]
        exact Or.inr ⟨th_bl[14], by show th_SD_ended 17 = some (sd_nc M j, th_bl[14]); rw [ec]; rfl, rfl, rfl⟩
    · exact h.elim
abbrev t_SD_trace : Room := { frames := 6, cells := 1, slots := 6, locals := 100 }
def P_SD_trace : am_P := fun av M => match av with
  | [.inr (.inl i), .inl j] => i = 0 ∧ am_R j ∧ lw_M M
  | _ => False
def f_SD_trace : am_Fr := fun av M => match av with
  | [.inr (.inl i), .inl j] => some (.inl (M 49 j.toNat))
  | _ => none
abbrev g_SD_trace : am_Fm := g_id
def cd_SD_trace : List am_V → am_M → Int := fun av M => match av with
  | [.inr (.inl i), .inl j] => sd_xc M j
  | _ => 0
def tc_SD_trace : Int → String := fun k =>  "java/lang/IndexOutOfBoundsException"
def th_SD_trace : Nat → Option (Int × (String × Nat × Nat × Nat × String)) := fun pc => if pc = 14 then some (1, th_bl[16]) else none
theorem th_SD_trace_ok : th_D b_SD_trace th_SD_trace tc_SD_trace := by
  intro pc k b h
  unfold th_SD_trace at h
  split at h
  · rename_i e
    subst e
    cases h
    exact ⟨by decide, List.getElem_mem _, rfl, d_SD_trace_14, d_SD_trace_17, d_SD_trace_18, d_SD_trace_20, d_SD_trace_23⟩
  cases h
def ct_SD_trace : am_T := fun pc => if pc = 8 then some (3, am_ctS P_SD_isWithin (am_po f_SD_isWithin g_SD_isWithin)) else none
theorem e_SD_trace_8 : ct_SD_trace 8 = some (3, am_ctS P_SD_isWithin (am_po f_SD_isWithin g_SD_isWithin)) := rfl
theorem ct_SD_trace_ok (l : Launch) : am_CC b_SD_trace 2 w_SD_trace y_SD_trace.cls l t_SD_trace ct_SD_trace := by
  intro p e s m args below meth c H0 A D G ad Q S hK hN hA pc q ct h
  have hts := S.2.2.2.2
  unfold ct_SD_trace at h
  split at h
  · rename_i hpc
    subst hpc; cases h
    exact am_callS S vw_N_ok hK hN hA ⟨Nat.zero_le _, Nat.zero_le _⟩ (m_SD_isWithin l) (s_SD_76 hts am_vW hN ⟨by decide, by decide⟩) d_SD_trace_8
  cases h
def inv_SD_trace : List am_V → am_M → Nat → am_K := fun av M _ pc ls st M2 => pc = 0 ∧ ls = am_l0 av 2 ∧ st = [] ∧ M = M2
set_option maxHeartbeats 2000000 in
theorem m_SD_trace (l : Launch) (hfl : l.flags = flags0) : am_ME l y_SD_trace w_SD_trace t_SD_trace P_SD_trace f_SD_trace g_SD_trace cd_SD_trace tc_SD_trace := by
  refine am_mkE (fun pc => pc == 14) hfl rfl ⟨by decide, by decide, by decide, by decide⟩ th_SD_trace_ok i_SD_trace_ok fd_SD_ok (ct_SD_trace_ok l) (plainFor_of_name (by decide +kernel)) (by decide) ?_ 80 inv_SD_trace ?_ ?_
  · intro av M h
    unfold P_SD_trace at h
    split at h
    · exact ⟨Nat.le_of_ble_eq_true rfl, rfl⟩
    · exact h.elim
  · intro av M h
    unfold P_SD_trace at h
    split at h
    · exact ⟨0, rfl, rfl, rfl, rfl⟩
    · exact h.elim
  · intro av M h μ pc ls st M2 hi
    unfold P_SD_trace at h
    split at h
    · rename_i i j
      obtain ⟨rfl, r1, B, hI⟩ := h
      have n0 := hI.2.1.2.1
      obtain ⟨rfl, rfl, rfl, rfl⟩ := hi
      refine xs_iload_n (q := 1) i_SD_trace_0 rfl rfl (xs_n rfl ?_)
      refine xs_iconst (q := 2) i_SD_trace_1 rfl (xs_n rfl ?_)
      refine xs_aload_n (q := 3) i_SD_trace_2 rfl rfl (xs_n rfl ?_)
      refine xs_geti (q := 6) i_SD_trace_3 rfl fd_SD_72 sg_0 rfl (xs_n rfl ?_)
      refine xs_iconst (q := 7) i_SD_trace_6 rfl (xs_n rfl ?_)
      refine xs_isub (q := 8) i_SD_trace_7 rfl (xs_n rfl ?_)
      refine xs_cs (q := 11) (av := [_, _, _]) (rest := []) i_SD_trace_8 rfl (e_SD_trace_8) ⟨rfl, rfl⟩ rfl rfl ?_
      rw [am_S_iff]
      refine ⟨⟨r1, by unfold am_R; omega, by unfold am_R; omega⟩, ?_⟩
      dsimp only [g_SD_isWithin, g_id]
      refine xs_r1 rfl (xs_n rfl ?_)
      refine xs_if_ne (q := 24) (r := 14) i_SD_trace_11 rfl rfl am_ite (fun h11 => (xs_n rfl ?_)) (fun h11 => (xs_z rfl ?_))
      · refine xs_aload_n (q := 25) i_SD_trace_24 rfl rfl (xs_n rfl ?_)
        refine xs_getr (q := 28) i_SD_trace_25 rfl fd_SD_64 sg_0 rfl (xs_n rfl ?_)
        refine xs_iload_n (q := 29) i_SD_trace_28 rfl rfl (xs_n rfl ?_)
        refine xs_iaload (q := 30) i_SD_trace_29 rfl sg_49 rfl (by have q : 0 ≤ j ∧ j ≤ M 0 9 - 1 := am_ite1 h11; omega) (xs_n rfl ?_)
        refine xs_iret i_SD_trace_30 ?_
        have ec : sd_xc M j = 0 := by unfold sd_xc; rw [if_pos (am_ite1 h11)]
        exact xs_finE (cd := cd_SD_trace) (show cd_SD_trace [.inr (.inl 0), .inl j] _ = 0 from ec) (rfl) (rfl) (trivial)
      · have ec : sd_xc M j = 1 := by unfold sd_xc; rw [if_neg (am_ite0 h11)]
        exact Or.inr ⟨th_bl[16], by show th_SD_trace 14 = some (sd_xc M j, th_bl[16]); rw [ec]; rfl, rfl, rfl⟩
    · exact h.elim
abbrev t_SD_slack : Room := { frames := 6, cells := 1, slots := 6, locals := 100 }
def P_SD_slack : am_P := fun av M => match av with
  | [.inr (.inl i)] => i = 0 ∧ lw_M M
  | _ => False
def f_SD_slack : am_Fr := fun av M => match av with
  | [.inr (.inl i)] => f_SM_measure [.inr (.inl 18), .inr (.inl 27), .inl (M 0 9), .inl 1000] M
  | _ => none
def g_SD_slack : am_Fm := fun av M => match av with
  | [.inr (.inl i)] => g_SM_measure [.inr (.inl 18), .inr (.inl 27), .inl (M 0 9), .inl 1000] M
  | _ => M
def cd_SD_slack : List am_V → am_M → Int := fun av M => match av with
  | [.inr (.inl i)] => sd_lc M
  | _ => 0
def tc_SD_slack : Int → String := fun k =>  "java/lang/IllegalStateException"
def th_SD_slack : Nat → Option (Int × (String × Nat × Nat × Nat × String)) := fun pc => if pc = 7 then some (1, th_bl[15]) else none
theorem th_SD_slack_ok : th_D b_SD_slack th_SD_slack tc_SD_slack := by
  intro pc k b h
  unfold th_SD_slack at h
  split at h
  · rename_i e
    subst e
    cases h
    exact ⟨by decide, List.getElem_mem _, rfl, d_SD_slack_7, d_SD_slack_10, d_SD_slack_11, d_SD_slack_13, d_SD_slack_16⟩
  cases h
def ct_SD_slack : am_T := fun pc => if pc = 35 then some (4, am_ctV vw_S 6 P_SM_measure (am_po f_SM_measure g_SM_measure)) else none
theorem e_SD_slack_35 : ct_SD_slack 35 = some (4, am_ctV vw_S 6 P_SM_measure (am_po f_SM_measure g_SM_measure)) := rfl
theorem ct_SD_slack_ok (l : Launch) : am_CC b_SD_slack 1 w_SD_slack y_SD_slack.cls l t_SD_slack ct_SD_slack := by
  intro p e s m args below meth c H0 A D G ad Q S hK hN hA pc q ct h
  have hts := S.2.2.2.2
  unfold ct_SD_slack at h
  split at h
  · rename_i hpc
    subst hpc; cases h
    exact am_callV S vw_N_ok hK hN hA ⟨Nat.zero_le _, Nat.zero_le _⟩ (m_SM_measure l) (s_SD_200 hts am_vW hN ⟨by decide, by decide⟩) (by rfl) d_SD_slack_35
  cases h
def inv_SD_slack : List am_V → am_M → Nat → am_K := fun av M _ pc ls st M2 => pc = 0 ∧ ls = am_l0 av 1 ∧ st = [] ∧ M = M2
set_option maxHeartbeats 2000000 in
theorem m_SD_slack (l : Launch) (hfl : l.flags = flags0) : am_ME l y_SD_slack w_SD_slack t_SD_slack P_SD_slack f_SD_slack g_SD_slack cd_SD_slack tc_SD_slack := by
  refine am_mkE (fun pc => pc == 7) hfl rfl ⟨by decide, by decide, by decide, by decide⟩ th_SD_slack_ok i_SD_slack_ok fd_SD_ok (ct_SD_slack_ok l) (plainFor_of_name (by decide +kernel)) (by decide) ?_ 80 inv_SD_slack ?_ ?_
  · intro av M h
    unfold P_SD_slack at h
    split at h
    · exact ⟨Nat.le_of_ble_eq_true rfl, rfl⟩
    · exact h.elim
  · intro av M h
    unfold P_SD_slack at h
    split at h
    · exact ⟨0, rfl, rfl, rfl, rfl⟩
    · exact h.elim
  · intro av M h μ pc ls st M2 hi
    unfold P_SD_slack at h
    split at h
    · rename_i i
      obtain ⟨rfl, B, hI⟩ := h
      have h08 := hI.2.1.1
      obtain ⟨rfl, rfl, rfl, rfl⟩ := hi
      refine xs_aload_n (q := 1) i_SD_slack_0 rfl rfl (xs_n rfl ?_)
      refine xs_geti (q := 4) i_SD_slack_1 rfl fd_SD_68 sg_0 rfl (xs_n rfl ?_)
      refine xs_if_ne (q := 17) (r := 7) i_SD_slack_4 rfl rfl (by unfold am_R; omega) (fun h4 => (xs_n rfl ?_)) (fun h4 => (xs_z rfl ?_))
      · refine xs_aload_n (q := 18) i_SD_slack_17 rfl rfl (xs_n rfl ?_)
        refine xs_getr (q := 21) i_SD_slack_18 rfl fd_SD_42 sg_0 rfl (xs_n rfl ?_)
        refine xs_aload_n (q := 22) i_SD_slack_21 rfl rfl (xs_n rfl ?_)
        refine xs_getr (q := 25) i_SD_slack_22 rfl fd_SD_51 sg_0 rfl (xs_n rfl ?_)
        refine xs_getr (q := 28) i_SD_slack_25 rfl fd_SD_166 sg_26 rfl (xs_n rfl ?_)
        refine xs_aload_n (q := 29) i_SD_slack_28 rfl rfl (xs_n rfl ?_)
        refine xs_geti (q := 32) i_SD_slack_29 rfl fd_SD_72 sg_0 rfl (xs_n rfl ?_)
        refine xs_sipush (q := 35) i_SD_slack_32 rfl (by decide) (xs_n rfl ?_)
        refine xs_cv (q := 38) (av := [_, _, _, _]) (rest := []) i_SD_slack_35 rfl (e_SD_slack_35) ⟨rfl, rfl⟩ rfl rfl ?_
        rw [am_V_iff]
        refine ⟨⟨_, sg_18⟩, ((sd_slack hI).2.2.2 (by unfold sd_lc; rw [if_neg h4])).1, ?_⟩
        have ec : sd_lc M = 0 := by unfold sd_lc; rw [if_neg h4]
        refine xs_r1 rfl (xs_n rfl ?_)
        refine xs_iret i_SD_slack_38 ?_
        exact xs_finE (cd := cd_SD_slack) (show cd_SD_slack [.inr (.inl 0)] _ = 0 from ec) (rfl) (rfl) (trivial)
      · have ec : sd_lc M = 1 := by unfold sd_lc; rw [if_pos h4]
        exact Or.inr ⟨th_bl[15], by show th_SD_slack 7 = some (sd_lc M, th_bl[15]); rw [ec]; rfl, rfl, rfl⟩
    · exact h.elim
abbrev t_SD_replay : Room := { frames := 6, cells := 1, slots := 6, locals := 146 }
def P_SD_replay : am_P := fun av M => match av with
  | [.inr (.inl i), .inl k] => i = 0 ∧ am_R k ∧ lw_M M
  | _ => False
def f_SD_replay : am_Fr := fun av M => match av with
  | [.inr (.inl i), .inl k] => f_RF_runAgain [.inr (.inl 48), .inr (.inl 7), .inl k, .inr (.inl 49), .inl (M 0 9)] M
  | _ => none
def g_SD_replay : am_Fm := fun av M => match av with
  | [.inr (.inl i), .inl k] => g_RF_runAgain [.inr (.inl 48), .inr (.inl 7), .inl k, .inr (.inl 49), .inl (M 0 9)] M
  | _ => M
def cd_SD_replay : List am_V → am_M → Int := fun av M => match av with
  | [.inr (.inl i), .inl k] => sd_yc M k
  | _ => 0
def tc_SD_replay : Int → String := fun k => if k = 1 then "java/lang/IllegalArgumentException" else if k = 2 then "java/lang/IllegalStateException" else "java/lang/UnsupportedOperationException"
def th_SD_replay : Nat → Option (Int × (String × Nat × Nat × Nat × String)) := fun pc => if pc = 7 then some (1, th_bl[18]) else if pc = 24 then some (2, th_bl[15]) else if pc = 49 then some (3, th_bl[19]) else none
theorem th_SD_replay_ok : th_D b_SD_replay th_SD_replay tc_SD_replay := by
  intro pc k b h
  unfold th_SD_replay at h
  split at h
  · rename_i e
    subst e
    cases h
    exact ⟨by decide, List.getElem_mem _, rfl, d_SD_replay_7, d_SD_replay_10, d_SD_replay_11, d_SD_replay_13, d_SD_replay_16⟩
  split at h
  · rename_i e
    subst e
    cases h
    exact ⟨by decide, List.getElem_mem _, rfl, d_SD_replay_24, d_SD_replay_27, d_SD_replay_28, d_SD_replay_30, d_SD_replay_33⟩
  split at h
  · rename_i e
    subst e
    cases h
    exact ⟨by decide, List.getElem_mem _, rfl, d_SD_replay_49, d_SD_replay_52, d_SD_replay_53, d_SD_replay_55, d_SD_replay_58⟩
  cases h
def ct_SD_replay : am_T := fun pc => if pc = 1 then some (1, am_ctS P_SD_isKind (am_po f_SD_isKind g_SD_isKind)) else if pc = 43 then some (3, am_ctV vw_S 1 P_TS_admit (am_po f_TS_admit g_TS_admit)) else if pc = 76 then some (5, am_ctV vw_S 10 P_RF_runAgain (am_po f_RF_runAgain g_RF_runAgain)) else none
theorem e_SD_replay_1 : ct_SD_replay 1 = some (1, am_ctS P_SD_isKind (am_po f_SD_isKind g_SD_isKind)) := rfl
theorem e_SD_replay_43 : ct_SD_replay 43 = some (3, am_ctV vw_S 1 P_TS_admit (am_po f_TS_admit g_TS_admit)) := rfl
theorem e_SD_replay_76 : ct_SD_replay 76 = some (5, am_ctV vw_S 10 P_RF_runAgain (am_po f_RF_runAgain g_RF_runAgain)) := rfl
theorem ct_SD_replay_ok (l : Launch) : am_CC b_SD_replay 2 w_SD_replay y_SD_replay.cls l t_SD_replay ct_SD_replay := by
  intro p e s m args below meth c H0 A D G ad Q S hK hN hA pc q ct h
  have hts := S.2.2.2.2
  unfold ct_SD_replay at h
  split at h
  · rename_i hpc
    subst hpc; cases h
    exact am_callS S vw_N_ok hK hN hA ⟨Nat.zero_le _, Nat.zero_le _⟩ (m_SD_isKind l) (s_SD_108 hts am_vW hN ⟨by decide, by decide⟩) d_SD_replay_1
  split at h
  · rename_i hpc
    subst hpc; cases h
    exact am_callV S vw_N_ok hK hN hA ⟨Nat.zero_le _, Nat.zero_le _⟩ (m_TS_admit l) (s_SD_123 hts am_vW hN ⟨by decide, by decide⟩) (by rfl) d_SD_replay_43
  split at h
  · rename_i hpc
    subst hpc; cases h
    exact am_callV S vw_N_ok hK hN hA ⟨Nat.zero_le _, Nat.zero_le _⟩ (m_RF_runAgain l) (s_SD_214 hts am_vW hN ⟨by decide, by decide⟩) (by rfl) d_SD_replay_76
  cases h
def inv_SD_replay : List am_V → am_M → Nat → am_K := fun av M _ pc ls st M2 => pc = 0 ∧ ls = am_l0 av 2 ∧ st = [] ∧ M = M2
set_option maxHeartbeats 2000000 in
theorem m_SD_replay (l : Launch) (hfl : l.flags = flags0) : am_ME l y_SD_replay w_SD_replay t_SD_replay P_SD_replay f_SD_replay g_SD_replay cd_SD_replay tc_SD_replay := by
  refine am_mkE (fun pc => pc == 7 || pc == 24 || pc == 49) hfl rfl ⟨by decide, by decide, by decide, by decide⟩ th_SD_replay_ok i_SD_replay_ok fd_SD_ok (ct_SD_replay_ok l) (plainFor_of_name (by decide +kernel)) (by decide) ?_ 80 inv_SD_replay ?_ ?_
  · intro av M h
    unfold P_SD_replay at h
    split at h
    · exact ⟨Nat.le_of_ble_eq_true rfl, rfl⟩
    · exact h.elim
  · intro av M h
    unfold P_SD_replay at h
    split at h
    · exact ⟨0, rfl, rfl, rfl, rfl⟩
    · exact h.elim
  · intro av M h μ pc ls st M2 hi
    unfold P_SD_replay at h
    split at h
    · rename_i i k
      obtain ⟨rfl, r1, B, hI⟩ := h
      have h08 := hI.2.1.1
      have hT := hI.1
      obtain ⟨rfl, rfl, rfl, rfl⟩ := hi
      refine xs_iload_n (q := 1) i_SD_replay_0 rfl rfl (xs_n rfl ?_)
      refine xs_cs (q := 4) (av := [_]) (rest := []) i_SD_replay_1 rfl (e_SD_replay_1) ⟨rfl, rfl⟩ rfl rfl ?_
      rw [am_S_iff]
      refine ⟨r1, ?_⟩
      dsimp only [g_SD_isKind, g_id]
      refine xs_r1 rfl (xs_n rfl ?_)
      refine xs_if_ne (q := 17) (r := 7) i_SD_replay_4 rfl rfl am_ite (fun h4 => (xs_n rfl ?_)) (fun h4 => (xs_z rfl ?_))
      · refine xs_aload_n (q := 18) i_SD_replay_17 rfl rfl (xs_n rfl ?_)
        refine xs_geti (q := 21) i_SD_replay_18 rfl fd_SD_68 sg_0 rfl (xs_n rfl ?_)
        refine xs_if_ne (q := 34) (r := 24) i_SD_replay_21 rfl rfl (by unfold am_R; omega) (fun h21 => (xs_n rfl ?_)) (fun h21 => (xs_z rfl ?_))
        · refine xs_aload_n (q := 35) i_SD_replay_34 rfl rfl (xs_n rfl ?_)
          refine xs_getr (q := 38) i_SD_replay_35 rfl fd_SD_10 sg_0 rfl (xs_n rfl ?_)
          refine xs_aload_n (q := 39) i_SD_replay_38 rfl rfl (xs_n rfl ?_)
          refine xs_getr (q := 42) i_SD_replay_39 rfl fd_SD_19 sg_0 rfl (xs_n rfl ?_)
          refine xs_iload_n (q := 43) i_SD_replay_42 rfl rfl (xs_n rfl ?_)
          refine xs_cv (q := 46) (av := [_, _, _]) (rest := []) i_SD_replay_43 rfl (e_SD_replay_43) ⟨rfl, rfl⟩ rfl rfl ?_
          rw [am_V_iff]
          refine ⟨⟨_, sg_1⟩, ⟨rfl, rfl, r1, hT.2.1, hT.2.2.2.2.2.2.1⟩, ?_⟩
          dsimp only [g_TS_admit, g_id]
          refine xs_r1 rfl (xs_n rfl ?_)
          refine xs_if_ne (q := 59) (r := 49) i_SD_replay_46 rfl rfl (by rcases ts_a_01 M k with q | q <;> (show am_R (ts_a M k); rw [q]; unfold am_R; omega)) (fun h46 => (xs_n rfl ?_)) (fun h46 => (xs_z rfl ?_))
          · refine xs_aload_n (q := 60) i_SD_replay_59 rfl rfl (xs_n rfl ?_)
            refine xs_getr (q := 63) i_SD_replay_60 rfl fd_SD_60 sg_0 rfl (xs_n rfl ?_)
            refine xs_aload_n (q := 64) i_SD_replay_63 rfl rfl (xs_n rfl ?_)
            refine xs_getr (q := 67) i_SD_replay_64 rfl fd_SD_19 sg_0 rfl (xs_n rfl ?_)
            refine xs_iload_n (q := 68) i_SD_replay_67 rfl rfl (xs_n rfl ?_)
            refine xs_aload_n (q := 69) i_SD_replay_68 rfl rfl (xs_n rfl ?_)
            refine xs_getr (q := 72) i_SD_replay_69 rfl fd_SD_64 sg_0 rfl (xs_n rfl ?_)
            refine xs_aload_n (q := 73) i_SD_replay_72 rfl rfl (xs_n rfl ?_)
            refine xs_geti (q := 76) i_SD_replay_73 rfl fd_SD_72 sg_0 rfl (xs_n rfl ?_)
            refine xs_cv (q := 79) (av := [_, _, _, _, _]) (rest := []) i_SD_replay_76 rfl (e_SD_replay_76) ⟨rfl, rfl⟩ rfl rfl ?_
            rw [am_V_iff]
            refine ⟨⟨_, sg_48⟩, ((sd_replay hI r1).2.2 (by unfold sd_yc; rw [if_pos (am_ite1 h4), if_neg h21, if_neg (show ¬ ts_a M k = 0 from h46)] : sd_yc M k = 0)).1, ?_⟩
            have ec : sd_yc M k = 0 := (by unfold sd_yc; rw [if_pos (am_ite1 h4), if_neg h21, if_neg (show ¬ ts_a M k = 0 from h46)] : sd_yc M k = 0)
            refine xs_r1 rfl (xs_n rfl ?_)
            refine xs_iret i_SD_replay_79 ?_
            exact xs_finE (cd := cd_SD_replay) (show cd_SD_replay [.inr (.inl 0), .inl k] _ = 0 from ec) (rfl) (rfl) (trivial)
          · have ec : sd_yc M k = 3 := by unfold sd_yc; rw [if_pos (am_ite1 h4), if_neg h21, if_pos (show ts_a M k = 0 from h46)]
            exact Or.inr ⟨th_bl[19], by show th_SD_replay 49 = some (sd_yc M k, th_bl[19]); rw [ec]; rfl, rfl, rfl⟩
        · have ec : sd_yc M k = 2 := by unfold sd_yc; rw [if_pos (am_ite1 h4), if_pos h21]
          exact Or.inr ⟨th_bl[15], by show th_SD_replay 24 = some (sd_yc M k, th_bl[15]); rw [ec]; rfl, rfl, rfl⟩
      · have ec : sd_yc M k = 1 := by unfold sd_yc; rw [if_neg (am_ite0 h4)]
        exact Or.inr ⟨th_bl[18], by show th_SD_replay 7 = some (sd_yc M k, th_bl[18]); rw [ec]; rfl, rfl, rfl⟩
    · exact h.elim
theorem ht_lp_r : ∀ (n : Nat) (a k : Int) (M : am_M), k ≤ (ht_lp n a k M).1 ∧ (ht_lp n a k M).1 ≤ k + n
  | 0, _, _, _ => ⟨Int.le_refl _, by show _ ≤ _ + ((0 : Nat) : Int); simp [ht_lp]⟩
  | n + 1, a, k, M => by
    have h := ht_lp_r n (a + 1) (k + ht_c a M) (ht_n a M)
    rw [ht_lp_s]
    have hc : 0 ≤ ht_c a M ∧ ht_c a M ≤ 1 := by unfold ht_c; split <;> omega
    omega
theorem sd_hw_R {M B : am_M} {c : Int} (hI : lw_I M B) (hc : 1 ≤ c ∧ c ≤ 30) : am_R (sd_hw M c) := by
  have n0 := hI.2.1.2.2.1
  have j0 := hI.2.2.1.1.1
  have z := hI.2.2.2.1.2.1
  have u : ∀ n : Nat, n ≤ 40 → 0 ≤ ma_su (fun j => if M 13 j = 0 then 0 else M 33 j) n ∧ ma_su (fun j => if M 13 j = 0 then 0 else M 33 j) n ≤ 30 * n := fun n => by
    induction n with
    | zero => intro _; exact ⟨Int.le_refl _, by show (0 : Int) ≤ 30 * ((0 : Nat) : Int); omega⟩
    | succ n ih =>
      intro hn
      have h := ih (by omega)
      have q : 0 ≤ M 33 n ∧ M 33 n ≤ 30 := (z n (by omega)).1
      simp only [ma_su]
      split <;> omega
  have v := u (M 32 3).toNat (by omega)
  unfold sd_hw am_R
  omega
abbrev t_SD_hard : Room := { frames := 6, cells := 1, slots := 6, locals := 101 }
def P_SD_hard : am_P := fun av M => match av with
  | [.inr (.inl i), .inl c, .inl w] => i = 0 ∧ (am_R c ∧ am_R w) ∧ lw_M M
  | _ => False
def f_SD_hard : am_Fr := fun av M => match av with
  | [.inr (.inl i), .inl c, .inl w] => some (.inl (sd_hf c w M))
  | _ => none
def g_SD_hard : am_Fm := fun av M => match av with
  | [.inr (.inl i), .inl c, .inl w] => sd_hg c w M
  | _ => M
def cd_SD_hard : List am_V → am_M → Int := fun av M => match av with
  | [.inr (.inl i), .inl c, .inl w] => sd_hc M c w
  | _ => 0
def tc_SD_hard : Int → String := fun k => if k = 1 then "java/lang/IllegalArgumentException" else "java/lang/IllegalStateException"
def th_SD_hard : Nat → Option (Int × (String × Nat × Nat × Nat × String)) := fun pc => if pc = 21 then some (1, th_bl[10]) else if pc = 61 then some (2, th_bl[11]) else none
theorem th_SD_hard_ok : th_D b_SD_hard th_SD_hard tc_SD_hard := by
  intro pc k b h
  unfold th_SD_hard at h
  split at h
  · rename_i e
    subst e
    cases h
    exact ⟨by decide, List.getElem_mem _, rfl, d_SD_hard_21, d_SD_hard_24, d_SD_hard_25, d_SD_hard_27, d_SD_hard_30⟩
  split at h
  · rename_i e
    subst e
    cases h
    exact ⟨by decide, List.getElem_mem _, rfl, d_SD_hard_61, d_SD_hard_64, d_SD_hard_65, d_SD_hard_67, d_SD_hard_70⟩
  cases h
def ct_SD_hard : am_T := fun pc => if pc = 4 then some (3, am_ctS P_SD_isWithin (am_po f_SD_isWithin g_SD_isWithin)) else if pc = 15 then some (3, am_ctS P_SD_isWithin (am_po f_SD_isWithin g_SD_isWithin)) else if pc = 79 then some (1, am_ctV vw_S 8 P_QU_hardNeed (am_po f_QU_hardNeed g_QU_hardNeed)) else if pc = 100 then some (4, am_ctV vw_S 10 P_RF_hardTicks (am_po f_RF_hardTicks g_RF_hardTicks)) else if pc = 112 then some (3, am_ctV vw_S 0 P_SD_takeIn (am_po f_SD_takeIn g_SD_takeIn)) else none
theorem e_SD_hard_4 : ct_SD_hard 4 = some (3, am_ctS P_SD_isWithin (am_po f_SD_isWithin g_SD_isWithin)) := rfl
theorem e_SD_hard_15 : ct_SD_hard 15 = some (3, am_ctS P_SD_isWithin (am_po f_SD_isWithin g_SD_isWithin)) := rfl
theorem e_SD_hard_79 : ct_SD_hard 79 = some (1, am_ctV vw_S 8 P_QU_hardNeed (am_po f_QU_hardNeed g_QU_hardNeed)) := rfl
theorem e_SD_hard_100 : ct_SD_hard 100 = some (4, am_ctV vw_S 10 P_RF_hardTicks (am_po f_RF_hardTicks g_RF_hardTicks)) := rfl
theorem e_SD_hard_112 : ct_SD_hard 112 = some (3, am_ctV vw_S 0 P_SD_takeIn (am_po f_SD_takeIn g_SD_takeIn)) := rfl
theorem ct_SD_hard_ok (l : Launch) : am_CC b_SD_hard 4 w_SD_hard y_SD_hard.cls l t_SD_hard ct_SD_hard := by
  intro p e s m args below meth c H0 A D G ad Q S hK hN hA pc q ct h
  have hts := S.2.2.2.2
  unfold ct_SD_hard at h
  split at h
  · rename_i hpc
    subst hpc; cases h
    exact am_callS S vw_N_ok hK hN hA ⟨Nat.zero_le _, Nat.zero_le _⟩ (m_SD_isWithin l) (s_SD_76 hts am_vW hN ⟨by decide, by decide⟩) d_SD_hard_4
  split at h
  · rename_i hpc
    subst hpc; cases h
    exact am_callS S vw_N_ok hK hN hA ⟨Nat.zero_le _, Nat.zero_le _⟩ (m_SD_isWithin l) (s_SD_76 hts am_vW hN ⟨by decide, by decide⟩) d_SD_hard_15
  split at h
  · rename_i hpc
    subst hpc; cases h
    exact am_callV S vw_N_ok hK hN hA ⟨Nat.zero_le _, Nat.zero_le _⟩ (m_QU_hardNeed l) (s_SD_160 hts am_vW hN ⟨by decide, by decide⟩) (by rfl) d_SD_hard_79
  split at h
  · rename_i hpc
    subst hpc; cases h
    exact am_callV S vw_N_ok hK hN hA ⟨Nat.zero_le _, Nat.zero_le _⟩ (m_RF_hardTicks l) (s_SD_170 hts am_vW hN ⟨by decide, by decide⟩) (by rfl) d_SD_hard_100
  split at h
  · rename_i hpc
    subst hpc; cases h
    exact am_callV S vw_N_ok hK hN hA ⟨Nat.zero_le _, Nat.zero_le _⟩ (m_SD_takeIn l) (s_SD_148 hts am_vW hN ⟨by decide, by decide⟩) (by rfl) d_SD_hard_112
  cases h
def inv_SD_hard : List am_V → am_M → Nat → am_K := fun av M _ pc ls st M2 => pc = 0 ∧ ls = am_l0 av 4 ∧ st = [] ∧ M = M2
set_option maxHeartbeats 2000000 in
theorem m_SD_hard (l : Launch) (hfl : l.flags = flags0) : am_ME l y_SD_hard w_SD_hard t_SD_hard P_SD_hard f_SD_hard g_SD_hard cd_SD_hard tc_SD_hard := by
  refine am_mkE (fun pc => pc == 21 || pc == 61) hfl rfl ⟨by decide, by decide, by decide, by decide⟩ th_SD_hard_ok i_SD_hard_ok fd_SD_ok (ct_SD_hard_ok l) (plainFor_of_name (by decide +kernel)) (by decide) ?_ 80 inv_SD_hard ?_ ?_
  · intro av M h
    unfold P_SD_hard at h
    split at h
    · exact ⟨Nat.le_of_ble_eq_true rfl, rfl⟩
    · exact h.elim
  · intro av M h
    unfold P_SD_hard at h
    split at h
    · exact ⟨0, rfl, rfl, rfl, rfl⟩
    · exact h.elim
  · intro av M h μ pc ls st M2 hi
    unfold P_SD_hard at h
    split at h
    · rename_i i c w
      obtain ⟨rfl, ⟨r1, r2⟩, B, hI⟩ := h
      have h08 := hI.2.1.1
      have hT := hI.1
      have j0 := hI.2.2.1.1.1
      have h72 := hT.2.2.2.2.2.2.1.2.2
      obtain ⟨rfl, rfl, rfl, rfl⟩ := hi
      refine xs_iload_n (q := 1) i_SD_hard_0 rfl rfl (xs_n rfl ?_)
      refine xs_iconst (q := 2) i_SD_hard_1 rfl (xs_n rfl ?_)
      refine xs_bipush (q := 4) i_SD_hard_2 rfl (by decide) (xs_n rfl ?_)
      refine xs_cs (q := 7) (av := [_, _, _]) (rest := []) i_SD_hard_4 rfl (e_SD_hard_4) ⟨rfl, rfl⟩ rfl rfl ?_
      rw [am_S_iff]
      refine ⟨⟨r1, by unfold am_R; omega, by unfold am_R; omega⟩, ?_⟩
      dsimp only [g_SD_isWithin, g_id]
      refine xs_r1 rfl (xs_n rfl ?_)
      refine xs_if_eq (q := 21) (r := 10) i_SD_hard_7 rfl rfl am_ite (fun h7 => (xs_z rfl ?_)) (fun h7 => (xs_n rfl ?_))
      · have ec : sd_hc M c w = 1 := by unfold sd_hc; rw [if_neg (fun q => am_ite0 h7 q.1)]
        exact Or.inr ⟨th_bl[10], by show th_SD_hard 21 = some (sd_hc M c w, th_bl[10]); rw [ec]; rfl, rfl, rfl⟩
      · refine xs_iload_n (q := 11) i_SD_hard_10 rfl rfl (xs_n rfl ?_)
        refine xs_iconst (q := 12) i_SD_hard_11 rfl (xs_n rfl ?_)
        refine xs_sipush (q := 15) i_SD_hard_12 rfl (by decide) (xs_n rfl ?_)
        refine xs_cs (q := 18) (av := [_, _, _]) (rest := []) i_SD_hard_15 rfl (e_SD_hard_15) ⟨rfl, rfl⟩ rfl rfl ?_
        rw [am_S_iff]
        refine ⟨⟨r2, by unfold am_R; omega, by unfold am_R; omega⟩, ?_⟩
        dsimp only [g_SD_isWithin, g_id]
        refine xs_r1 rfl (xs_n rfl ?_)
        refine xs_if_ne (q := 31) (r := 21) i_SD_hard_18 rfl rfl am_ite (fun h18 => (xs_n rfl ?_)) (fun h18 => (xs_z rfl ?_))
        · refine xs_aload_n (q := 32) i_SD_hard_31 rfl rfl (xs_n rfl ?_)
          refine xs_geti (q := 35) i_SD_hard_32 rfl fd_SD_68 sg_0 rfl (xs_n rfl ?_)
          refine xs_if_eq (q := 61) (r := 38) i_SD_hard_35 rfl rfl (by unfold am_R; omega) (fun h35 => (xs_z rfl ?_)) (fun h35 => (xs_n rfl ?_))
          · have ec : sd_hc M c w = 2 := by unfold sd_hc; rw [if_pos (show ((1 ≤ c ∧ c ≤ 30) ∧ (1 ≤ w ∧ w ≤ 200)) from ⟨am_ite1 h7, am_ite1 h18⟩), if_pos (Or.inl h35)]
            exact Or.inr ⟨th_bl[11], by show th_SD_hard 61 = some (sd_hc M c w, th_bl[11]); rw [ec]; rfl, rfl, rfl⟩
          · refine xs_aload_n (q := 39) i_SD_hard_38 rfl rfl (xs_n rfl ?_)
            refine xs_getr (q := 42) i_SD_hard_39 rfl fd_SD_26 sg_0 rfl (xs_n rfl ?_)
            refine xs_geti (q := 45) i_SD_hard_42 rfl fd_SD_145 sg_10 rfl (xs_n rfl ?_)
            refine xs_bipush (q := 47) i_SD_hard_45 rfl (by decide) (xs_n rfl ?_)
            refine xs_ic_ge (q := 61) (r := 50) i_SD_hard_47 rfl rfl ⟨by unfold am_R; omega, by unfold am_R; omega⟩ (fun h47 => (xs_z rfl ?_)) (fun h47 => (xs_n rfl ?_))
            · have ec : sd_hc M c w = 2 := by unfold sd_hc; rw [if_pos (show ((1 ≤ c ∧ c ≤ 30) ∧ (1 ≤ w ∧ w ≤ 200)) from ⟨am_ite1 h7, am_ite1 h18⟩), if_pos (Or.inr (Or.inl h47))]
              exact Or.inr ⟨th_bl[11], by show th_SD_hard 61 = some (sd_hc M c w, th_bl[11]); rw [ec]; rfl, rfl, rfl⟩
            · refine xs_aload_n (q := 51) i_SD_hard_50 rfl rfl (xs_n rfl ?_)
              refine xs_getr (q := 54) i_SD_hard_51 rfl fd_SD_19 sg_0 rfl (xs_n rfl ?_)
              refine xs_geti (q := 57) i_SD_hard_54 rfl fd_SD_127 sg_7 rfl (xs_n rfl ?_)
              refine xs_iconst (q := 58) i_SD_hard_57 rfl (xs_n rfl ?_)
              refine xs_ic_eq (q := 71) (r := 61) i_SD_hard_58 rfl rfl ⟨by unfold am_R; omega, by unfold am_R; omega⟩ (fun h58 => (xs_n rfl ?_)) (fun h58 => (xs_z rfl ?_))
              · have ec : sd_hc M c w = 0 := (by unfold sd_hc; rw [if_pos (show ((1 ≤ c ∧ c ≤ 30) ∧ (1 ≤ w ∧ w ≤ 200)) from ⟨am_ite1 h7, am_ite1 h18⟩), if_neg (fun q => q.elim h35 (fun z => z.elim (fun y => by omega) (fun y => y h58)))] : sd_hc M c w = 0)
                have hM := (sd_hard hI ⟨r1, r2⟩).2.2.2 ec
                refine xs_iload_n (q := 72) i_SD_hard_71 rfl rfl (xs_n rfl ?_)
                refine xs_aload_n (q := 73) i_SD_hard_72 rfl rfl (xs_n rfl ?_)
                refine xs_getr (q := 76) i_SD_hard_73 rfl fd_SD_51 sg_0 rfl (xs_n rfl ?_)
                refine xs_getr (q := 79) i_SD_hard_76 rfl fd_SD_156 sg_26 rfl (xs_n rfl ?_)
                refine xs_cv (q := 82) (av := [_]) (rest := [_]) i_SD_hard_79 rfl (e_SD_hard_79) ⟨rfl, rfl⟩ rfl rfl ?_
                rw [am_V_iff]
                refine ⟨⟨_, sg_32⟩, hM.1, ?_⟩
                dsimp only [g_QU_hardNeed, g_id]
                refine xs_r1 rfl (xs_n rfl ?_)
                refine xs_iadd (q := 83) i_SD_hard_82 rfl (xs_n rfl ?_)
                refine xs_istore_n (q := 84) (ls2 := [_, _, _, _]) i_SD_hard_83 rfl rfl rfl (xs_n rfl ?_)
                refine xs_aload_n (q := 85) i_SD_hard_84 rfl rfl (xs_n rfl ?_)
                refine xs_getr (q := 88) i_SD_hard_85 rfl fd_SD_60 sg_0 rfl (xs_n rfl ?_)
                refine xs_aload_n (q := 89) i_SD_hard_88 rfl rfl (xs_n rfl ?_)
                refine xs_getr (q := 92) i_SD_hard_89 rfl fd_SD_51 sg_0 rfl (xs_n rfl ?_)
                refine xs_getr (q := 95) i_SD_hard_92 rfl fd_SD_166 sg_26 rfl (xs_n rfl ?_)
                refine xs_aload_n (q := 96) i_SD_hard_95 rfl rfl (xs_n rfl ?_)
                refine xs_geti (q := 99) i_SD_hard_96 rfl fd_SD_72 sg_0 rfl (xs_n rfl ?_)
                refine xs_iload_n (q := 100) i_SD_hard_99 rfl rfl (xs_n rfl ?_)
                refine xs_cv (q := 103) (av := [_, _, _, _]) (rest := []) i_SD_hard_100 rfl (e_SD_hard_100) ⟨rfl, rfl⟩ rfl rfl ?_
                rw [am_V_iff]
                refine ⟨⟨_, sg_48⟩, hM.2.1, ?_⟩
                refine xs_r1 rfl (xs_n rfl ?_)
                refine xs_iload_n (q := 104) i_SD_hard_103 rfl rfl (xs_n rfl ?_)
                refine xs_ic_ge (q := 109) (r := 107) i_SD_hard_104 rfl rfl ⟨by have q := ht_lp_r w.toNat (M 0 9) 0 (ht_cp M); show am_R (sd_hX w M).1; have q9 : 1 ≤ w ∧ w ≤ 200 := am_ite1 h18; unfold sd_hX am_R; omega, sd_hw_R hI (am_ite1 h7)⟩ (fun h104 => (xs_n rfl ?_)) (fun h104 => (xs_n rfl ?_))
                · refine xs_aload_n (q := 110) i_SD_hard_109 rfl rfl (xs_n rfl ?_)
                  refine xs_iload_n (q := 111) i_SD_hard_110 rfl rfl (xs_n rfl ?_)
                  refine xs_iconst (q := 112) i_SD_hard_111 rfl (xs_n rfl ?_)
                  refine xs_cv (q := 115) (av := [_, _, _]) (rest := []) i_SD_hard_112 rfl (e_SD_hard_112) ⟨rfl, rfl⟩ rfl rfl ?_
                  rw [am_V_iff]
                  refine ⟨⟨_, sg_0⟩, hM.2.2, ?_⟩
                  refine xs_r1 rfl (xs_n rfl ?_)
                  refine xs_iret i_SD_hard_115 ?_
                  exact xs_finE (cd := cd_SD_hard) (show cd_SD_hard [.inr (.inl 0), .inl c, .inl w] _ = 0 from ec) (by show (some (.inl (sd_hf c w M)) : Option am_V) = _; unfold sd_hf; rw [if_neg (show ¬ (sd_hX w M).1 < sd_hw M c from Int.not_lt.mpr h104)]; exact (congrArg (fun z => (some (Sum.inl z) : Option am_V)) (sd_hX_k (A := M) (w := w) (k := 10) (j := 3) (by omega)).symm)) (by show sd_hg c w M = _; unfold sd_hg; rw [if_neg (show ¬ (sd_hX w M).1 < sd_hw M c from Int.not_lt.mpr h104)]; rfl) (trivial)
                · refine xs_iconst (q := 108) i_SD_hard_107 rfl (xs_n rfl ?_)
                  refine xs_iret i_SD_hard_108 ?_
                  exact xs_finE (cd := cd_SD_hard) (show cd_SD_hard [.inr (.inl 0), .inl c, .inl w] _ = 0 from ec) (by show (some (.inl (sd_hf c w M)) : Option am_V) = _; unfold sd_hf; rw [if_pos (show (sd_hX w M).1 < sd_hw M c from h104)]) (by show sd_hg c w M = _; unfold sd_hg; rw [if_pos (show (sd_hX w M).1 < sd_hw M c from h104)]; rfl) (trivial)
              · have ec : sd_hc M c w = 2 := by unfold sd_hc; rw [if_pos (show ((1 ≤ c ∧ c ≤ 30) ∧ (1 ≤ w ∧ w ≤ 200)) from ⟨am_ite1 h7, am_ite1 h18⟩), if_pos (Or.inr (Or.inr h58))]
                exact Or.inr ⟨th_bl[11], by show th_SD_hard 61 = some (sd_hc M c w, th_bl[11]); rw [ec]; rfl, rfl, rfl⟩
        · have ec : sd_hc M c w = 1 := by unfold sd_hc; rw [if_neg (fun q => am_ite0 h18 q.2)]
          exact Or.inr ⟨th_bl[10], by show th_SD_hard 21 = some (sd_hc M c w, th_bl[10]); rw [ec]; rfl, rfl, rfl⟩
    · exact h.elim
