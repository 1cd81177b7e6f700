/-! the class's methods that may throw: task, rule, start, job (wip/whole/p92.py) -/
theorem xs_finE {cd : List am_V → am_M → Int} {f : am_Fr} {g : am_Fm} {av : List am_V} {M M' : am_M} {r : Option am_V} {ret : Option FieldType} (h0 : cd av M = 0) (h1 : f av M = r) (h2 : g av M = M') (h3 : am_rt ret r) : (cd av M = 0 ∧ am_po f g av M r M') ∧ am_rt ret r := ⟨⟨h0, h1.symm, h2.symm⟩, h3⟩
def lw_M (M : am_M) : Prop := ∃ B : am_M, lw_I M B
theorem sd_lcR {h p : Int} (hh : 1 ≤ h ∧ h ≤ 2000) (hp : 1 ≤ p ∧ p ≤ 60) : am_R (h / ((Nat.gcd h.toNat p.toNat : Nat) : Int) * p) := by
  have q0 : 0 ≤ h / ((Nat.gcd h.toNat p.toNat : Nat) : Int) := Int.ediv_nonneg (by omega) (by omega)
  have q1 : h / ((Nat.gcd h.toNat p.toNat : Nat) : Int) ≤ h := Int.ediv_le_self _ (by omega)
  have q2 := Int.mul_le_mul q1 hp.2 (by omega) (by omega)
  have q3 := Int.mul_nonneg q0 (show 0 ≤ p by omega)
  unfold am_R
  omega
theorem ts_a_01 (M : am_M) (k : Int) : ts_a M k = 0 ∨ ts_a M k = 1 := by
  unfold ts_a
  split
  · exact Or.inl rfl
  · exact Or.inr rfl
abbrev t_SD_task : Room := { frames := 6, cells := 1, slots := 6, locals := 100 }
def P_SD_task : am_P := fun av M => match av with
  | [.inr (.inl i), .inl p, .inl f, .inl c, .inl d] => i = 0 ∧ (am_R p ∧ am_R f ∧ am_R c ∧ am_R d) ∧ lw_M M
  | _ => False
def f_SD_task : am_Fr := fun av M => match av with
  | [.inr (.inl i), .inl p, .inl f, .inl c, .inl d] => some (.inl (M 1 5))
  | _ => none
def g_SD_task : am_Fm := fun av M => match av with
  | [.inr (.inl i), .inl p, .inl f, .inl c, .inl d] => ts_ad p f c d M
  | _ => M
def cd_SD_task : List am_V → am_M → Int := fun av M => match av with
  | [.inr (.inl i), .inl p, .inl f, .inl c, .inl d] => sd_tc M p f c d
  | _ => 0
def tc_SD_task : Int → String := fun k => if k = 1 then "java/lang/IllegalArgumentException" else if k = 2 then "java/lang/IllegalStateException" else "java/lang/UnsupportedOperationException"
def th_SD_task : Nat → Option (Int × (String × Nat × Nat × Nat × String)) := fun pc => if pc = 41 then some (1, th_bl[0]) else if pc = 69 then some (2, th_bl[1]) else if pc = 93 then some (3, th_bl[2]) else none
theorem th_SD_task_ok : th_D b_SD_task th_SD_task tc_SD_task := by
  intro pc k b h
  unfold th_SD_task at h
  split at h
  · rename_i e
    subst e
    cases h
    exact ⟨by decide, List.getElem_mem _, rfl, d_SD_task_41, d_SD_task_44, d_SD_task_45, d_SD_task_47, d_SD_task_50⟩
  split at h
  · rename_i e
    subst e
    cases h
    exact ⟨by decide, List.getElem_mem _, rfl, d_SD_task_69, d_SD_task_72, d_SD_task_73, d_SD_task_75, d_SD_task_78⟩
  split at h
  · rename_i e
    subst e
    cases h
    exact ⟨by decide, List.getElem_mem _, rfl, d_SD_task_93, d_SD_task_96, d_SD_task_97, d_SD_task_99, d_SD_task_102⟩
  cases h
def ct_SD_task : am_T := fun pc => if pc = 4 then some (3, am_ctS P_SD_isWithin (am_po f_SD_isWithin g_SD_isWithin)) else if pc = 15 then some (3, am_ctS P_SD_isWithin (am_po f_SD_isWithin g_SD_isWithin)) else if pc = 25 then some (3, am_ctS P_SD_isWithin (am_po f_SD_isWithin g_SD_isWithin)) else if pc = 35 then some (3, am_ctS P_SD_isWithin (am_po f_SD_isWithin g_SD_isWithin)) else if pc = 84 then some (2, am_ctV vw_S 1 P_TS_hyperperiodWith (am_po f_TS_hyperperiodWith g_TS_hyperperiodWith)) else if pc = 112 then some (5, am_ctV vw_S 1 P_TS_add (am_po f_TS_add g_TS_add)) else none
theorem e_SD_task_4 : ct_SD_task 4 = some (3, am_ctS P_SD_isWithin (am_po f_SD_isWithin g_SD_isWithin)) := rfl
theorem e_SD_task_15 : ct_SD_task 15 = some (3, am_ctS P_SD_isWithin (am_po f_SD_isWithin g_SD_isWithin)) := rfl
theorem e_SD_task_25 : ct_SD_task 25 = some (3, am_ctS P_SD_isWithin (am_po f_SD_isWithin g_SD_isWithin)) := rfl
theorem e_SD_task_35 : ct_SD_task 35 = some (3, am_ctS P_SD_isWithin (am_po f_SD_isWithin g_SD_isWithin)) := rfl
theorem e_SD_task_84 : ct_SD_task 84 = some (2, am_ctV vw_S 1 P_TS_hyperperiodWith (am_po f_TS_hyperperiodWith g_TS_hyperperiodWith)) := rfl
theorem e_SD_task_112 : ct_SD_task 112 = some (5, am_ctV vw_S 1 P_TS_add (am_po f_TS_add g_TS_add)) := rfl
theorem ct_SD_task_ok (l : Launch) : am_CC b_SD_task 5 w_SD_task y_SD_task.cls l t_SD_task ct_SD_task := by
  intro p e s m args below meth c H0 A D G ad Q S hK hN hA pc q ct h
  have hts := S.2.2.2.2
  unfold ct_SD_task at h
  split at h
  · rename_i hpc
    subst hpc; cases h
    exact am_callS S vw_N_ok hK hN hA ⟨Nat.zero_le _, Nat.zero_le _⟩ (m_SD_isWithin l) (s_SD_76 hts am_vW hN ⟨by decide, by decide⟩) d_SD_task_4
  split at h
  · rename_i hpc
    subst hpc; cases h
    exact am_callS S vw_N_ok hK hN hA ⟨Nat.zero_le _, Nat.zero_le _⟩ (m_SD_isWithin l) (s_SD_76 hts am_vW hN ⟨by decide, by decide⟩) d_SD_task_15
  split at h
  · rename_i hpc
    subst hpc; cases h
    exact am_callS S vw_N_ok hK hN hA ⟨Nat.zero_le _, Nat.zero_le _⟩ (m_SD_isWithin l) (s_SD_76 hts am_vW hN ⟨by decide, by decide⟩) d_SD_task_25
  split at h
  · rename_i hpc
    subst hpc; cases h
    exact am_callS S vw_N_ok hK hN hA ⟨Nat.zero_le _, Nat.zero_le _⟩ (m_SD_isWithin l) (s_SD_76 hts am_vW hN ⟨by decide, by decide⟩) d_SD_task_35
  split at h
  · rename_i hpc
    subst hpc; cases h
    exact am_callV S vw_N_ok hK hN hA ⟨Nat.zero_le _, Nat.zero_le _⟩ (m_TS_hyperperiodWith l) (s_SD_95 hts am_vW hN ⟨by decide, by decide⟩) (by rfl) d_SD_task_84
  split at h
  · rename_i hpc
    subst hpc; cases h
    exact am_callV S vw_N_ok hK hN hA ⟨Nat.zero_le _, Nat.zero_le _⟩ (m_TS_add l) (s_SD_104 hts am_vW hN ⟨by decide, by decide⟩) (by rfl) d_SD_task_112
  cases h
def inv_SD_task : List am_V → am_M → Nat → am_K := fun av M _ pc ls st M2 => pc = 0 ∧ ls = am_l0 av 5 ∧ st = [] ∧ M = M2
set_option maxHeartbeats 2000000 in
theorem m_SD_task (l : Launch) (hfl : l.flags = flags0) : am_ME l y_SD_task w_SD_task t_SD_task P_SD_task f_SD_task g_SD_task cd_SD_task tc_SD_task := by
  refine am_mkE (fun pc => pc == 41 || pc == 69 || pc == 93) hfl rfl ⟨by decide, by decide, by decide, by decide⟩ th_SD_task_ok i_SD_task_ok fd_SD_ok (ct_SD_task_ok l) (plainFor_of_name (by decide +kernel)) (by decide) ?_ 80 inv_SD_task ?_ ?_
  · intro av M h
    unfold P_SD_task at h
    split at h
    · exact ⟨Nat.le_of_ble_eq_true rfl, rfl⟩
    · exact h.elim
  · intro av M h
    unfold P_SD_task at h
    split at h
    · exact ⟨0, rfl, rfl, rfl, rfl⟩
    · exact h.elim
  · intro av M h μ pc ls st M2 hi
    unfold P_SD_task at h
    split at h
    · rename_i i p f c d
      obtain ⟨rfl, ⟨r1, r2, r3, r4⟩, B, hI⟩ := h
      have hT := hI.1
      have h08 := hI.2.1.1
      have ts5 := hT.2.1.1
      have h16 : 1 ≤ M 1 6 ∧ M 1 6 ≤ 2000 := by
        have q := hT.2.2.2.2.1 (B 50 1).toNat (by have := hT.1.1; omega)
        have e4 : M 1 6 = mo_hy B (B 50 1).toNat := hT.2.2.2.1
        rw [e4]; exact q
      obtain ⟨rfl, rfl, rfl, rfl⟩ := hi
      refine xs_iload_n (q := 1) i_SD_task_0 rfl rfl (xs_n rfl ?_)
      refine xs_iconst (q := 2) i_SD_task_1 rfl (xs_n rfl ?_)
      refine xs_bipush (q := 4) i_SD_task_2 rfl (by decide) (xs_n rfl ?_)
      refine xs_cs (q := 7) (av := [_, _, _]) (rest := []) i_SD_task_4 rfl (e_SD_task_4) ⟨rfl, rfl⟩ rfl rfl ?_
      rw [am_S_iff]
      refine ⟨⟨r1, by unfold am_R; omega, by unfold am_R; omega⟩, ?_⟩
      dsimp only [g_SD_isWithin, g_id]
      refine xs_r1 rfl (xs_n rfl ?_)
      refine xs_if_eq (q := 41) (r := 10) i_SD_task_7 rfl rfl am_ite (fun h7 => (xs_z rfl ?_)) (fun h7 => (xs_n rfl ?_))
      · have ec : sd_tc M p f c d = 1 := by unfold sd_tc; rw [if_neg (fun q => am_ite0 h7 q.1)]
        exact Or.inr ⟨th_bl[0], by show th_SD_task 41 = some (sd_tc M p f c d, th_bl[0]); rw [ec]; rfl, rfl, rfl⟩
      · refine xs_iload_n (q := 11) i_SD_task_10 rfl rfl (xs_n rfl ?_)
        refine xs_iconst (q := 12) i_SD_task_11 rfl (xs_n rfl ?_)
        refine xs_iload_n (q := 13) i_SD_task_12 rfl rfl (xs_n rfl ?_)
        refine xs_iconst (q := 14) i_SD_task_13 rfl (xs_n rfl ?_)
        refine xs_isub (q := 15) i_SD_task_14 rfl (xs_n rfl ?_)
        refine xs_cs (q := 18) (av := [_, _, _]) (rest := []) i_SD_task_15 rfl (e_SD_task_15) ⟨rfl, rfl⟩ rfl rfl ?_
        rw [am_S_iff]
        refine ⟨⟨r2, by unfold am_R; omega, by have q7 : 1 ≤ p ∧ p ≤ 60 := am_ite1 h7; unfold am_R; omega⟩, ?_⟩
        dsimp only [g_SD_isWithin, g_id]
        refine xs_r1 rfl (xs_n rfl ?_)
        refine xs_if_eq (q := 41) (r := 21) i_SD_task_18 rfl rfl am_ite (fun h18 => (xs_z rfl ?_)) (fun h18 => (xs_n rfl ?_))
        · have ec : sd_tc M p f c d = 1 := by unfold sd_tc; rw [if_neg (fun q => am_ite0 h18 q.2.1)]
          exact Or.inr ⟨th_bl[0], by show th_SD_task 41 = some (sd_tc M p f c d, th_bl[0]); rw [ec]; rfl, rfl, rfl⟩
        · refine xs_iload_n (q := 22) i_SD_task_21 rfl rfl (xs_n rfl ?_)
          refine xs_iconst (q := 23) i_SD_task_22 rfl (xs_n rfl ?_)
          refine xs_bipush (q := 25) i_SD_task_23 rfl (by decide) (xs_n rfl ?_)
          refine xs_cs (q := 28) (av := [_, _, _]) (rest := []) i_SD_task_25 rfl (e_SD_task_25) ⟨rfl, rfl⟩ rfl rfl ?_
          rw [am_S_iff]
          refine ⟨⟨r3, by unfold am_R; omega, by unfold am_R; omega⟩, ?_⟩
          dsimp only [g_SD_isWithin, g_id]
          refine xs_r1 rfl (xs_n rfl ?_)
          refine xs_if_eq (q := 41) (r := 31) i_SD_task_28 rfl rfl am_ite (fun h28 => (xs_z rfl ?_)) (fun h28 => (xs_n rfl ?_))
          · have ec : sd_tc M p f c d = 1 := by unfold sd_tc; rw [if_neg (fun q => am_ite0 h28 q.2.2.1)]
            exact Or.inr ⟨th_bl[0], by show th_SD_task 41 = some (sd_tc M p f c d, th_bl[0]); rw [ec]; rfl, rfl, rfl⟩
          · refine xs_iload (q := 33) i_SD_task_31 rfl rfl (xs_n rfl ?_)
            refine xs_iload_n (q := 34) i_SD_task_33 rfl rfl (xs_n rfl ?_)
            refine xs_iload_n (q := 35) i_SD_task_34 rfl rfl (xs_n rfl ?_)
            refine xs_cs (q := 38) (av := [_, _, _]) (rest := []) i_SD_task_35 rfl (e_SD_task_35) ⟨rfl, rfl⟩ rfl rfl ?_
            rw [am_S_iff]
            refine ⟨⟨r4, r3, r1⟩, ?_⟩
            dsimp only [g_SD_isWithin, g_id]
            refine xs_r1 rfl (xs_n rfl ?_)
            refine xs_if_ne (q := 51) (r := 41) i_SD_task_38 rfl rfl am_ite (fun h38 => (xs_n rfl ?_)) (fun h38 => (xs_z rfl ?_))
            · refine xs_aload_n (q := 52) i_SD_task_51 rfl rfl (xs_n rfl ?_)
              refine xs_geti (q := 55) i_SD_task_52 rfl fd_SD_68 sg_0 rfl (xs_n rfl ?_)
              refine xs_if_ne (q := 69) (r := 58) i_SD_task_55 rfl rfl (by unfold am_R; omega) (fun h55 => (xs_z rfl ?_)) (fun h55 => (xs_n rfl ?_))
              · have ec : sd_tc M p f c d = 2 := by unfold sd_tc; rw [if_pos (show ((1 ≤ p ∧ p ≤ 60) ∧ (0 ≤ f ∧ f ≤ p - 1) ∧ (1 ≤ c ∧ c ≤ 60) ∧ (c ≤ d ∧ d ≤ p)) from ⟨am_ite1 h7, am_ite1 h18, am_ite1 h28, am_ite1 h38⟩), if_pos (Or.inl h55)]
                exact Or.inr ⟨th_bl[1], by show th_SD_task 69 = some (sd_tc M p f c d, th_bl[1]); rw [ec]; rfl, rfl, rfl⟩
              · refine xs_aload_n (q := 59) i_SD_task_58 rfl rfl (xs_n rfl ?_)
                refine xs_getr (q := 62) i_SD_task_59 rfl fd_SD_10 sg_0 rfl (xs_n rfl ?_)
                refine xs_geti (q := 65) i_SD_task_62 rfl fd_SD_87 sg_1 rfl (xs_n rfl ?_)
                refine xs_iconst (q := 66) i_SD_task_65 rfl (xs_n rfl ?_)
                refine xs_ic_lt (q := 79) (r := 69) i_SD_task_66 rfl rfl ⟨by unfold am_R; omega, by unfold am_R; omega⟩ (fun h66 => (xs_n rfl ?_)) (fun h66 => (xs_z rfl ?_))
                · refine xs_aload_n (q := 80) i_SD_task_79 rfl rfl (xs_n rfl ?_)
                  refine xs_getr (q := 83) i_SD_task_80 rfl fd_SD_10 sg_0 rfl (xs_n rfl ?_)
                  refine xs_iload_n (q := 84) i_SD_task_83 rfl rfl (xs_n rfl ?_)
                  refine xs_cv (q := 87) (av := [_, _]) (rest := []) i_SD_task_84 rfl (e_SD_task_84) ⟨rfl, rfl⟩ rfl rfl ?_
                  rw [am_V_iff]
                  refine ⟨⟨_, sg_1⟩, ⟨rfl, h16, am_ite1 h7⟩, ?_⟩
                  dsimp only [g_TS_hyperperiodWith, g_id]
                  refine xs_r1 rfl (xs_n rfl ?_)
                  refine xs_sipush (q := 90) i_SD_task_87 rfl (by decide) (xs_n rfl ?_)
                  refine xs_ic_le (q := 103) (r := 93) i_SD_task_90 rfl rfl ⟨by have q7 : 1 ≤ p ∧ p ≤ 60 := am_ite1 h7; exact sd_lcR h16 q7, by unfold am_R; omega⟩ (fun h90 => (xs_n rfl ?_)) (fun h90 => (xs_z rfl ?_))
                  · refine xs_aload_n (q := 104) i_SD_task_103 rfl rfl (xs_n rfl ?_)
                    refine xs_getr (q := 107) i_SD_task_104 rfl fd_SD_10 sg_0 rfl (xs_n rfl ?_)
                    refine xs_iload_n (q := 108) i_SD_task_107 rfl rfl (xs_n rfl ?_)
                    refine xs_iload_n (q := 109) i_SD_task_108 rfl rfl (xs_n rfl ?_)
                    refine xs_iload_n (q := 110) i_SD_task_109 rfl rfl (xs_n rfl ?_)
                    refine xs_iload (q := 112) i_SD_task_110 rfl rfl (xs_n rfl ?_)
                    refine xs_cv (q := 115) (av := [_, _, _, _, _]) (rest := []) i_SD_task_112 rfl (e_SD_task_112) ⟨rfl, rfl⟩ rfl rfl ?_
                    rw [am_V_iff]
                    refine ⟨⟨_, sg_1⟩, ⟨rfl, h66, h16, am_ite1 h7, r4, hT.2.1⟩, ?_⟩
                    refine xs_r1 rfl (xs_n rfl ?_)
                    refine xs_iret i_SD_task_115 ?_
                    have ec : sd_tc M p f c d = 0 := by unfold sd_tc; rw [if_pos (show ((1 ≤ p ∧ p ≤ 60) ∧ (0 ≤ f ∧ f ≤ p - 1) ∧ (1 ≤ c ∧ c ≤ 60) ∧ (c ≤ d ∧ d ≤ p)) from ⟨am_ite1 h7, am_ite1 h18, am_ite1 h28, am_ite1 h38⟩), if_neg (fun q => q.elim (fun z => z h55) (fun z => by omega)), if_neg (Int.not_lt.mpr h90)]
                    exact xs_finE (cd := cd_SD_task) (show cd_SD_task [.inr (.inl 0), .inl p, .inl f, .inl c, .inl d] _ = 0 from ec) (rfl) (rfl) (trivial)
                  · have ec : sd_tc M p f c d = 3 := by unfold sd_tc; rw [if_pos (show ((1 ≤ p ∧ p ≤ 60) ∧ (0 ≤ f ∧ f ≤ p - 1) ∧ (1 ≤ c ∧ c ≤ 60) ∧ (c ≤ d ∧ d ≤ p)) from ⟨am_ite1 h7, am_ite1 h18, am_ite1 h28, am_ite1 h38⟩), if_neg (fun q => q.elim (fun z => z h55) (fun z => by omega)), if_pos h90]
                    exact Or.inr ⟨th_bl[2], by show th_SD_task 93 = some (sd_tc M p f c d, th_bl[2]); rw [ec]; rfl, rfl, rfl⟩
                · have ec : sd_tc M p f c d = 2 := by unfold sd_tc; rw [if_pos (show ((1 ≤ p ∧ p ≤ 60) ∧ (0 ≤ f ∧ f ≤ p - 1) ∧ (1 ≤ c ∧ c ≤ 60) ∧ (c ≤ d ∧ d ≤ p)) from ⟨am_ite1 h7, am_ite1 h18, am_ite1 h28, am_ite1 h38⟩), if_pos (Or.inr h66)]
                  exact Or.inr ⟨th_bl[1], by show th_SD_task 69 = some (sd_tc M p f c d, th_bl[1]); rw [ec]; rfl, rfl, rfl⟩
            · have ec : sd_tc M p f c d = 1 := by unfold sd_tc; rw [if_neg (fun q => am_ite0 h38 q.2.2.2)]
              exact Or.inr ⟨th_bl[0], by show th_SD_task 41 = some (sd_tc M p f c d, th_bl[0]); rw [ec]; rfl, rfl, rfl⟩
    · exact h.elim
abbrev t_SD_rule : Room := { frames := 6, cells := 1, slots := 6, locals := 100 }
def P_SD_rule : am_P := fun av M => match av with
  | [.inr (.inl i), .inl k, .inl b, .inl p] => i = 0 ∧ (am_R k ∧ am_R b ∧ am_R p) ∧ lw_M M
  | _ => False
def f_SD_rule : am_Fr := fun av M => match av with
  | [.inr (.inl i), .inl k, .inl b, .inl p] => some (.inl (ts_a (sd_rX k b p M) k))
  | _ => none
def g_SD_rule : am_Fm := fun av M => match av with
  | [.inr (.inl i), .inl k, .inl b, .inl p] => sd_rg k b p M
  | _ => M
def cd_SD_rule : List am_V → am_M → Int := fun av M => match av with
  | [.inr (.inl i), .inl k, .inl b, .inl p] => sd_rc M k b p
  | _ => 0
def tc_SD_rule : Int → String := fun k => if k = 1 then "java/lang/IllegalArgumentException" else "java/lang/IllegalStateException"
def th_SD_rule : Nat → Option (Int × (String × Nat × Nat × Nat × String)) := fun pc => if pc = 16 then some (1, th_bl[3]) else if pc = 33 then some (2, th_bl[4]) else none
theorem th_SD_rule_ok : th_D b_SD_rule th_SD_rule tc_SD_rule := by
  intro pc k b h
  unfold th_SD_rule at h
  split at h
  · rename_i e
    subst e
    cases h
    exact ⟨by decide, List.getElem_mem _, rfl, d_SD_rule_16, d_SD_rule_19, d_SD_rule_20, d_SD_rule_22, d_SD_rule_25⟩
  split at h
  · rename_i e
    subst e
    cases h
    exact ⟨by decide, List.getElem_mem _, rfl, d_SD_rule_33, d_SD_rule_36, d_SD_rule_37, d_SD_rule_39, d_SD_rule_42⟩
  cases h
def ct_SD_rule : am_T := fun pc => if pc = 1 then some (1, am_ctS P_SD_isKind (am_po f_SD_isKind g_SD_isKind)) else if pc = 10 then some (3, am_ctS P_RB_mayHave (am_po f_RB_mayHave g_RB_mayHave)) else if pc = 50 then some (4, am_ctV vw_S 2 P_RB_keep (am_po f_RB_keep g_RB_keep)) else if pc = 62 then some (3, am_ctV vw_S 1 P_TS_admit (am_po f_TS_admit g_TS_admit)) else none
theorem e_SD_rule_1 : ct_SD_rule 1 = some (1, am_ctS P_SD_isKind (am_po f_SD_isKind g_SD_isKind)) := rfl
theorem e_SD_rule_10 : ct_SD_rule 10 = some (3, am_ctS P_RB_mayHave (am_po f_RB_mayHave g_RB_mayHave)) := rfl
theorem e_SD_rule_50 : ct_SD_rule 50 = some (4, am_ctV vw_S 2 P_RB_keep (am_po f_RB_keep g_RB_keep)) := rfl
theorem e_SD_rule_62 : ct_SD_rule 62 = some (3, am_ctV vw_S 1 P_TS_admit (am_po f_TS_admit g_TS_admit)) := rfl
theorem ct_SD_rule_ok (l : Launch) : am_CC b_SD_rule 5 w_SD_rule y_SD_rule.cls l t_SD_rule ct_SD_rule := by
  intro p e s m args below meth c H0 A D G ad Q S hK hN hA pc q ct h
  have hts := S.2.2.2.2
  unfold ct_SD_rule at h
  split at h
  · rename_i hpc
    subst hpc; cases h
    exact am_callS S vw_N_ok hK hN hA ⟨Nat.zero_le _, Nat.zero_le _⟩ (m_SD_isKind l) (s_SD_108 hts am_vW hN ⟨by decide, by decide⟩) d_SD_rule_1
  split at h
  · rename_i hpc
    subst hpc; cases h
    exact am_callS S vw_N_ok hK hN hA ⟨Nat.zero_le _, Nat.zero_le _⟩ (m_RB_mayHave l) (s_SD_112 hts am_vW hN ⟨by decide, by decide⟩) d_SD_rule_10
  split at h
  · rename_i hpc
    subst hpc; cases h
    exact am_callV S vw_N_ok hK hN hA ⟨Nat.zero_le _, Nat.zero_le _⟩ (m_RB_keep l) (s_SD_119 hts am_vW hN ⟨by decide, by decide⟩) (by rfl) d_SD_rule_50
  split at h
  · rename_i hpc
    subst hpc; cases h
    exact am_callV S vw_N_ok hK hN hA ⟨Nat.zero_le _, Nat.zero_le _⟩ (m_TS_admit l) (s_SD_123 hts am_vW hN ⟨by decide, by decide⟩) (by rfl) d_SD_rule_62
  cases h
def inv_SD_rule : List am_V → am_M → Nat → am_K := fun av M _ pc ls st M2 => pc = 0 ∧ ls = am_l0 av 5 ∧ st = [] ∧ M = M2
set_option maxHeartbeats 2000000 in
theorem m_SD_rule (l : Launch) (hfl : l.flags = flags0) : am_ME l y_SD_rule w_SD_rule t_SD_rule P_SD_rule f_SD_rule g_SD_rule cd_SD_rule tc_SD_rule := by
  refine am_mkE (fun pc => pc == 16 || pc == 33) hfl rfl ⟨by decide, by decide, by decide, by decide⟩ th_SD_rule_ok i_SD_rule_ok fd_SD_ok (ct_SD_rule_ok l) (plainFor_of_name (by decide +kernel)) (by decide) ?_ 80 inv_SD_rule ?_ ?_
  · intro av M h
    unfold P_SD_rule at h
    split at h
    · exact ⟨Nat.le_of_ble_eq_true rfl, rfl⟩
    · exact h.elim
  · intro av M h
    unfold P_SD_rule at h
    split at h
    · exact ⟨0, rfl, rfl, rfl, rfl⟩
    · exact h.elim
  · intro av M h μ pc ls st M2 hi
    unfold P_SD_rule at h
    split at h
    · rename_i i k b p
      obtain ⟨rfl, ⟨r1, r2, r3⟩, B, hI⟩ := h
      have hT := hI.1
      have h08 := hI.2.1.1
      obtain ⟨rfl, rfl, rfl, rfl⟩ := hi
      refine xs_iload_n (q := 1) i_SD_rule_0 rfl rfl (xs_n rfl ?_)
      refine xs_cs (q := 4) (av := [_]) (rest := []) i_SD_rule_1 rfl (e_SD_rule_1) ⟨rfl, rfl⟩ rfl rfl ?_
      rw [am_S_iff]
      refine ⟨r1, ?_⟩
      dsimp only [g_SD_isKind, g_id]
      refine xs_r1 rfl (xs_n rfl ?_)
      refine xs_if_eq (q := 16) (r := 7) i_SD_rule_4 rfl rfl am_ite (fun h4 => (xs_z rfl ?_)) (fun h4 => (xs_n rfl ?_))
      · have ec : sd_rc M k b p = 1 := by unfold sd_rc; rw [if_neg (fun q => am_ite0 h4 q.1)]
        exact Or.inr ⟨th_bl[3], by show th_SD_rule 16 = some (sd_rc M k b p, th_bl[3]); rw [ec]; rfl, rfl, rfl⟩
      · refine xs_iload_n (q := 8) i_SD_rule_7 rfl rfl (xs_n rfl ?_)
        refine xs_iload_n (q := 9) i_SD_rule_8 rfl rfl (xs_n rfl ?_)
        refine xs_iload_n (q := 10) i_SD_rule_9 rfl rfl (xs_n rfl ?_)
        refine xs_cs (q := 13) (av := [_, _, _]) (rest := []) i_SD_rule_10 rfl (e_SD_rule_10) ⟨rfl, rfl⟩ rfl rfl ?_
        rw [am_S_iff]
        refine ⟨⟨r1, r2, r3⟩, ?_⟩
        dsimp only [g_RB_mayHave, g_id]
        refine xs_r1 rfl (xs_n rfl ?_)
        refine xs_if_ne (q := 26) (r := 16) i_SD_rule_13 rfl rfl am_ite (fun h13 => (xs_n rfl ?_)) (fun h13 => (xs_z rfl ?_))
        · refine xs_aload_n (q := 27) i_SD_rule_26 rfl rfl (xs_n rfl ?_)
          refine xs_geti (q := 30) i_SD_rule_27 rfl fd_SD_68 sg_0 rfl (xs_n rfl ?_)
          refine xs_if_eq (q := 43) (r := 33) i_SD_rule_30 rfl rfl (by unfold am_R; omega) (fun h30 => (xs_n rfl ?_)) (fun h30 => (xs_z rfl ?_))
          · refine xs_aload_n (q := 44) i_SD_rule_43 rfl rfl (xs_n rfl ?_)
            refine xs_getr (q := 47) i_SD_rule_44 rfl fd_SD_19 sg_0 rfl (xs_n rfl ?_)
            refine xs_iload_n (q := 48) i_SD_rule_47 rfl rfl (xs_n rfl ?_)
            refine xs_iload_n (q := 49) i_SD_rule_48 rfl rfl (xs_n rfl ?_)
            refine xs_iload_n (q := 50) i_SD_rule_49 rfl rfl (xs_n rfl ?_)
            refine xs_cv (q := 53) (av := [_, _, _, _]) (rest := []) i_SD_rule_50 rfl (e_SD_rule_50) ⟨rfl, rfl⟩ rfl rfl ?_
            rw [am_V_iff]
            refine ⟨⟨_, sg_7⟩, ⟨rfl, r1⟩, ?_⟩
            have ec : sd_rc M k b p = 0 := by unfold sd_rc; rw [if_pos (show ((0 ≤ k ∧ k ≤ 3) ∧ (k = 1 ∨ k = 2 → (1 ≤ p ∧ p ≤ 60) ∧ 1 ≤ b ∧ b ≤ p)) from ⟨am_ite1 h4, am_ite1 h13⟩), if_neg (fun q => q h30)]
            have hX := (lw_rX hI ec).1
            refine xs_r0 rfl (xs_n rfl ?_)
            refine xs_aload_n (q := 54) i_SD_rule_53 rfl rfl (xs_n rfl ?_)
            refine xs_getr (q := 57) i_SD_rule_54 rfl fd_SD_10 sg_0 rfl (xs_n rfl ?_)
            refine xs_aload_n (q := 58) i_SD_rule_57 rfl rfl (xs_n rfl ?_)
            refine xs_getr (q := 61) i_SD_rule_58 rfl fd_SD_19 sg_0 rfl (xs_n rfl ?_)
            refine xs_iload_n (q := 62) i_SD_rule_61 rfl rfl (xs_n rfl ?_)
            refine xs_cv (q := 65) (av := [_, _, _]) (rest := []) i_SD_rule_62 rfl (e_SD_rule_62) ⟨rfl, rfl⟩ rfl rfl ?_
            rw [am_V_iff]
            refine ⟨⟨_, sg_1⟩, ⟨rfl, rfl, r1, hX.1.2.1, hX.1.2.2.2.2.2.2.1⟩, ?_⟩
            dsimp only [g_TS_admit, g_id]
            refine xs_r1 rfl (xs_n rfl ?_)
            refine xs_istore (q := 67) (ls2 := [_, _, _, _, _]) i_SD_rule_65 rfl rfl rfl (xs_n rfl ?_)
            refine xs_iload (q := 69) i_SD_rule_67 rfl rfl (xs_n rfl ?_)
            refine xs_if_eq (q := 80) (r := 72) i_SD_rule_69 rfl rfl (by rcases ts_a_01 (sd_rX k b p M) k with q | q <;> (show am_R (ts_a (sd_rX k b p M) k); rw [q]; unfold am_R; omega)) (fun h69 => (xs_n rfl ?_)) (fun h69 => (xs_n rfl ?_))
            · refine xs_iload (q := 82) i_SD_rule_80 rfl rfl (xs_n rfl ?_)
              refine xs_iret i_SD_rule_82 ?_
              exact xs_finE (cd := cd_SD_rule) (show cd_SD_rule [.inr (.inl 0), .inl k, .inl b, .inl p] _ = 0 from ec) (rfl) (by show sd_rg k b p M = _; unfold sd_rg; rw [if_pos (show ts_a (sd_rX k b p M) k = 0 from h69)]; rfl) (ts_a_01 _ _)
            · refine xs_aload_n (q := 73) i_SD_rule_72 rfl rfl (xs_n rfl ?_)
              refine xs_getr (q := 76) i_SD_rule_73 rfl fd_SD_19 sg_0 rfl (xs_n rfl ?_)
              refine xs_iload_n (q := 77) i_SD_rule_76 rfl rfl (xs_n rfl ?_)
              refine xs_puti (q := 80) i_SD_rule_77 rfl fd_SD_127 sg_7 rfl (xs_n rfl ?_)
              refine xs_iload (q := 82) i_SD_rule_80 rfl rfl (xs_n rfl ?_)
              refine xs_iret i_SD_rule_82 ?_
              exact xs_finE (cd := cd_SD_rule) (show cd_SD_rule [.inr (.inl 0), .inl k, .inl b, .inl p] _ = 0 from ec) (rfl) (by show sd_rg k b p M = _; unfold sd_rg; rw [if_neg (show ¬ ts_a (sd_rX k b p M) k = 0 from h69)]; rfl) (ts_a_01 _ _)
          · have ec : sd_rc M k b p = 2 := by unfold sd_rc; rw [if_pos (show ((0 ≤ k ∧ k ≤ 3) ∧ (k = 1 ∨ k = 2 → (1 ≤ p ∧ p ≤ 60) ∧ 1 ≤ b ∧ b ≤ p)) from ⟨am_ite1 h4, am_ite1 h13⟩), if_pos h30]
            exact Or.inr ⟨th_bl[4], by show th_SD_rule 33 = some (sd_rc M k b p, th_bl[4]); rw [ec]; rfl, rfl, rfl⟩
        · have ec : sd_rc M k b p = 1 := by unfold sd_rc; rw [if_neg (fun q => am_ite0 h13 q.2)]
          exact Or.inr ⟨th_bl[3], by show th_SD_rule 16 = some (sd_rc M k b p, th_bl[3]); rw [ec]; rfl, rfl, rfl⟩
    · exact h.elim
abbrev t_SD_start : Room := { frames := 6, cells := 1, slots := 6, locals := 100 }
def P_SD_start : am_P := fun av M => match av with
  | [.inr (.inl i)] => i = 0 ∧ lw_M M
  | _ => False
def f_SD_start : am_Fr := fun av M => match av with
  | [.inr (.inl i)] => none
  | _ => none
def g_SD_start : am_Fm := fun av M => match av with
  | [.inr (.inl i)] => sd_sg M
  | _ => M
def cd_SD_start : List am_V → am_M → Int := fun av M => match av with
  | [.inr (.inl i)] => sd_sc M
  | _ => 0
def tc_SD_start : Int → String := fun k =>  "java/lang/IllegalStateException"
def th_SD_start : Nat → Option (Int × (String × Nat × Nat × Nat × String)) := fun pc => if pc = 28 then some (1, th_bl[5]) else none
theorem th_SD_start_ok : th_D b_SD_start th_SD_start tc_SD_start := by
  intro pc k b h
  unfold th_SD_start at h
  split at h
  · rename_i e
    subst e
    cases h
    exact ⟨by decide, List.getElem_mem _, rfl, d_SD_start_28, d_SD_start_31, d_SD_start_32, d_SD_start_34, d_SD_start_37⟩
  cases h
def ct_SD_start : am_T := fun pc => if pc = 22 then some (3, am_ctV vw_S 1 P_TS_admit (am_po f_TS_admit g_TS_admit)) else if pc = 58 then some (3, am_ctV vw_S 9 P_CO_begin (am_po f_CO_begin g_CO_begin)) else none
theorem e_SD_start_22 : ct_SD_start 22 = some (3, am_ctV vw_S 1 P_TS_admit (am_po f_TS_admit g_TS_admit)) := rfl
theorem e_SD_start_58 : ct_SD_start 58 = some (3, am_ctV vw_S 9 P_CO_begin (am_po f_CO_begin g_CO_begin)) := rfl
theorem ct_SD_start_ok (l : Launch) : am_CC b_SD_start 1 w_SD_start y_SD_start.cls l t_SD_start ct_SD_start := by
  intro p e s m args below meth c H0 A D G ad Q S hK hN hA pc q ct h
  have hts := S.2.2.2.2
  unfold ct_SD_start at h
  split at h
  · rename_i hpc
    subst hpc; cases h
    exact am_callV S vw_N_ok hK hN hA ⟨Nat.zero_le _, Nat.zero_le _⟩ (m_TS_admit l) (s_SD_123 hts am_vW hN ⟨by decide, by decide⟩) (by rfl) d_SD_start_22
  split at h
  · rename_i hpc
    subst hpc; cases h
    exact am_callV S vw_N_ok hK hN hA ⟨Nat.zero_le _, Nat.zero_le _⟩ (m_CO_begin l) (s_SD_132 hts am_vW hN ⟨by decide, by decide⟩) (by rfl) d_SD_start_58
  cases h
def inv_SD_start : List am_V → am_M → Nat → am_K := fun av M _ pc ls st M2 => pc = 0 ∧ ls = am_l0 av 1 ∧ st = [] ∧ M = M2
set_option maxHeartbeats 2000000 in
theorem m_SD_start (l : Launch) (hfl : l.flags = flags0) : am_ME l y_SD_start w_SD_start t_SD_start P_SD_start f_SD_start g_SD_start cd_SD_start tc_SD_start := by
  refine am_mkE (fun pc => pc == 28) hfl rfl ⟨by decide, by decide, by decide, by decide⟩ th_SD_start_ok i_SD_start_ok fd_SD_ok (ct_SD_start_ok l) (plainFor_of_name (by decide +kernel)) (by decide) ?_ 80 inv_SD_start ?_ ?_
  · intro av M h
    unfold P_SD_start at h
    split at h
    · exact ⟨Nat.le_of_ble_eq_true rfl, rfl⟩
    · exact h.elim
  · intro av M h
    unfold P_SD_start at h
    split at h
    · exact ⟨0, rfl, rfl, rfl, rfl⟩
    · exact h.elim
  · intro av M h μ pc ls st M2 hi
    unfold P_SD_start at h
    split at h
    · rename_i i
      obtain ⟨rfl, B, hI⟩ := h
      have hT := hI.1
      have h08 := hI.2.1.1
      have h72 := hT.2.2.2.2.2.2.1.2.2
      obtain ⟨rfl, rfl, rfl, rfl⟩ := hi
      refine xs_aload_n (q := 1) i_SD_start_0 rfl rfl (xs_n rfl ?_)
      refine xs_geti (q := 4) i_SD_start_1 rfl fd_SD_68 sg_0 rfl (xs_n rfl ?_)
      refine xs_if_ne (q := 28) (r := 7) i_SD_start_4 rfl rfl (by unfold am_R; omega) (fun h4 => (xs_z rfl ?_)) (fun h4 => (xs_n rfl ?_))
      · have ec : sd_sc M = 1 := by unfold sd_sc; rw [if_pos (Or.inl h4)]
        exact Or.inr ⟨th_bl[5], by show th_SD_start 28 = some (sd_sc M, th_bl[5]); rw [ec]; rfl, rfl, rfl⟩
      · refine xs_aload_n (q := 8) i_SD_start_7 rfl rfl (xs_n rfl ?_)
        refine xs_getr (q := 11) i_SD_start_8 rfl fd_SD_10 sg_0 rfl (xs_n rfl ?_)
        refine xs_aload_n (q := 12) i_SD_start_11 rfl rfl (xs_n rfl ?_)
        refine xs_getr (q := 15) i_SD_start_12 rfl fd_SD_19 sg_0 rfl (xs_n rfl ?_)
        refine xs_aload_n (q := 16) i_SD_start_15 rfl rfl (xs_n rfl ?_)
        refine xs_getr (q := 19) i_SD_start_16 rfl fd_SD_19 sg_0 rfl (xs_n rfl ?_)
        refine xs_geti (q := 22) i_SD_start_19 rfl fd_SD_127 sg_7 rfl (xs_n rfl ?_)
        refine xs_cv (q := 25) (av := [_, _, _]) (rest := []) i_SD_start_22 rfl (e_SD_start_22) ⟨rfl, rfl⟩ rfl rfl ?_
        rw [am_V_iff]
        refine ⟨⟨_, sg_1⟩, ⟨rfl, rfl, by show am_R (M 7 2); unfold am_R; omega, hT.2.1, hT.2.2.2.2.2.2.1⟩, ?_⟩
        dsimp only [g_TS_admit, g_id]
        refine xs_r1 rfl (xs_n rfl ?_)
        refine xs_if_ne (q := 38) (r := 28) i_SD_start_25 rfl rfl (by rcases ts_a_01 M (M 7 2) with q | q <;> (show am_R (ts_a M (M 7 2)); rw [q]; unfold am_R; omega)) (fun h25 => (xs_n rfl ?_)) (fun h25 => (xs_z rfl ?_))
        · refine xs_aload_n (q := 39) i_SD_start_38 rfl rfl (xs_n rfl ?_)
          refine xs_iconst (q := 40) i_SD_start_39 rfl (xs_n rfl ?_)
          refine xs_putz (q := 43) i_SD_start_40 rfl fd_SD_68 sg_0 rfl (Or.inr rfl) (xs_n rfl ?_)
          refine xs_aload_n (q := 44) i_SD_start_43 rfl rfl (xs_n rfl ?_)
          refine xs_getr (q := 47) i_SD_start_44 rfl fd_SD_51 sg_0 rfl (xs_n rfl ?_)
          refine xs_aload_n (q := 48) i_SD_start_47 rfl rfl (xs_n rfl ?_)
          refine xs_getr (q := 51) i_SD_start_48 rfl fd_SD_19 sg_0 rfl (xs_n rfl ?_)
          refine xs_aload_n (q := 52) i_SD_start_51 rfl rfl (xs_n rfl ?_)
          refine xs_getr (q := 55) i_SD_start_52 rfl fd_SD_19 sg_0 rfl (xs_n rfl ?_)
          refine xs_geti (q := 58) i_SD_start_55 rfl fd_SD_127 sg_7 rfl (xs_n rfl ?_)
          refine xs_cv (q := 61) (av := [_, _, _]) (rest := []) i_SD_start_58 rfl (e_SD_start_58) ⟨rfl, rfl⟩ rfl rfl ?_
          rw [am_V_iff]
          refine ⟨⟨_, sg_26⟩, ⟨cv_at (Or.inl rfl), rfl, by show 0 ≤ M 7 2 ∧ M 7 2 ≤ 3; omega, hT.2.1.1⟩, ?_⟩
          refine xs_r0 rfl (xs_n rfl ?_)
          refine xs_ret i_SD_start_61 ?_
          have ec : sd_sc M = 0 := by unfold sd_sc; rw [if_neg (fun q => q.elim (fun z => z h4) (fun z => h25 z))]
          exact xs_finE (cd := cd_SD_start) (show cd_SD_start [.inr (.inl 0)] _ = 0 from ec) (rfl) (rfl) (trivial)
        · have ec : sd_sc M = 1 := by unfold sd_sc; rw [if_pos (Or.inr h25)]
          exact Or.inr ⟨th_bl[5], by show th_SD_start 28 = some (sd_sc M, th_bl[5]); rw [ec]; rfl, rfl, rfl⟩
    · exact h.elim
abbrev t_SD_job : Room := { frames := 6, cells := 1, slots := 6, locals := 100 }
def P_SD_job : am_P := fun av M => match av with
  | [.inr (.inl i), .inl c] => i = 0 ∧ am_R c ∧ lw_M M
  | _ => False
def f_SD_job : am_Fr := fun av M => match av with
  | [.inr (.inl i), .inl c] => some (.inl (M 10 3))
  | _ => none
def g_SD_job : am_Fm := fun av M => match av with
  | [.inr (.inl i), .inl c] => g_SD_takeIn [.inr (.inl 0), .inl c, .inl 0] M
  | _ => M
def cd_SD_job : List am_V → am_M → Int := fun av M => match av with
  | [.inr (.inl i), .inl c] => sd_jc M c
  | _ => 0
def tc_SD_job : Int → String := fun k => if k = 1 then "java/lang/IllegalArgumentException" else "java/lang/IllegalStateException"
def th_SD_job : Nat → Option (Int × (String × Nat × Nat × Nat × String)) := fun pc => if pc = 10 then some (1, th_bl[8]) else if pc = 39 then some (2, th_bl[9]) else none
theorem th_SD_job_ok : th_D b_SD_job th_SD_job tc_SD_job := by
  intro pc k b h
  unfold th_SD_job at h
  split at h
  · rename_i e
    subst e
    cases h
    exact ⟨by decide, List.getElem_mem _, rfl, d_SD_job_10, d_SD_job_13, d_SD_job_14, d_SD_job_16, d_SD_job_19⟩
  split at h
  · rename_i e
    subst e
    cases h
    exact ⟨by decide, List.getElem_mem _, rfl, d_SD_job_39, d_SD_job_42, d_SD_job_43, d_SD_job_45, d_SD_job_48⟩
  cases h
def ct_SD_job : am_T := fun pc => if pc = 4 then some (3, am_ctS P_SD_isWithin (am_po f_SD_isWithin g_SD_isWithin)) else if pc = 52 then some (3, am_ctV vw_S 0 P_SD_takeIn (am_po f_SD_takeIn g_SD_takeIn)) else none
theorem e_SD_job_4 : ct_SD_job 4 = some (3, am_ctS P_SD_isWithin (am_po f_SD_isWithin g_SD_isWithin)) := rfl
theorem e_SD_job_52 : ct_SD_job 52 = some (3, am_ctV vw_S 0 P_SD_takeIn (am_po f_SD_takeIn g_SD_takeIn)) := rfl
theorem ct_SD_job_ok (l : Launch) : am_CC b_SD_job 2 w_SD_job y_SD_job.cls l t_SD_job ct_SD_job := by
  intro p e s m args below meth c H0 A D G ad Q S hK hN hA pc q ct h
  have hts := S.2.2.2.2
  unfold ct_SD_job at h
  split at h
  · rename_i hpc
    subst hpc; cases h
    exact am_callS S vw_N_ok hK hN hA ⟨Nat.zero_le _, Nat.zero_le _⟩ (m_SD_isWithin l) (s_SD_76 hts am_vW hN ⟨by decide, by decide⟩) d_SD_job_4
  split at h
  · rename_i hpc
    subst hpc; cases h
    exact am_callV S vw_N_ok hK hN hA ⟨Nat.zero_le _, Nat.zero_le _⟩ (m_SD_takeIn l) (s_SD_148 hts am_vW hN ⟨by decide, by decide⟩) (by rfl) d_SD_job_52
  cases h
def inv_SD_job : List am_V → am_M → Nat → am_K := fun av M _ pc ls st M2 => pc = 0 ∧ ls = am_l0 av 2 ∧ st = [] ∧ M = M2
set_option maxHeartbeats 2000000 in
theorem m_SD_job (l : Launch) (hfl : l.flags = flags0) : am_ME l y_SD_job w_SD_job t_SD_job P_SD_job f_SD_job g_SD_job cd_SD_job tc_SD_job := by
  refine am_mkE (fun pc => pc == 10 || pc == 39) hfl rfl ⟨by decide, by decide, by decide, by decide⟩ th_SD_job_ok i_SD_job_ok fd_SD_ok (ct_SD_job_ok l) (plainFor_of_name (by decide +kernel)) (by decide) ?_ 80 inv_SD_job ?_ ?_
  · intro av M h
    unfold P_SD_job at h
    split at h
    · exact ⟨Nat.le_of_ble_eq_true rfl, rfl⟩
    · exact h.elim
  · intro av M h
    unfold P_SD_job at h
    split at h
    · exact ⟨0, rfl, rfl, rfl, rfl⟩
    · exact h.elim
  · intro av M h μ pc ls st M2 hi
    unfold P_SD_job at h
    split at h
    · rename_i i c
      obtain ⟨rfl, r1, B, hI⟩ := h
      have hT := hI.1
      have h08 := hI.2.1.1
      have j0 := hI.2.2.1.1.1
      obtain ⟨rfl, rfl, rfl, rfl⟩ := hi
      refine xs_iload_n (q := 1) i_SD_job_0 rfl rfl (xs_n rfl ?_)
      refine xs_iconst (q := 2) i_SD_job_1 rfl (xs_n rfl ?_)
      refine xs_bipush (q := 4) i_SD_job_2 rfl (by decide) (xs_n rfl ?_)
      refine xs_cs (q := 7) (av := [_, _, _]) (rest := []) i_SD_job_4 rfl (e_SD_job_4) ⟨rfl, rfl⟩ rfl rfl ?_
      rw [am_S_iff]
      refine ⟨⟨r1, by unfold am_R; omega, by unfold am_R; omega⟩, ?_⟩
      dsimp only [g_SD_isWithin, g_id]
      refine xs_r1 rfl (xs_n rfl ?_)
      refine xs_if_ne (q := 20) (r := 10) i_SD_job_7 rfl rfl am_ite (fun h7 => (xs_n rfl ?_)) (fun h7 => (xs_z rfl ?_))
      · refine xs_aload_n (q := 21) i_SD_job_20 rfl rfl (xs_n rfl ?_)
        refine xs_geti (q := 24) i_SD_job_21 rfl fd_SD_68 sg_0 rfl (xs_n rfl ?_)
        refine xs_if_eq (q := 39) (r := 27) i_SD_job_24 rfl rfl (by unfold am_R; omega) (fun h24 => (xs_z rfl ?_)) (fun h24 => (xs_n rfl ?_))
        · have ec : sd_jc M c = 2 := by unfold sd_jc; rw [if_pos (am_ite1 h7), if_pos (Or.inl h24)]
          exact Or.inr ⟨th_bl[9], by show th_SD_job 39 = some (sd_jc M c, th_bl[9]); rw [ec]; rfl, rfl, rfl⟩
        · refine xs_aload_n (q := 28) i_SD_job_27 rfl rfl (xs_n rfl ?_)
          refine xs_getr (q := 31) i_SD_job_28 rfl fd_SD_26 sg_0 rfl (xs_n rfl ?_)
          refine xs_geti (q := 34) i_SD_job_31 rfl fd_SD_145 sg_10 rfl (xs_n rfl ?_)
          refine xs_bipush (q := 36) i_SD_job_34 rfl (by decide) (xs_n rfl ?_)
          refine xs_ic_lt (q := 49) (r := 39) i_SD_job_36 rfl rfl ⟨by unfold am_R; omega, by unfold am_R; omega⟩ (fun h36 => (xs_n rfl ?_)) (fun h36 => (xs_z rfl ?_))
          · refine xs_aload_n (q := 50) i_SD_job_49 rfl rfl (xs_n rfl ?_)
            refine xs_iload_n (q := 51) i_SD_job_50 rfl rfl (xs_n rfl ?_)
            refine xs_iconst (q := 52) i_SD_job_51 rfl (xs_n rfl ?_)
            refine xs_cv (q := 55) (av := [_, _, _]) (rest := []) i_SD_job_52 rfl (e_SD_job_52) ⟨rfl, rfl⟩ rfl rfl ?_
            rw [am_V_iff]
            refine ⟨⟨_, sg_0⟩, (lw_arrive (z := 0) hI (by omega) h36 (am_ite1 h7) (Or.inl rfl)).1, ?_⟩
            have ec : sd_jc M c = 0 := by unfold sd_jc; rw [if_pos (am_ite1 h7), if_neg (fun q => q.elim (fun z => h24 z) (fun z => by omega))]
            refine xs_r1 rfl (xs_n rfl ?_)
            refine xs_iret i_SD_job_55 ?_
            exact xs_finE (cd := cd_SD_job) (show cd_SD_job [.inr (.inl 0), .inl c] _ = 0 from ec) (rfl) (rfl) (trivial)
          · have ec : sd_jc M c = 2 := by unfold sd_jc; rw [if_pos (am_ite1 h7), if_pos (Or.inr h36)]
            exact Or.inr ⟨th_bl[9], by show th_SD_job 39 = some (sd_jc M c, th_bl[9]); rw [ec]; rfl, rfl, rfl⟩
      · have ec : sd_jc M c = 1 := by unfold sd_jc; rw [if_neg (am_ite0 h7)]
        exact Or.inr ⟨th_bl[8], by show th_SD_job 10 = some (sd_jc M c, th_bl[8]); rw [ec]; rfl, rfl, rfl⟩
    · exact h.elim
