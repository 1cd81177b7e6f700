/-! the class's methods that may throw: task, rule, start, job (wip/whole/p92.py) -/
theorem xs_finE {cd : List am_V → am_M → Int} {f : am_Fr} {g : am_Fm} {av : List am_V} {M M' : am_M} {r : Option am_V} {ret : Option FieldType} (h0 : cd av M = 0) (h1 : f av M = r) (h2 : g av M = M') (h3 : am_rt ret r) : (cd av M = 0 ∧ am_po f g av M r M') ∧ am_rt ret r := ⟨⟨h0, h1.symm, h2.symm⟩, h3⟩
def lw_M (M : am_M) : Prop := ∃ B : am_M, lw_I M B
theorem sd_lcR {h p : Int} (hh : 1 ≤ h ∧ h ≤ 2000) (hp : 1 ≤ p ∧ p ≤ 60) : am_R (h / ((Nat.gcd h.toNat p.toNat : Nat) : Int) * p) := by
  have q0 : 0 ≤ h / ((Nat.gcd h.toNat p.toNat : Nat) : Int) := Int.ediv_nonneg (by omega) (by omega)
  have q1 : h / ((Nat.gcd h.toNat p.toNat : Nat) : Int) ≤ h := Int.ediv_le_self _ (by omega)
  have q2 := Int.mul_le_mul q1 hp.2 (by omega) (by omega)
  have q3 := Int.mul_nonneg q0 (show 0 ≤ p by omega)
  unfold am_R
  omega
theorem ts_a_01 (M : am_M) (k : Int) : ts_a M k = 0 ∨ ts_a M k = 1 := by
  unfold ts_a
  split
  · exact Or.inl rfl
  · exact Or.inr rfl
abbrev t_SD_task : Room := { frames := 6, cells := 1, slots := 6, locals := 100 }
def P_SD_task : am_P := fun av M => match av with
  | [.inr (.inl i), .inl p, .inl f, .inl c, .inl d] => i = 0 ∧ (am_R p ∧ am_R f ∧ am_R c ∧ am_R d) ∧ lw_M M
  | _ => False
def f_SD_task : am_Fr := fun av M => match av with
  | [.inr (.inl i), .inl p, .inl f, .inl c, .inl d] => some (.inl (M 1 5))
  | _ => none
def g_SD_task : am_Fm := fun av M => match av with
  | [.inr (.inl i), .inl p, .inl f, .inl c, .inl d] => ts_ad p f c d M
  | _ => M
def cd_SD_task : List am_V → am_M → Int := fun av M => match av with
  | [.inr (.inl i), .inl p, .inl f, .inl c, .inl d] => sd_tc M p f c d
  | _ => 0
def tc_SD_task : Int → String := fun k => if k = 1 then "java/lang/IllegalArgumentException" else if k = 2 then "java/lang/IllegalStateException" else "java/lang/UnsupportedOperationException"
def th_SD_task : Nat → Option (Int × (String × Nat × Nat × Nat × String)) := fun pc => if pc = 41 then some (1, th_bl[0]) else if pc = 69 then some (2, th_bl[1]) else if pc = 93 then some (3, th_bl[2]) else none
theorem th_SD_task_ok : th_D b_SD_task th_SD_task tc_SD_task := by
  intro pc k b h
  unfold th_SD_task at h
  split at h
  · rename_i e
    subst e
    cases h
    exact ⟨by decide, List.getElem_mem _, rfl, d_SD_task_41, d_SD_task_44, d_SD_task_45, d_SD_task_47, d_SD_task_50⟩
  split at h
  · rename_i e
    subst e
    cases h
    exact ⟨by decide, List.getElem_mem _, rfl, d_SD_task_69, d_SD_task_72, d_SD_task_73, d_SD_task_75, d_SD_task_78⟩
  split at h
  · rename_i e
    subst e
    cases h
    exact ⟨by decide, List.getElem_mem _, rfl, d_SD_task_93, d_SD_task_96, d_SD_task_97, d_SD_task_99, d_SD_task_102⟩
  cases h
def ct_SD_task : am_T := fun pc => if pc = 4 then some (3, am_ctS P_SD_isWithin (am_po f_SD_isWithin g_SD_isWithin)) else if pc = 15 then some (3, am_ctS P_SD_isWithin (am_po f_SD_isWithin g_SD_isWithin)) else if pc = 25 then some (3, am_ctS P_SD_isWithin (am_po f_SD_isWithin g_SD_isWithin)) else if pc = 35 then some (3, am_ctS P_SD_isWithin (am_po f_SD_isWithin g_SD_isWithin)) else if pc = 84 then some (2, am_ctV vw_S 1 P_TS_hyperperiodWith (am_po f_TS_hyperperiodWith g_TS_hyperperiodWith)) else if pc = 112 then some (5, am_ctV vw_S 1 P_TS_add (am_po f_TS_add g_TS_add)) else none
theorem e_SD_task_4 : ct_SD_task 4 = some (3, am_ctS P_SD_isWithin (am_po f_SD_isWithin g_SD_isWithin)) := rfl
theorem e_SD_task_15 : ct_SD_task 15 = some (3, am_ctS P_SD_isWithin (am_po f_SD_isWithin g_SD_isWithin)) := rfl
theorem e_SD_task_25 : ct_SD_task 25 = some (3, am_ctS P_SD_isWithin (am_po f_SD_isWithin g_SD_isWithin)) := rfl
theorem e_SD_task_35 : ct_SD_task 35 = some (3, am_ctS P_SD_isWithin (am_po f_SD_isWithin g_SD_isWithin)) := rfl
theorem e_SD_task_84 : ct_SD_task 84 = some (2, am_ctV vw_S 1 P_TS_hyperperiodWith (am_po f_TS_hyperperiodWith g_TS_hyperperiodWith)) := rfl
theorem e_SD_task_112 : ct_SD_task 112 = some (5, am_ctV vw_S 1 P_TS_add (am_po f_TS_add g_TS_add)) := rfl
theorem ct_SD_task_ok (l : Launch) : am_CC b_SD_task 5 w_SD_task y_SD_task.cls l t_SD_task ct_SD_task := by
  intro p e s m args below meth c H0 A D G ad Q S hK hN hA pc q ct h
  have hts := S.2.2.2.2
  unfold ct_SD_task at h
  split at h
  · rename_i hpc
    subst hpc; cases h
    exact am_callS S vw_N_ok hK hN hA ⟨Nat.zero_le _, Nat.zero_le _⟩ (m_SD_isWithin l) (s_SD_76 hts am_vW hN ⟨by decide, by decide⟩) d_SD_task_4
  split at h
  · rename_i hpc
    subst hpc; cases h
    exact am_callS S vw_N_ok hK hN hA ⟨Nat.zero_le _, Nat.zero_le _⟩ (m_SD_isWithin l) (s_SD_76 hts am_vW hN ⟨by decide, by decide⟩) d_SD_task_15
  split at h
  · rename_i hpc
    subst hpc; cases h
    exact am_callS S vw_N_ok hK hN hA ⟨Nat.zero_le _, Nat.zero_le _⟩ (m_SD_isWithin l) (s_SD_76 hts am_vW hN ⟨by decide, by decide⟩) d_SD_task_25
  split at h
  · rename_i hpc
    subst hpc; cases h
    exact am_callS S vw_N_ok hK hN hA ⟨Nat.zero_le _, Nat.zero_le _⟩ (m_SD_isWithin l) (s_SD_76 hts am_vW hN ⟨by decide, by decide⟩) d_SD_task_35
  split at h
  · rename_i hpc
    subst hpc; cases h
    exact am_callV S vw_N_ok hK hN hA ⟨Nat.zero_le _, Nat.zero_le _⟩ (m_TS_hyperperiodWith l) (s_SD_95 hts am_vW hN ⟨by decide, by decide⟩) (by rfl) d_SD_task_84
  split at h
  · rename_i hpc
    subst hpc; cases h
    exact am_callV S vw_N_ok hK hN hA ⟨Nat.zero_le _, Nat.zero_le _⟩ (m_TS_add l) (s_SD_104 hts am_vW hN ⟨by decide, by decide⟩) (by rfl) d_SD_task_112
  cases h
def inv_SD_task : List am_V → am_M → Nat → am_K := fun av M _ pc ls st M2 => pc = 0 ∧ ls = am_l0 av 5 ∧ st = [] ∧ M = M2
set_option maxHeartbeats 2000000 in
theorem m_SD_task (l : Launch) (hfl : l.flags = flags0) : am_ME l y_SD_task w_SD_task t_SD_task P_SD_task f_SD_task g_SD_task cd_SD_task tc_SD_task := by
  refine am_mkE (fun pc => pc == 41 || pc == 69 || pc == 93) hfl rfl ⟨by decide, by decide, by decide, by decide⟩ th_SD_task_ok i_SD_task_ok fd_SD_ok (ct_SD_task_ok l) (plainFor_of_name (by decide +kernel)) (by decide) ?_ 80 inv_SD_task ?_ ?_
  · intro av M h
    unfold P_SD_task at h
    split at h
    · exact ⟨Nat.le_of_ble_eq_true rfl, rfl⟩
    · exact h.elim
  · intro av M h
    unfold P_SD_task at h
    split at h
    · exact ⟨0, rfl, rfl, rfl, rfl⟩
    · exact h.elim
  · intro av M h μ pc ls st M2 hi
    unfold P_SD_task at h
    split at h
    · rename_i i p f c d
      obtain ⟨rfl, ⟨r1, r2, r3, r4⟩, B, hI⟩ := h
      have hT := hI.1
      have h08 := hI.2.1.1
      have ts5 := hT.2.1.1
      have h16 : 1 ≤ M 1 6 ∧ M 1 6 ≤ 2000 := by
        have q := hT.2.2.2.2.1 (B 50 1).toNat (by have := hT.1.1; omega)
        have e4 : M 1 6 = mo_hy B (B 50 1).toNat := hT.2.2.2.1
        rw [e4]; exact q
      obtain ⟨rfl, rfl, rfl, rfl⟩ := hi
      refine xs_iload_n (q := 1) i_SD_task_0 rfl rfl (xs_n rfl ?_)
      refine xs_iconst (q := 2) i_SD_task_1 rfl (xs_n rfl ?_)
      refine xs_bipush (q := 4) i_SD_task_2 rfl (by decide) (xs_n rfl ?_)
      refine xs_cs (q := 7) (av := [_, _, _]) (rest := []) i_SD_task_4 rfl (e_SD_task_4) ⟨rfl, rfl⟩ rfl rfl ?_
      rw [am_S_iff]
      refine ⟨⟨r1, by unfold am_R; omega, by unfold am_R; omega⟩, ?_⟩
      dsimp only [g_SD_isWithin, g_id]
      refine xs_r1 rfl (xs_n rfl ?_)
      refine xs_if_eq (q := 41) (r := 10) i_SD_task_7 rfl rfl am_ite (fun h7 => (xs_z rfl ?_)) (fun h7 => (xs_n rfl ?_))
      · have ec : sd_tc M p f c d = 1 := by unfold sd_tc; rw [if_neg (fun q => am_ite0 h7 q.1)]
        exact Or.inr ⟨th_bl[0], by show th_SD_task 41 = some (sd_tc M p f c d, th_bl[0]); rw [ec]; rfl, rfl, rfl⟩
      · refine xs_iload_n (q := 11) i_SD_task_10 rfl rfl (xs_n rfl ?_)
        refine xs_iconst (q := 12) i_SD_task_11 rfl (xs_n rfl ?_)
        refine xs_iload_n (q := 13) i_SD_task_12 rfl rfl (xs_n rfl ?_)
        refine xs_iconst (q := 14) i_SD_task_13 rfl (xs_n rfl ?_)
        refine xs_isub (q := 15) i_SD_task_14 rfl (xs_n rfl ?_)
        refine xs_cs (q := 18) (av := [_, _, _]) (rest := []) i_SD_task_15 rfl (e_SD_task_15) ⟨rfl, rfl⟩ rfl rfl ?_
        rw [am_S_iff]
        refine ⟨⟨r2, by unfold am_R; omega, by have q7 : 1 ≤ p ∧ p ≤ 60 := am_ite1 h7; unfold am_R; omega⟩, ?_⟩
        dsimp only [g_SD_isWithin, g_id]
        refine xs_r1 rfl (xs_n rfl ?_)
        refine xs_if_eq (q := 41) (r := 21) i_SD_task_18 rfl rfl am_ite (fun h18 => (xs_z rfl ?_)) (fun h18 => (xs_n rfl ?_))
        · have ec : sd_tc M p f c d = 1 := by unfold sd_tc; rw [if_neg (fun q => am_ite0 h18 q.2.1)]
          exact Or.inr ⟨th_bl[0], by show th_SD_task 41 = some (sd_tc M p f c d, th_bl[0]); rw [ec]; rfl, rfl, rfl⟩
        · refine xs_iload_n (q := 22) i_SD_task_21 rfl rfl (xs_n rfl ?_)
          refine xs_iconst (q := 23) i_SD_task_22 rfl (xs_n rfl ?_)
          refine xs_bipush (q := 25) i_SD_task_23 rfl (by decide) (xs_n rfl ?_)
          refine xs_cs (q := 28) (av := [_, _, _]) (rest := []) i_SD_task_25 rfl (e_SD_task_25) ⟨rfl, rfl⟩ rfl rfl ?_
          rw [am_S_iff]
          refine ⟨⟨r3, by unfold am_R; omega, by unfold am_R; omega⟩, ?_⟩
          dsimp only [g_SD_isWithin, g_id]
          refine xs_r1 rfl (xs_n rfl ?_)
          refine xs_if_eq (q := 41) (r := 31) i_SD_task_28 rfl rfl am_ite (fun h28 => (xs_z rfl ?_)) (fun h28 => (xs_n rfl ?_))
          · have ec : sd_tc M p f c d = 1 := by unfold sd_tc; rw [if_neg (fun q => am_ite0 h28 q.2.2.1)]
            exact Or.inr ⟨th_bl[0], by show th_SD_task 41 = some (sd_tc M p f c d, th_bl[0]); rw [ec]; rfl, rfl, rfl⟩
          · refine xs_iload (q := 33) i_SD_task_31 rfl rfl (xs_n rfl ?_)
            refine xs_iload_n (q := 34) i_SD_task_33 rfl rfl (xs_n rfl ?_)
            refine xs_iload_n (q := 35) i_SD_task_34 rfl rfl (xs_n rfl ?_)
            refine xs_cs (q := 38) (av := [_, _, _]) (rest := []) i_SD_task_35 rfl (e_SD_task_35) ⟨rfl, rfl⟩ rfl rfl ?_
            rw [am_S_iff]
            refine ⟨⟨r4, r3, r1⟩, ?_⟩
            dsimp only [g_SD_isWithin, g_id]
            refine xs_r1 rfl (xs_n rfl ?_)
            refine xs_if_ne (q := 51) (r := 41) i_SD_task_38 rfl rfl am_ite (fun h38 => (xs_n rfl ?_)) (fun h38 => (xs_z rfl ?_))
            · refine xs_aload_n (q := 52) i_SD_task_51 rfl rfl (xs_n rfl ?_)
              refine xs_geti (q := 55) i_SD_task_52 rfl fd_SD_68 sg_0 rfl (xs_n rfl ?_)
              refine xs_if_ne (q := 69) (r := 58) i_SD_task_55 rfl rfl (by unfold am_R; omega) (fun h55 => (xs_z rfl ?_)) (fun h55 => (xs_n rfl ?_))
              · have ec : sd_tc M p f c d = 2 := by unfold sd_tc; rw [if_pos (show ((1 ≤ p ∧ p ≤ 60) ∧ (0 ≤ f ∧ f ≤ p - 1) ∧ (1 ≤ c ∧ c ≤ 60) ∧ (c ≤ d ∧ d ≤ p)) from ⟨am_ite1 h7, am_ite1 h18, am_ite1 h28, am_ite1 h38⟩), if_pos (Or.inl h55)]
                exact Or.inr ⟨th_bl[1], by show th_SD_task 69 = some (sd_tc M p f c d, th_bl[1]); rw [ec]; rfl, rfl, rfl⟩
              · refine xs_aload_n (q := 59) i_SD_task_58 rfl rfl (xs_n rfl ?_)
                refine xs_getr (q := 62) i_SD_task_59 rfl fd_SD_10 sg_0 rfl (xs_n rfl ?_)
                refine xs_geti (q := 65) i_SD_task_62 rfl fd_SD_87 sg_1 rfl (xs_n rfl ?_)
                refine xs_iconst (q := 66) i_SD_task_65 rfl (xs_n rfl ?_)
                refine xs_ic_lt (q := 79) (r := 69) i_SD_task_66 rfl rfl ⟨by unfold am_R; omega, by unfold am_R; omega⟩ (fun h66 => (xs_n rfl ?_)) (fun h66 => (xs_z rfl ?_))
                · refine xs_aload_n (q := 80) i_SD_task_79 rfl rfl (xs_n rfl ?_)
                  refine xs_getr (q := 83) i_SD_task_80 rfl fd_SD_10 sg_0 rfl (xs_n rfl ?_)
                  refine xs_iload_n (q := 84) i_SD_task_83 rfl rfl (xs_n rfl ?_)
                  refine xs_cv (q := 87) (av := [_, _]) (rest := []) i_SD_task_84 rfl (e_SD_task_84) ⟨rfl, rfl⟩ rfl rfl ?_
                  rw [am_V_iff]
                  refine ⟨⟨_, sg_1⟩, ⟨rfl, h16, am_ite1 h7⟩, ?_⟩
                  dsimp only [g_TS_hyperperiodWith, g_id]
                  refine xs_r1 rfl (xs_n rfl ?_)
                  refine xs_sipush (q := 90) i_SD_task_87 rfl (by decide) (xs_n rfl ?_)
                  refine xs_ic_le (q := 103) (r := 93) i_SD_task_90 rfl rfl ⟨by have q7 : 1 ≤ p ∧ p ≤ 60 := am_ite1 h7; exact sd_lcR h16 q7, by unfold am_R; omega⟩ (fun h90 => (xs_n rfl ?_)) (fun h90 => (xs_z rfl ?_))
                  · refine xs_aload_n (q := 104) i_SD_task_103 rfl rfl (xs_n rfl ?_)
                    refine xs_getr (q := 107) i_SD_task_104 rfl fd_SD_10 sg_0 rfl (xs_n rfl ?_)
                    refine xs_iload_n (q := 108) i_SD_task_107 rfl rfl (xs_n rfl ?_)
                    refine xs_iload_n (q := 109) i_SD_task_108 rfl rfl (xs_n rfl ?_)
                    refine xs_iload_n (q := 110) i_SD_task_109 rfl rfl (xs_n rfl ?_)
                    refine xs_iload (q := 112) i_SD_task_110 rfl rfl (xs_n rfl ?_)
                    refine xs_cv (q := 115) (av := [_, _, _, _, _]) (rest := []) i_SD_task_112 rfl (e_SD_task_112) ⟨rfl, rfl⟩ rfl rfl ?_
                    rw [am_V_iff]
                    refine ⟨⟨_, sg_1⟩, ⟨rfl, h66, h16, am_ite1 h7, r4, hT.2.1⟩, ?_⟩
                    refine xs_r1 rfl (xs_n rfl ?_)
                    refine xs_iret i_SD_task_115 ?_
                    have ec : sd_tc M p f c d = 0 := by unfold sd_tc; rw [if_pos (show ((1 ≤ p ∧ p ≤ 60) ∧ (0 ≤ f ∧ f ≤ p - 1) ∧ (1 ≤ c ∧ c ≤ 60) ∧ (c ≤ d ∧ d ≤ p)) from ⟨am_ite1 h7, am_ite1 h18, am_ite1 h28, am_ite1 h38⟩), if_neg (fun q => q.elim (fun z => z h55) (fun z => by omega)), if_neg (Int.not_lt.mpr h90)]
                    exact xs_finE (cd := cd_SD_task) (show cd_SD_task [.inr (.inl 0), .inl p, .inl f, .inl c, .inl d] _ = 0 from ec) (rfl) (rfl) (trivial)
                  · have ec : sd_tc M p f c d = 3 := by unfold sd_tc; rw [if_pos (show ((1 ≤ p ∧ p ≤ 60) ∧ (0 ≤ f ∧ f ≤ p - 1) ∧ (1 ≤ c ∧ c ≤ 60) ∧ (c ≤ d ∧ d ≤ p)) from ⟨am_ite1 h7, am_ite1 h18, am_ite1 h28, am_ite1 h38⟩), if_neg (fun q => q.elim (fun z => z h55) (fun z => by omega)), if_pos h90]
                    exact Or.inr ⟨th_bl[2], by show th_SD_task 93 = some (sd_tc M p f c d, th_bl[2]); rw [ec]; rfl, rfl, rfl⟩
                · have ec : sd_tc M p f c d = 2 := by unfold sd_tc; rw [if_pos (show ((1 ≤ p ∧ p ≤ 60) ∧ (0 ≤ f ∧ f ≤ p - 1) ∧ (1 ≤ c ∧ c ≤ 60) ∧ (c ≤ d ∧ d ≤ p)) from ⟨am_ite1 h7, am_ite1 h18, am_ite1 h28, am_ite1 h38⟩), if_pos (Or.inr h66)]
                  exact Or.inr ⟨th_bl[1], by show th_SD_task 69 = some (sd_tc M p f c d, th_bl[1]); rw [ec]; rfl, rfl, rfl⟩
            · have ec : sd_tc M p f c d = 1 := by unfold sd_tc; rw [if_neg (fun q => am_ite0 h38 q.2.2.2)]
              exact Or.inr ⟨th_bl[0], by show th_SD_task 41 = some (sd_tc M p f c d, th_bl[0]); rw [ec]; rfl, rfl, rfl⟩
    · exact h.elim
