/-! the class's methods that may throw: tick, served, state; reset (wip/whole/p94.py) -/
section XS3
variable {Sg : List am_S} {Sc : Option (Nat × (Nat → Int))} {Fd : Nat → Option (Nat × Nat × Nat)} {Ct : am_T} {Zr : am_Z} {I : Nat → Option (Instr × Nat)} {sp : Nat → Bool} {Z : am_K} {n pc : Nat} {ls : am_L} {st : List am_V} {M : am_M}
theorem xs_table {a d lo hi : Int} {offs : Array Int} {len : Nat} (hi0 : I pc = some (.tableswitch d lo hi offs, len)) (h0 : 0 ≤ (pc : Int) + d) (h1 : ∀ o ∈ offs.toList, 0 ≤ (pc : Int) + o) (h2 : hi + 1 = lo + offs.size) (hR : am_R a) (hd : a < lo ∨ hi < a → am_nx Sg Sc Fd Ct Zr I sp Z n ((pc : Int) + d).toNat ls st M) (hs : am_sw a (fun o => am_nx Sg Sc Fd Ct Zr I sp Z n ((pc : Int) + o).toNat ls st M) lo offs.toList) : am_wp Sg Sc Fd Ct Zr I sp Z (n + 1) pc ls (.inl a :: st) M := by
  unfold am_wp
  rw [hi0]
  exact ⟨h0, h1, h2, hR, hd, hs⟩
end XS3
abbrev t_SD_tick : Room := { frames := 6, cells := 1, slots := 6, locals := 120 }
def P_SD_tick : am_P := fun av M => match av with
  | [.inr (.inl i), .inl n] => i = 0 ∧ am_R n ∧ lw_M M
  | _ => False
def f_SD_tick : am_Fr := fun av M => match av with
  | [.inr (.inl i), .inl n] => some (.inl (sd_tr M n.toNat))
  | _ => none
def g_SD_tick : am_Fm := fun av M => match av with
  | [.inr (.inl i), .inl n] => sd_ti n.toNat M
  | _ => M
def cd_SD_tick : List am_V → am_M → Int := fun av M => match av with
  | [.inr (.inl i), .inl n] => sd_kc M n
  | _ => 0
def tc_SD_tick : Int → String := fun k => if k = 1 then "java/lang/IllegalArgumentException" else "java/lang/IllegalStateException"
def th_SD_tick : Nat → Option (Int × (String × Nat × Nat × Nat × String)) := fun pc => if pc = 10 then some (1, th_bl[6]) else if pc = 39 then some (2, th_bl[7]) else none
theorem th_SD_tick_ok : th_D b_SD_tick th_SD_tick tc_SD_tick := by
  intro pc k b h
  unfold th_SD_tick at h
  split at h
  · rename_i e
    subst e
    cases h
    exact ⟨by decide, List.getElem_mem _, rfl, d_SD_tick_10, d_SD_tick_13, d_SD_tick_14, d_SD_tick_16, d_SD_tick_19⟩
  split at h
  · rename_i e
    subst e
    cases h
    exact ⟨by decide, List.getElem_mem _, rfl, d_SD_tick_39, d_SD_tick_42, d_SD_tick_43, d_SD_tick_45, d_SD_tick_48⟩
  cases h
def ct_SD_tick : am_T := fun pc => if pc = 4 then some (3, am_ctS P_SD_isWithin (am_po f_SD_isWithin g_SD_isWithin)) else if pc = 66 then some (2, am_ctV vw_S 9 P_CO_step (am_po f_CO_step g_CO_step)) else none
theorem e_SD_tick_4 : ct_SD_tick 4 = some (3, am_ctS P_SD_isWithin (am_po f_SD_isWithin g_SD_isWithin)) := rfl
theorem e_SD_tick_66 : ct_SD_tick 66 = some (2, am_ctV vw_S 9 P_CO_step (am_po f_CO_step g_CO_step)) := rfl
theorem ct_SD_tick_ok (l : Launch) : am_CC b_SD_tick 4 w_SD_tick y_SD_tick.cls l t_SD_tick ct_SD_tick := by
  intro p e s m args below meth c H0 A D G ad Q S hK hN hA pc q ct h
  have hts := S.2.2.2.2
  unfold ct_SD_tick at h
  split at h
  · rename_i hpc
    subst hpc; cases h
    exact am_callS S vw_N_ok hK hN hA ⟨Nat.zero_le _, Nat.zero_le _⟩ (m_SD_isWithin l) (s_SD_76 hts am_vW hN ⟨by decide, by decide⟩) d_SD_tick_4
  split at h
  · rename_i hpc
    subst hpc; cases h
    exact am_callV S vw_N_ok hK hN hA ⟨Nat.zero_le _, Nat.zero_le _⟩ (m_CO_step l) (s_SD_140 hts am_vW hN ⟨by decide, by decide⟩) (by rfl) d_SD_tick_66
  cases h
def inv_SD_tick : List am_V → am_M → Nat → am_K := fun av M μ pc ls st M2 => match av with
  | [.inr (.inl i), .inl n] => (pc = 0 ∧ ls = am_l0 [.inr (.inl i), .inl n] 4 ∧ st = [] ∧ M = M2 ∧ μ = 1000000) ∨ ∃ j : Nat, pc = 53 ∧ ls = [some (.inr (.inl i)), some (.inl n), some (.inl (sd_tr M j)), some (.inl (j : Int))] ∧ st = [] ∧ M2 = sd_ti j M ∧ ((j : Int) ≤ n ∧ sd_kc M n = 0) ∧ μ = (n - j).toNat
  | _ => False
set_option maxHeartbeats 2000000 in
theorem m_SD_tick (l : Launch) (hfl : l.flags = flags0) : am_ME l y_SD_tick w_SD_tick t_SD_tick P_SD_tick f_SD_tick g_SD_tick cd_SD_tick tc_SD_tick := by
  refine am_mkE (fun pc => pc == 10 || pc == 39 || pc == 53) hfl rfl ⟨by decide, by decide, by decide, by decide⟩ th_SD_tick_ok i_SD_tick_ok fd_SD_ok (ct_SD_tick_ok l) (plainFor_of_name (by decide +kernel)) (by decide) ?_ 80 inv_SD_tick ?_ ?_
  · intro av M h
    unfold P_SD_tick at h
    split at h
    · exact ⟨Nat.le_of_ble_eq_true rfl, rfl⟩
    · exact h.elim
  · intro av M h
    unfold P_SD_tick at h
    split at h
    · exact ⟨1000000, Or.inl ⟨rfl, rfl, rfl, rfl, rfl⟩⟩
    · exact h.elim
  · intro av M h μ pc ls st M2 hi
    unfold P_SD_tick at h
    split at h
    · rename_i i n
      obtain ⟨rfl, r1, B, hI⟩ := h
      have h08 := hI.2.1.1
      have n0 := hI.2.1.2.1
      rcases hi with ⟨rfl, rfl, rfl, rfl, rfl⟩ | ⟨j, rfl, rfl, rfl, rfl, ⟨hj, ec⟩, rfl⟩
      · skip
        refine xs_iload_n (q := 1) i_SD_tick_0 rfl rfl (xs_n rfl ?_)
        refine xs_iconst (q := 2) i_SD_tick_1 rfl (xs_n rfl ?_)
        refine xs_bipush (q := 4) i_SD_tick_2 rfl (by decide) (xs_n rfl ?_)
        refine xs_cs (q := 7) (av := [_, _, _]) (rest := []) i_SD_tick_4 rfl (e_SD_tick_4) ⟨rfl, rfl⟩ rfl rfl ?_
        rw [am_S_iff]
        refine ⟨⟨r1, by unfold am_R; omega, by unfold am_R; omega⟩, ?_⟩
        dsimp only [g_SD_isWithin, g_id]
        refine xs_r1 rfl (xs_n rfl ?_)
        refine xs_if_ne (q := 20) (r := 10) i_SD_tick_7 rfl rfl am_ite (fun h7 => (xs_n rfl ?_)) (fun h7 => (xs_z rfl ?_))
        · refine xs_aload_n (q := 21) i_SD_tick_20 rfl rfl (xs_n rfl ?_)
          refine xs_geti (q := 24) i_SD_tick_21 rfl fd_SD_68 sg_0 rfl (xs_n rfl ?_)
          refine xs_if_eq (q := 39) (r := 27) i_SD_tick_24 rfl rfl (by unfold am_R; omega) (fun h24 => (xs_z rfl ?_)) (fun h24 => (xs_n rfl ?_))
          · have ec : sd_kc M n = 2 := by unfold sd_kc; rw [if_pos (am_ite1 h7), if_pos (Or.inl h24)]
            exact Or.inr ⟨th_bl[7], by show th_SD_tick 39 = some (sd_kc M n, th_bl[7]); rw [ec]; rfl, rfl, rfl⟩
          · refine xs_aload_n (q := 28) i_SD_tick_27 rfl rfl (xs_n rfl ?_)
            refine xs_geti (q := 31) i_SD_tick_28 rfl fd_SD_72 sg_0 rfl (xs_n rfl ?_)
            refine xs_iload_n (q := 32) i_SD_tick_31 rfl rfl (xs_n rfl ?_)
            refine xs_iadd (q := 33) i_SD_tick_32 rfl (xs_n rfl ?_)
            refine xs_sipush (q := 36) i_SD_tick_33 rfl (by decide) (xs_n rfl ?_)
            refine xs_ic_le (q := 49) (r := 39) i_SD_tick_36 rfl rfl ⟨by have q7 : 1 ≤ n ∧ n ≤ 100 := am_ite1 h7; unfold am_R; omega, by unfold am_R; omega⟩ (fun h36 => (xs_n rfl ?_)) (fun h36 => (xs_z rfl ?_))
            · refine xs_iconst (q := 50) i_SD_tick_49 rfl (xs_n rfl ?_)
              refine xs_istore_n (q := 51) (ls2 := [_, _, _, _]) i_SD_tick_50 rfl rfl rfl (xs_n rfl ?_)
              refine xs_iconst (q := 52) i_SD_tick_51 rfl (xs_n rfl ?_)
              refine xs_istore_n (q := 53) (ls2 := [_, _, _, _]) i_SD_tick_52 rfl rfl rfl (xs_z rfl ?_)
              have ec : sd_kc M n = 0 := by unfold sd_kc; rw [if_pos (am_ite1 h7), if_neg (fun q => q.elim h24 (fun z => by omega))]
              have q7 : 1 ≤ n ∧ n ≤ 100 := am_ite1 h7
              exact Or.inl ⟨(n - ((0 : Nat) : Int)).toNat, by omega, Or.inr ⟨0, rfl, rfl, rfl, rfl, ⟨by omega, ec⟩, rfl⟩⟩
            · have ec : sd_kc M n = 2 := by unfold sd_kc; rw [if_pos (am_ite1 h7), if_pos (Or.inr h36)]
              exact Or.inr ⟨th_bl[7], by show th_SD_tick 39 = some (sd_kc M n, th_bl[7]); rw [ec]; rfl, rfl, rfl⟩
        · have ec : sd_kc M n = 1 := by unfold sd_kc; rw [if_neg (am_ite0 h7)]
          exact Or.inr ⟨th_bl[6], by show th_SD_tick 10 = some (sd_kc M n, th_bl[6]); rw [ec]; rfl, rfl, rfl⟩
      · skip
        refine xs_iload_n (q := 54) i_SD_tick_53 rfl rfl (xs_n rfl ?_)
        refine xs_iload_n (q := 55) i_SD_tick_54 rfl rfl (xs_n rfl ?_)
        refine xs_ic_ge (q := 96) (r := 58) i_SD_tick_55 rfl rfl ⟨by unfold am_R at r1 ⊢; omega, r1⟩ (fun h55 => (xs_n rfl ?_)) (fun h55 => (xs_n rfl ?_))
        · refine xs_iload_n (q := 97) i_SD_tick_96 rfl rfl (xs_n rfl ?_)
          refine xs_iret i_SD_tick_97 ?_
          obtain rfl : j = n.toNat := by omega
          exact xs_finE (cd := cd_SD_tick) (show cd_SD_tick [.inr (.inl 0), .inl n] _ = 0 from ec) (rfl) (rfl) (trivial)
        · have hk := sd_kc_0 hI ec
          have ht := lw_ti hI hk.2.1 j (by omega)
          have e9 : g_CO_step [.inr (.inl 26), .inl (sd_ti j M 0 9)] (sd_ti j M) 0 9 = sd_ti j M 0 9 := co_step_k (by omega) (by omega)
          refine xs_aload_n (q := 59) i_SD_tick_58 rfl rfl (xs_n rfl ?_)
          refine xs_getr (q := 62) i_SD_tick_59 rfl fd_SD_51 sg_0 rfl (xs_n rfl ?_)
          refine xs_aload_n (q := 63) i_SD_tick_62 rfl rfl (xs_n rfl ?_)
          refine xs_geti (q := 66) i_SD_tick_63 rfl fd_SD_72 sg_0 rfl (xs_n rfl ?_)
          refine xs_cv (q := 69) (av := [_, _]) (rest := []) i_SD_tick_66 rfl (e_SD_tick_66) ⟨rfl, rfl⟩ rfl rfl ?_
          rw [am_V_iff]
          refine ⟨⟨_, sg_26⟩, (lw_t1 ht.1 ht.2.1 (by omega)).1, ?_⟩
          refine xs_r1 rfl (xs_n rfl ?_)
          refine xs_istore_n (q := 70) (ls2 := [_, _, _, _]) i_SD_tick_69 rfl rfl rfl (xs_n rfl ?_)
          refine xs_aload_n (q := 71) i_SD_tick_70 rfl rfl (xs_n rfl ?_)
          refine xs_getr (q := 74) i_SD_tick_71 rfl fd_SD_64 sg_0 rfl (xs_n rfl ?_)
          refine xs_aload_n (q := 75) i_SD_tick_74 rfl rfl (xs_n rfl ?_)
          refine xs_geti (q := 78) i_SD_tick_75 rfl fd_SD_72 sg_0 rfl (xs_n rfl ?_)
          refine xs_iload_n (q := 79) i_SD_tick_78 rfl rfl (xs_n rfl ?_)
          refine xs_iastore (q := 80) i_SD_tick_79 rfl sg_49 (by rw [e9]; omega) (xs_n rfl ?_)
          refine xs_aload_n (q := 81) i_SD_tick_80 rfl rfl (xs_n rfl ?_)
          refine xs_dupr (q := 82) i_SD_tick_81 rfl (xs_n rfl ?_)
          refine xs_geti (q := 85) i_SD_tick_82 rfl fd_SD_72 sg_0 rfl (xs_n rfl ?_)
          refine xs_iconst (q := 86) i_SD_tick_85 rfl (xs_n rfl ?_)
          refine xs_iadd (q := 87) i_SD_tick_86 rfl (xs_n rfl ?_)
          refine xs_puti (q := 90) i_SD_tick_87 rfl fd_SD_72 sg_0 rfl (xs_n rfl ?_)
          refine xs_iinc (q := 93) (ls2 := [_, _, _, _]) i_SD_tick_90 rfl rfl rfl (xs_n rfl ?_)
          refine xs_goto (q := 53) i_SD_tick_93 rfl (xs_z rfl ?_)
          refine Or.inl ⟨(n - ((j + 1 : Nat) : Int)).toNat, by omega, Or.inr ⟨j + 1, rfl, ?_, rfl, ?_, ⟨by omega, ec⟩, rfl⟩⟩
          · rw [show ((j + 1 : Nat) : Int) = (j : Int) + 1 by omega]; rfl
          · show am_up _ _ _ _ = sd_t1 (sd_ti j M)
            unfold sd_t1
            rw [am_up_k (a := 0) (b := 9) _ _ (by decide), e9]
            rfl
    · exact h.elim
abbrev t_SD_served : Room := { frames := 6, cells := 1, slots := 6, locals := 100 }
def P_SD_served : am_P := fun av M => match av with
  | [.inr (.inl i), .inl a, .inl b] => i = 0 ∧ (am_R a ∧ am_R b) ∧ lw_M M
  | _ => False
def f_SD_served : am_Fr := fun av M => match av with
  | [.inr (.inl i), .inl a, .inl b] => some (.inl (ma_su (fun q => if M 49 (a.toNat + q) < 0 then 1 else 0) (b - a).toNat))
  | _ => none
abbrev g_SD_served : am_Fm := g_id
def cd_SD_served : List am_V → am_M → Int := fun av M => match av with
  | [.inr (.inl i), .inl a, .inl b] => sd_vc M a b
  | _ => 0
def tc_SD_served : Int → String := fun k =>  "java/lang/IllegalArgumentException"
def th_SD_served : Nat → Option (Int × (String × Nat × Nat × Nat × String)) := fun pc => if pc = 17 then some (1, th_bl[17]) else none
theorem th_SD_served_ok : th_D b_SD_served th_SD_served tc_SD_served := by
  intro pc k b h
  unfold th_SD_served at h
  split at h
  · rename_i e
    subst e
    cases h
    exact ⟨by decide, List.getElem_mem _, rfl, d_SD_served_17, d_SD_served_20, d_SD_served_21, d_SD_served_23, d_SD_served_26⟩
  cases h
def inv_SD_served : List am_V → am_M → Nat → am_K := fun av M μ pc ls st M2 => match av with
  | [.inr (.inl i), .inl a, .inl b] => (pc = 0 ∧ ls = am_l0 [.inr (.inl i), .inl a, .inl b] 5 ∧ st = [] ∧ M = M2 ∧ μ = 1000000) ∨ ∃ q : Nat, pc = 32 ∧ ls = [some (.inr (.inl i)), some (.inl a), some (.inl b), some (.inl (ma_su (fun q => if M 49 (a.toNat + q) < 0 then 1 else 0) q)), some (.inl (a + q))] ∧ st = [] ∧ M = M2 ∧ ((q : Int) ≤ b - a ∧ sd_vc M a b = 0) ∧ μ = (b - a - q).toNat
  | _ => False
set_option maxHeartbeats 2000000 in
theorem m_SD_served (l : Launch) (hfl : l.flags = flags0) : am_ME l y_SD_served w_SD_served t_SD_served P_SD_served f_SD_served g_SD_served cd_SD_served tc_SD_served := by
  refine am_mkE (fun pc => pc == 17 || pc == 32) hfl rfl ⟨by decide, by decide, by decide, by decide⟩ th_SD_served_ok i_SD_served_ok fd_SD_ok am_CC0 (plainFor_of_name (by decide +kernel)) (by decide) ?_ 80 inv_SD_served ?_ ?_
  · intro av M h
    unfold P_SD_served at h
    split at h
    · exact ⟨Nat.le_of_ble_eq_true rfl, rfl⟩
    · exact h.elim
  · intro av M h
    unfold P_SD_served at h
    split at h
    · exact ⟨1000000, Or.inl ⟨rfl, rfl, rfl, rfl, rfl⟩⟩
    · exact h.elim
  · intro av M h μ pc ls st M2 hi
    unfold P_SD_served at h
    split at h
    · rename_i i a b
      obtain ⟨rfl, ⟨r1, r2⟩, B, hI⟩ := h
      have n0 := hI.2.1.2.1
      rcases hi with ⟨rfl, rfl, rfl, rfl, rfl⟩ | ⟨q, rfl, rfl, rfl, rfl, ⟨hq, ec⟩, rfl⟩
      · skip
        refine xs_iload_n (q := 1) i_SD_served_0 rfl rfl (xs_n rfl ?_)
        refine xs_if_lt (q := 17) (r := 4) i_SD_served_1 rfl rfl r1 (fun h1 => (xs_z rfl ?_)) (fun h1 => (xs_n rfl ?_))
        · have ec : sd_vc M a b = 1 := by unfold sd_vc; rw [if_neg (fun q => by omega)]
          exact Or.inr ⟨th_bl[17], by show th_SD_served 17 = some (sd_vc M a b, th_bl[17]); rw [ec]; rfl, rfl, rfl⟩
        · refine xs_iload_n (q := 5) i_SD_served_4 rfl rfl (xs_n rfl ?_)
          refine xs_iload_n (q := 6) i_SD_served_5 rfl rfl (xs_n rfl ?_)
          refine xs_ic_gt (q := 17) (r := 9) i_SD_served_6 rfl rfl ⟨r1, r2⟩ (fun h6 => (xs_z rfl ?_)) (fun h6 => (xs_n rfl ?_))
          · have ec : sd_vc M a b = 1 := by unfold sd_vc; rw [if_neg (fun q => by omega)]
            exact Or.inr ⟨th_bl[17], by show th_SD_served 17 = some (sd_vc M a b, th_bl[17]); rw [ec]; rfl, rfl, rfl⟩
          · refine xs_iload_n (q := 10) i_SD_served_9 rfl rfl (xs_n rfl ?_)
            refine xs_aload_n (q := 11) i_SD_served_10 rfl rfl (xs_n rfl ?_)
            refine xs_geti (q := 14) i_SD_served_11 rfl fd_SD_72 sg_0 rfl (xs_n rfl ?_)
            refine xs_ic_le (q := 27) (r := 17) i_SD_served_14 rfl rfl ⟨r2, by unfold am_R; omega⟩ (fun h14 => (xs_n rfl ?_)) (fun h14 => (xs_z rfl ?_))
            · refine xs_iconst (q := 28) i_SD_served_27 rfl (xs_n rfl ?_)
              refine xs_istore_n (q := 29) (ls2 := [_, _, _, _, _]) i_SD_served_28 rfl rfl rfl (xs_n rfl ?_)
              refine xs_iload_n (q := 30) i_SD_served_29 rfl rfl (xs_n rfl ?_)
              refine xs_istore (q := 32) (ls2 := [_, _, _, _, _]) i_SD_served_30 rfl rfl rfl (xs_z rfl ?_)
              have ec : sd_vc M a b = 0 := by unfold sd_vc; rw [if_pos (by omega)]
              exact Or.inl ⟨(b - a - ((0 : Nat) : Int)).toNat, by omega, Or.inr ⟨0, rfl, by rw [show a + ((0 : Nat) : Int) = a by omega]; rfl, rfl, rfl, ⟨by omega, ec⟩, rfl⟩⟩
            · have ec : sd_vc M a b = 1 := by unfold sd_vc; rw [if_neg (fun q => by omega)]
              exact Or.inr ⟨th_bl[17], by show th_SD_served 17 = some (sd_vc M a b, th_bl[17]); rw [ec]; rfl, rfl, rfl⟩
      · skip
        have hv : 0 ≤ a ∧ a ≤ b ∧ b ≤ M 0 9 := by
          unfold sd_vc at ec
          by_cases w : 0 ≤ a ∧ a ≤ b ∧ b ≤ M 0 9
          · exact w
          · rw [if_neg w] at ec; exact absurd ec (by decide)
        refine xs_iload (q := 34) i_SD_served_32 rfl rfl (xs_n rfl ?_)
        refine xs_iload_n (q := 35) i_SD_served_34 rfl rfl (xs_n rfl ?_)
        refine xs_ic_ge (q := 57) (r := 38) i_SD_served_35 rfl rfl ⟨by have := hv; unfold am_R; omega, r2⟩ (fun h35 => (xs_n rfl ?_)) (fun h35 => (xs_n rfl ?_))
        · refine xs_iload_n (q := 58) i_SD_served_57 rfl rfl (xs_n rfl ?_)
          refine xs_iret i_SD_served_58 ?_
          obtain rfl : q = (b - a).toNat := by omega
          exact xs_finE (cd := cd_SD_served) (show cd_SD_served [.inr (.inl 0), .inl a, .inl b] _ = 0 from ec) (rfl) (rfl) (trivial)
        · have e5 : M 49 (a + (q : Int)).toNat = M 49 (a.toNat + q) := by rw [show (a + (q : Int)).toNat = a.toNat + q by omega]
          have hz : M 49 (a.toNat + q) = B 70 (a.toNat + q) ∧ (-50 ≤ B 70 (a.toNat + q) ∧ B 70 (a.toNat + q) ≤ 50) := ⟨hI.2.2.2.2.2.2.2.2.1 _ (by omega), hI.2.2.2.2.2.2.2.2.2.1 _ (by omega)⟩
          refine xs_aload_n (q := 39) i_SD_served_38 rfl rfl (xs_n rfl ?_)
          refine xs_getr (q := 42) i_SD_served_39 rfl fd_SD_64 sg_0 rfl (xs_n rfl ?_)
          refine xs_iload (q := 44) i_SD_served_42 rfl rfl (xs_n rfl ?_)
          refine xs_iaload (q := 45) i_SD_served_44 rfl sg_49 rfl (by have := hv; omega) (xs_n rfl ?_)
          refine xs_if_ge (q := 51) (r := 48) i_SD_served_45 rfl rfl (by rw [e5, hz.1]; exact ⟨by omega, by omega⟩) (fun h45 => (xs_n rfl ?_)) (fun h45 => (xs_n rfl ?_))
          · refine xs_iinc (q := 54) (ls2 := [_, _, _, _, _]) i_SD_served_51 rfl rfl rfl (xs_n rfl ?_)
            refine xs_goto (q := 32) i_SD_served_54 rfl (xs_z rfl ?_)
            refine Or.inl ⟨(b - a - ((q + 1 : Nat) : Int)).toNat, by omega, Or.inr ⟨q + 1, rfl, ?_, rfl, rfl, ⟨by omega, ec⟩, rfl⟩⟩
            rw [show a + ((q + 1 : Nat) : Int) = a + (q : Int) + 1 by omega]
            simp only [ma_su]
            rw [if_neg (show ¬ M 49 (a.toNat + q) < 0 by rw [← e5]; omega), Int.add_zero]
          · refine xs_iinc (q := 51) (ls2 := [_, _, _, _, _]) i_SD_served_48 rfl rfl rfl (xs_n rfl ?_)
            refine xs_iinc (q := 54) (ls2 := [_, _, _, _, _]) i_SD_served_51 rfl rfl rfl (xs_n rfl ?_)
            refine xs_goto (q := 32) i_SD_served_54 rfl (xs_z rfl ?_)
            refine Or.inl ⟨(b - a - ((q + 1 : Nat) : Int)).toNat, by omega, Or.inr ⟨q + 1, rfl, ?_, rfl, rfl, ⟨by omega, ec⟩, rfl⟩⟩
            rw [show a + ((q + 1 : Nat) : Int) = a + (q : Int) + 1 by omega]
            simp only [ma_su]
            rw [if_pos (show M 49 (a.toNat + q) < 0 by rw [← e5]; omega)]
    · exact h.elim
abbrev t_SD_state : Room := { frames := 6, cells := 1, slots := 6, locals := 100 }
def P_SD_state : am_P := fun av M => match av with
  | [.inr (.inl i), .inl j] => i = 0 ∧ am_R j ∧ lw_M M
  | _ => False
def f_SD_state : am_Fr := fun av M => match av with
  | [.inr (.inl i), .inl j] => some (.inl (sd_st M j))
  | _ => none
abbrev g_SD_state : am_Fm := g_id
def cd_SD_state : List am_V → am_M → Int := fun av M => match av with
  | [.inr (.inl i), .inl j] => sd_wc j
  | _ => 0
def tc_SD_state : Int → String := fun k =>  "java/lang/IllegalArgumentException"
def th_SD_state : Nat → Option (Int × (String × Nat × Nat × Nat × String)) := fun pc => if pc = 115 then some (1, th_bl[20]) else none
theorem th_SD_state_ok : th_D b_SD_state th_SD_state tc_SD_state := by
  intro pc k b h
  unfold th_SD_state at h
  split at h
  · rename_i e
    subst e
    cases h
    exact ⟨by decide, List.getElem_mem _, rfl, d_SD_state_115, d_SD_state_118, d_SD_state_119, d_SD_state_121, d_SD_state_124⟩
  cases h
def inv_SD_state : List am_V → am_M → Nat → am_K := fun av M _ pc ls st M2 => pc = 0 ∧ ls = am_l0 av 2 ∧ st = [] ∧ M = M2
set_option maxHeartbeats 2000000 in
theorem m_SD_state (l : Launch) (hfl : l.flags = flags0) : am_ME l y_SD_state w_SD_state t_SD_state P_SD_state f_SD_state g_SD_state cd_SD_state tc_SD_state := by
  refine am_mkE (fun pc => pc == 115) hfl rfl ⟨by decide, by decide, by decide, by decide⟩ th_SD_state_ok i_SD_state_ok fd_SD_ok am_CC0 (plainFor_of_name (by decide +kernel)) (by decide) ?_ 80 inv_SD_state ?_ ?_
  · intro av M h
    unfold P_SD_state at h
    split at h
    · exact ⟨Nat.le_of_ble_eq_true rfl, rfl⟩
    · exact h.elim
  · intro av M h
    unfold P_SD_state at h
    split at h
    · exact ⟨0, rfl, rfl, rfl, rfl⟩
    · exact h.elim
  · intro av M h μ pc ls st M2 hi
    unfold P_SD_state at h
    split at h
    · rename_i i j
      obtain ⟨rfl, r1, B, hI⟩ := h
      obtain ⟨rfl, rfl, rfl, rfl⟩ := hi
      refine xs_iload_n (q := 1) i_SD_state_0 rfl rfl (xs_n rfl ?_)
      refine xs_table i_SD_state_1 (by decide) (by decide) (by decide) (r1) (fun h1d => ?_) ⟨fun h1_0 => ?_, ⟨fun h1_1 => ?_, ⟨fun h1_2 => ?_, ⟨fun h1_3 => ?_, ⟨fun h1_4 => ?_, ⟨fun h1_5 => ?_, ⟨fun h1_6 => ?_, ⟨fun h1_7 => ?_, trivial⟩⟩⟩⟩⟩⟩⟩⟩
      · show am_nx _ _ _ _ _ _ _ _ _ _ _ _ _
        refine xs_q (q := 115) rfl (xs_z rfl ?_)
        have ec : sd_wc j = 1 := by unfold sd_wc; rw [if_neg (by omega)]
        exact Or.inr ⟨th_bl[20], by show th_SD_state 115 = some (sd_wc j, th_bl[20]); rw [ec]; rfl, rfl, rfl⟩
      · show am_nx _ _ _ _ _ _ _ _ _ _ _ _ _
        refine xs_q (q := 48) rfl (xs_n rfl ?_)
        refine xs_aload_n (q := 49) i_SD_state_48 rfl rfl (xs_n rfl ?_)
        refine xs_getr (q := 52) i_SD_state_49 rfl fd_SD_60 sg_0 rfl (xs_n rfl ?_)
        refine xs_geti (q := 55) i_SD_state_52 rfl fd_SD_218 sg_48 rfl (xs_n rfl ?_)
        refine xs_iret i_SD_state_55 ?_
        subst h1_0
        have ec : sd_wc 0 = 0 := rfl
        exact xs_finE (cd := cd_SD_state) (show cd_SD_state [.inr (.inl 0), .inl 0] _ = 0 from ec) (rfl) (rfl) (trivial)
      · show am_nx _ _ _ _ _ _ _ _ _ _ _ _ _
        refine xs_q (q := 56) rfl (xs_n rfl ?_)
        refine xs_aload_n (q := 57) i_SD_state_56 rfl rfl (xs_n rfl ?_)
        refine xs_getr (q := 60) i_SD_state_57 rfl fd_SD_60 sg_0 rfl (xs_n rfl ?_)
        refine xs_geti (q := 63) i_SD_state_60 rfl fd_SD_221 sg_48 rfl (xs_n rfl ?_)
        refine xs_iret i_SD_state_63 ?_
        subst h1_1
        have ec : sd_wc 1 = 0 := rfl
        exact xs_finE (cd := cd_SD_state) (show cd_SD_state [.inr (.inl 0), .inl 1] _ = 0 from ec) (rfl) (rfl) (trivial)
      · show am_nx _ _ _ _ _ _ _ _ _ _ _ _ _
        refine xs_q (q := 64) rfl (xs_n rfl ?_)
        refine xs_aload_n (q := 65) i_SD_state_64 rfl rfl (xs_n rfl ?_)
        refine xs_getr (q := 68) i_SD_state_65 rfl fd_SD_51 sg_0 rfl (xs_n rfl ?_)
        refine xs_geti (q := 71) i_SD_state_68 rfl fd_SD_224 sg_26 rfl (xs_n rfl ?_)
        refine xs_iret i_SD_state_71 ?_
        subst h1_2
        have ec : sd_wc 2 = 0 := rfl
        exact xs_finE (cd := cd_SD_state) (show cd_SD_state [.inr (.inl 0), .inl 2] _ = 0 from ec) (rfl) (rfl) (trivial)
      · show am_nx _ _ _ _ _ _ _ _ _ _ _ _ _
        refine xs_q (q := 72) rfl (xs_n rfl ?_)
        refine xs_aload_n (q := 73) i_SD_state_72 rfl rfl (xs_n rfl ?_)
        refine xs_getr (q := 76) i_SD_state_73 rfl fd_SD_60 sg_0 rfl (xs_n rfl ?_)
        refine xs_geti (q := 79) i_SD_state_76 rfl fd_SD_227 sg_48 rfl (xs_n rfl ?_)
        refine xs_iret i_SD_state_79 ?_
        subst h1_3
        have ec : sd_wc 3 = 0 := rfl
        exact xs_finE (cd := cd_SD_state) (show cd_SD_state [.inr (.inl 0), .inl 3] _ = 0 from ec) (rfl) (rfl) (trivial)
      · show am_nx _ _ _ _ _ _ _ _ _ _ _ _ _
        refine xs_q (q := 80) rfl (xs_n rfl ?_)
        refine xs_aload_n (q := 81) i_SD_state_80 rfl rfl (xs_n rfl ?_)
        refine xs_geti (q := 84) i_SD_state_81 rfl fd_SD_72 sg_0 rfl (xs_n rfl ?_)
        refine xs_iret i_SD_state_84 ?_
        subst h1_4
        have ec : sd_wc 4 = 0 := rfl
        exact xs_finE (cd := cd_SD_state) (show cd_SD_state [.inr (.inl 0), .inl 4] _ = 0 from ec) (rfl) (rfl) (trivial)
      · show am_nx _ _ _ _ _ _ _ _ _ _ _ _ _
        refine xs_q (q := 85) rfl (xs_n rfl ?_)
        refine xs_aload_n (q := 86) i_SD_state_85 rfl rfl (xs_n rfl ?_)
        refine xs_getr (q := 89) i_SD_state_86 rfl fd_SD_51 sg_0 rfl (xs_n rfl ?_)
        refine xs_getr (q := 92) i_SD_state_89 rfl fd_SD_156 sg_26 rfl (xs_n rfl ?_)
        refine xs_geti (q := 95) i_SD_state_92 rfl fd_SD_228 sg_32 rfl (xs_n rfl ?_)
        refine xs_iret i_SD_state_95 ?_
        subst h1_5
        have ec : sd_wc 5 = 0 := rfl
        exact xs_finE (cd := cd_SD_state) (show cd_SD_state [.inr (.inl 0), .inl 5] _ = 0 from ec) (rfl) (rfl) (trivial)
      · show am_nx _ _ _ _ _ _ _ _ _ _ _ _ _
        refine xs_q (q := 96) rfl (xs_n rfl ?_)
        refine xs_aload_n (q := 97) i_SD_state_96 rfl rfl (xs_n rfl ?_)
        refine xs_getr (q := 100) i_SD_state_97 rfl fd_SD_10 sg_0 rfl (xs_n rfl ?_)
        refine xs_geti (q := 103) i_SD_state_100 rfl fd_SD_231 sg_1 rfl (xs_n rfl ?_)
        refine xs_iret i_SD_state_103 ?_
        subst h1_6
        have ec : sd_wc 6 = 0 := rfl
        exact xs_finE (cd := cd_SD_state) (show cd_SD_state [.inr (.inl 0), .inl 6] _ = 0 from ec) (rfl) (rfl) (trivial)
      · show am_nx _ _ _ _ _ _ _ _ _ _ _ _ _
        refine xs_q (q := 104) rfl (xs_n rfl ?_)
        refine xs_aload_n (q := 105) i_SD_state_104 rfl rfl (xs_n rfl ?_)
        refine xs_getr (q := 108) i_SD_state_105 rfl fd_SD_51 sg_0 rfl (xs_n rfl ?_)
        refine xs_getr (q := 111) i_SD_state_108 rfl fd_SD_234 sg_26 rfl (xs_n rfl ?_)
        refine xs_geti (q := 114) i_SD_state_111 rfl fd_SD_238 sg_35 rfl (xs_n rfl ?_)
        refine xs_iret i_SD_state_114 ?_
        subst h1_7
        have ec : sd_wc 7 = 0 := rfl
        exact xs_finE (cd := cd_SD_state) (show cd_SD_state [.inr (.inl 0), .inl 7] _ = 0 from ec) (rfl) (rfl) (trivial)
    · exact h.elim
def P_SD_reset : am_P := fun av M => match av with
  | [.inr (.inl i)] => i = 0 ∧ lw_M M
  | _ => False
def f_SD_reset : am_Fr := fun av M => match av with
  | [.inr (.inl i)] => none
  | _ => none
def g_SD_reset : am_Fm := fun av M => match av with
  | [.inr (.inl i)] => sd_zg M
  | _ => M
def ct_SD_reset : am_T := fun pc => if pc = 4 then some (1, am_ctV vw_S 1 P_TS_clear (am_po f_TS_clear g_TS_clear)) else if pc = 11 then some (1, am_ctV vw_S 2 P_RB_clear (am_po f_RB_clear g_RB_clear)) else if pc = 45 then some (3, am_ctV vw_S 9 P_CO_begin (am_po f_CO_begin g_CO_begin)) else if pc = 52 then some (1, am_ctV vw_S 10 P_RF_clear (am_po f_RF_clear g_RF_clear)) else none
theorem e_SD_reset_4 : ct_SD_reset 4 = some (1, am_ctV vw_S 1 P_TS_clear (am_po f_TS_clear g_TS_clear)) := rfl
theorem e_SD_reset_11 : ct_SD_reset 11 = some (1, am_ctV vw_S 2 P_RB_clear (am_po f_RB_clear g_RB_clear)) := rfl
theorem e_SD_reset_45 : ct_SD_reset 45 = some (3, am_ctV vw_S 9 P_CO_begin (am_po f_CO_begin g_CO_begin)) := rfl
theorem e_SD_reset_52 : ct_SD_reset 52 = some (1, am_ctV vw_S 10 P_RF_clear (am_po f_RF_clear g_RF_clear)) := rfl
theorem ct_SD_reset_ok (l : Launch) : am_CC b_SD_reset 1 w_SD_reset y_SD_reset.cls l r_SD_reset ct_SD_reset := by
  intro p e s m args below meth c H0 A D G ad Q S hK hN hA pc q ct h
  have hts := S.2.2.2.2
  unfold ct_SD_reset at h
  split at h
  · rename_i hpc
    subst hpc; cases h
    exact am_callV S vw_N_ok hK hN hA ⟨Nat.zero_le _, Nat.zero_le _⟩ (m_TS_clear l) (s_SD_245 hts am_vW hN ⟨by decide, by decide⟩) (by rfl) d_SD_reset_4
  split at h
  · rename_i hpc
    subst hpc; cases h
    exact am_callV S vw_N_ok hK hN hA ⟨Nat.zero_le _, Nat.zero_le _⟩ (m_RB_clear l) (s_SD_248 hts am_vW hN ⟨by decide, by decide⟩) (by rfl) d_SD_reset_11
  split at h
  · rename_i hpc
    subst hpc; cases h
    exact am_callV S vw_N_ok hK hN hA ⟨Nat.zero_le _, Nat.zero_le _⟩ (m_CO_begin l) (s_SD_132 hts am_vW hN ⟨by decide, by decide⟩) (by rfl) d_SD_reset_45
  split at h
  · rename_i hpc
    subst hpc; cases h
    exact am_callV S vw_N_ok hK hN hA ⟨Nat.zero_le _, Nat.zero_le _⟩ (m_RF_clear l) (s_SD_249 hts am_vW hN ⟨by decide, by decide⟩) (by rfl) d_SD_reset_52
  cases h
theorem m_SD_reset (l : Launch) : am_MF l y_SD_reset w_SD_reset r_SD_reset P_SD_reset f_SD_reset g_SD_reset := by
  refine am_mk0 i_SD_reset_ok fd_SD_ok (ct_SD_reset_ok l) (plainFor_of_name (by decide +kernel)) (by decide) ?_ 60 ?_
  · intro av M h
    unfold P_SD_reset at h
    split at h
    · exact ⟨Nat.le_of_ble_eq_true rfl, rfl⟩
    · exact h.elim
  · intro av M Z h
    unfold P_SD_reset at h
    split at h
    · rename_i i
      obtain ⟨rfl, B, hI⟩ := h; have hT := hI.1
      refine xs_aload_n (q := 1) i_SD_reset_0 rfl rfl (xs_n rfl ?_)
      refine xs_getr (q := 4) i_SD_reset_1 rfl fd_SD_10 sg_0 rfl (xs_n rfl ?_)
      refine xs_cv (q := 7) (av := [_]) (rest := []) i_SD_reset_4 rfl (e_SD_reset_4) ⟨rfl, rfl⟩ rfl rfl ?_
      rw [am_V_iff]
      refine ⟨⟨_, sg_1⟩, rfl, ?_⟩
      refine xs_r0 rfl (xs_n rfl ?_)
      refine xs_aload_n (q := 8) i_SD_reset_7 rfl rfl (xs_n rfl ?_)
      refine xs_getr (q := 11) i_SD_reset_8 rfl fd_SD_19 sg_0 rfl (xs_n rfl ?_)
      refine xs_cv (q := 14) (av := [_]) (rest := []) i_SD_reset_11 rfl (e_SD_reset_11) ⟨rfl, rfl⟩ rfl rfl ?_
      rw [am_V_iff]
      refine ⟨⟨_, sg_7⟩, rfl, ?_⟩
      refine xs_r0 rfl (xs_n rfl ?_)
      refine xs_aload_n (q := 15) i_SD_reset_14 rfl rfl (xs_n rfl ?_)
      refine xs_getr (q := 18) i_SD_reset_15 rfl fd_SD_26 sg_0 rfl (xs_n rfl ?_)
      refine xs_iconst (q := 19) i_SD_reset_18 rfl (xs_n rfl ?_)
      refine xs_puti (q := 22) i_SD_reset_19 rfl fd_SD_145 sg_10 rfl (xs_n rfl ?_)
      refine xs_aload_n (q := 23) i_SD_reset_22 rfl rfl (xs_n rfl ?_)
      refine xs_getr (q := 26) i_SD_reset_23 rfl fd_SD_33 sg_0 rfl (xs_n rfl ?_)
      refine xs_iconst (q := 27) i_SD_reset_26 rfl (xs_n rfl ?_)
      refine xs_puti (q := 30) i_SD_reset_27 rfl fd_SD_179 sg_14 rfl (xs_n rfl ?_)
      refine xs_aload_n (q := 31) i_SD_reset_30 rfl rfl (xs_n rfl ?_)
      refine xs_getr (q := 34) i_SD_reset_31 rfl fd_SD_51 sg_0 rfl (xs_n rfl ?_)
      refine xs_aload_n (q := 35) i_SD_reset_34 rfl rfl (xs_n rfl ?_)
      refine xs_getr (q := 38) i_SD_reset_35 rfl fd_SD_19 sg_0 rfl (xs_n rfl ?_)
      refine xs_aload_n (q := 39) i_SD_reset_38 rfl rfl (xs_n rfl ?_)
      refine xs_getr (q := 42) i_SD_reset_39 rfl fd_SD_19 sg_0 rfl (xs_n rfl ?_)
      refine xs_geti (q := 45) i_SD_reset_42 rfl fd_SD_127 sg_7 rfl (xs_n rfl ?_)
      refine xs_cv (q := 48) (av := [_, _, _]) (rest := []) i_SD_reset_45 rfl (e_SD_reset_45) ⟨rfl, rfl⟩ rfl rfl ?_
      rw [am_V_iff]
      refine ⟨⟨_, sg_26⟩, ⟨cv_at (Or.inl rfl), rfl, (by have q := (sd_z0_v (A := M)).2.2.1; show 0 ≤ sd_z0 M 7 2 ∧ sd_z0 M 7 2 ≤ 3; omega), (by have q := (sd_z0_v (A := M)).1; show 0 ≤ sd_z0 M 1 5 ∧ sd_z0 M 1 5 ≤ 5; omega)⟩, ?_⟩
      refine xs_r0 rfl (xs_n rfl ?_)
      refine xs_aload_n (q := 49) i_SD_reset_48 rfl rfl (xs_n rfl ?_)
      refine xs_getr (q := 52) i_SD_reset_49 rfl fd_SD_60 sg_0 rfl (xs_n rfl ?_)
      refine xs_cv (q := 55) (av := [_]) (rest := []) i_SD_reset_52 rfl (e_SD_reset_52) ⟨rfl, rfl⟩ rfl rfl ?_
      rw [am_V_iff]
      refine ⟨⟨_, sg_48⟩, rfl, ?_⟩
      refine xs_r0 rfl (xs_n rfl ?_)
      refine xs_aload_n (q := 56) i_SD_reset_55 rfl rfl (xs_n rfl ?_)
      refine xs_iconst (q := 57) i_SD_reset_56 rfl (xs_n rfl ?_)
      refine xs_putz (q := 60) i_SD_reset_57 rfl fd_SD_68 sg_0 rfl (Or.inl rfl) (xs_n rfl ?_)
      refine xs_aload_n (q := 61) i_SD_reset_60 rfl rfl (xs_n rfl ?_)
      refine xs_iconst (q := 62) i_SD_reset_61 rfl (xs_n rfl ?_)
      refine xs_puti (q := 65) i_SD_reset_62 rfl fd_SD_72 sg_0 rfl (xs_n rfl ?_)
      refine xs_ret i_SD_reset_65 ?_
      exact xs_fin rfl rfl trivial
    · exact h.elim
