/-! contracts: the reference, free, hard (wip/whole/p51.py) -/
def mo_fg (Y : am_M) : am_M := g_MO_getReady [.inr (.inl 50)] Y
/-- a tick that no task needs -/
abbrev mo_fq (Y : am_M) : Prop := mo_rt Y = -1 ∨ 0 < mo_sn Y 1 (Y 50 1).toNat
def mo_fw (Y : am_M) : am_M := if mo_fq Y then Y else mo_rx Y
def mo_fn (Y : am_M) : am_M := am_up (mo_fw (mo_fg Y)) 50 19 (mo_fw (mo_fg Y) 50 19 + 1)
def mo_fz : Nat → am_M → am_M
  | 0, Y => Y
  | j + 1, Y => mo_fn (mo_fz j Y)
def mo_fc (Y : am_M) : Nat → Int := ma_su (fun q => if mo_fq (mo_fg (mo_fz q Y)) then 1 else 0)
theorem mo_fc_b (Y : am_M) (n : Nat) : 0 ≤ mo_fc Y n ∧ mo_fc Y n ≤ n := by
  have b1 := ma_su_nn (f := fun q => if mo_fq (mo_fg (mo_fz q Y)) then 1 else 0) (n := n) (fun j hj => by
    show (0 : Int) ≤ if mo_fq (mo_fg (mo_fz j Y)) then 1 else 0
    by_cases c : mo_fq (mo_fg (mo_fz j Y))
    · rw [if_pos c]; omega
    · rw [if_neg c]; omega)
  have b2 := ma_su_le (f := fun q => if mo_fq (mo_fg (mo_fz q Y)) then 1 else 0) (g := fun _ => 1) (n := n) (fun j hj => by
    show (if mo_fq (mo_fg (mo_fz j Y)) then (1 : Int) else 0) ≤ 1
    by_cases c : mo_fq (mo_fg (mo_fz j Y))
    · rw [if_pos c]; omega
    · rw [if_neg c]; omega)
  rw [ma_su_c] at b2
  unfold mo_fc
  omega
def P_MO_free : am_P := fun av M => match av with
  | [.inr (.inl i), .inl n] => i = 50 ∧ (0 ≤ n ∧ n ≤ 200) ∧ ∀ j, j < n.toNat → P_MO_getReady [.inr (.inl 50)] (mo_fz j (mo_kp M)) ∧ P_MO_readyTask [.inr (.inl 50)] (mo_fg (mo_fz j (mo_kp M))) ∧ P_MO_slackNow [.inr (.inl 50), .inl 1] (mo_fg (mo_fz j (mo_kp M)))
  | _ => False
def f_MO_free : am_Fr := fun av M => match av with
  | [.inr (.inl i), .inl n] => some (.inl (mo_fc (mo_kp M) n.toNat))
  | _ => none
def g_MO_free : am_Fm := fun av M => match av with
  | [.inr (.inl i), .inl n] => mo_lb (mo_fz n.toNat (mo_kp M))
  | _ => M
def ct_MO_free : am_T := fun pc => if pc = 1 then some (1, am_ctV vw_S 11 P_MO_keep (am_po f_MO_keep g_MO_keep)) else if pc = 14 then some (1, am_ctV vw_S 11 P_MO_getReady (am_po f_MO_getReady g_MO_getReady)) else if pc = 18 then some (1, am_ctV vw_S 11 P_MO_readyTask (am_po f_MO_readyTask g_MO_readyTask)) else if pc = 31 then some (2, am_ctV vw_S 11 P_MO_slackNow (am_po f_MO_slackNow g_MO_slackNow)) else if pc = 71 then some (1, am_ctV vw_S 11 P_MO_layBack (am_po f_MO_layBack g_MO_layBack)) else none
theorem e_MO_free_1 : ct_MO_free 1 = some (1, am_ctV vw_S 11 P_MO_keep (am_po f_MO_keep g_MO_keep)) := rfl
theorem e_MO_free_14 : ct_MO_free 14 = some (1, am_ctV vw_S 11 P_MO_getReady (am_po f_MO_getReady g_MO_getReady)) := rfl
theorem e_MO_free_18 : ct_MO_free 18 = some (1, am_ctV vw_S 11 P_MO_readyTask (am_po f_MO_readyTask g_MO_readyTask)) := rfl
theorem e_MO_free_31 : ct_MO_free 31 = some (2, am_ctV vw_S 11 P_MO_slackNow (am_po f_MO_slackNow g_MO_slackNow)) := rfl
theorem e_MO_free_71 : ct_MO_free 71 = some (1, am_ctV vw_S 11 P_MO_layBack (am_po f_MO_layBack g_MO_layBack)) := rfl
theorem ct_MO_free_ok (l : Launch) : am_CC b_MO_free 5 w_MO_free y_MO_free.cls l r_MO_free ct_MO_free := by
  intro p e s m args below meth c H0 A D G ad Q S hK hN hA pc q ct h
  have hts := S.2.2.2.2
  unfold ct_MO_free at h
  split at h
  · rename_i hpc
    subst hpc; cases h
    exact am_callV S vw_N_ok hK hN hA ⟨Nat.zero_le _, Nat.zero_le _⟩ (m_MO_keep l) (s_MO_198 hts am_vW hN ⟨by decide, by decide⟩) (by rfl) d_MO_free_1
  split at h
  · rename_i hpc
    subst hpc; cases h
    exact am_callV S vw_N_ok hK hN hA ⟨Nat.zero_le _, Nat.zero_le _⟩ (m_MO_getReady l) (s_MO_169 hts am_vW hN ⟨by decide, by decide⟩) (by rfl) d_MO_free_14
  split at h
  · rename_i hpc
    subst hpc; cases h
    exact am_callV S vw_N_ok hK hN hA ⟨Nat.zero_le _, Nat.zero_le _⟩ (m_MO_readyTask l) (s_MO_175 hts am_vW hN ⟨by decide, by decide⟩) (by rfl) d_MO_free_18
  split at h
  · rename_i hpc
    subst hpc; cases h
    exact am_callV S vw_N_ok hK hN hA ⟨Nat.zero_le _, Nat.zero_le _⟩ (m_MO_slackNow l) (s_MO_162 hts am_vW hN ⟨by decide, by decide⟩) (by rfl) d_MO_free_31
  split at h
  · rename_i hpc
    subst hpc; cases h
    exact am_callV S vw_N_ok hK hN hA ⟨Nat.zero_le _, Nat.zero_le _⟩ (m_MO_layBack l) (s_MO_201 hts am_vW hN ⟨by decide, by decide⟩) (by rfl) d_MO_free_71
  cases h
def inv_MO_free : List am_V → am_M → Nat → am_K := fun av M μ pc ls st M2 => match av with
  | [.inr (.inl i), .inl n] => (pc = 0 ∧ ls = am_l0 [.inr (.inl i), .inl n] 5 ∧ st = [] ∧ M = M2 ∧ μ = 1000) ∨ ∃ (j : Nat) (w : Option am_V), pc = 8 ∧ ls = [some (.inr (.inl i)), some (.inl n), some (.inl (mo_fc (mo_kp M) j)), some (.inl (j : Int)), w] ∧ st = [] ∧ M2 = mo_fz j (mo_kp M) ∧ (j : Int) ≤ n ∧ μ = (n - j).toNat
  | _ => False
theorem m_MO_free (l : Launch) : am_MF l y_MO_free w_MO_free r_MO_free P_MO_free f_MO_free g_MO_free := by
  refine am_mkL (fun pc => pc == 8) i_MO_free_ok fd_MO_ok (ct_MO_free_ok l) (plainFor_of_name (by decide +kernel)) (by decide) ?_ 60 inv_MO_free ?_ ?_
  · intro av M h
    unfold P_MO_free at h
    split at h
    · exact ⟨Nat.le_of_ble_eq_true rfl, rfl⟩
    · exact h.elim
  · intro av M h
    unfold P_MO_free at h
    split at h
    · exact ⟨_, Or.inl ⟨rfl, rfl, rfl, rfl, rfl⟩⟩
    · exact h.elim
  · intro av M h μ pc ls st M2 hi
    unfold P_MO_free at h
    split at h
    · rename_i i n
      obtain ⟨rfl, h1, h2⟩ := h
      rcases hi with ⟨rfl, rfl, rfl, rfl, rfl⟩ | ⟨j, w, rfl, rfl, rfl, rfl, hj, rfl⟩
      · skip
        refine xs_aload_n (q := 1) i_MO_free_0 rfl rfl (xs_n rfl ?_)
        refine xs_cv (q := 4) (av := [_]) (rest := []) i_MO_free_1 rfl (e_MO_free_1) ⟨rfl, rfl⟩ rfl rfl ?_
        rw [am_V_iff]
        refine ⟨⟨_, sg_50⟩, rfl, ?_⟩
        refine xs_r0 rfl (xs_n rfl ?_)
        refine xs_iconst (q := 5) i_MO_free_4 rfl (xs_n rfl ?_)
        refine xs_istore_n (q := 6) (ls2 := [_, _, _, _, _]) i_MO_free_5 rfl rfl rfl (xs_n rfl ?_)
        refine xs_iconst (q := 7) i_MO_free_6 rfl (xs_n rfl ?_)
        refine xs_istore_n (q := 8) (ls2 := [_, _, _, _, _]) i_MO_free_7 rfl rfl rfl (xs_z rfl ?_)
        exact ⟨n.toNat, by omega, Or.inr ⟨0, none, rfl, rfl, rfl, rfl, by omega, by omega⟩⟩
      · skip
        refine xs_iload_n (q := 9) i_MO_free_8 rfl rfl (xs_n rfl ?_)
        refine xs_iload_n (q := 10) i_MO_free_9 rfl rfl (xs_n rfl ?_)
        refine xs_ic_ge (q := 70) (r := 13) i_MO_free_10 rfl rfl ⟨by unfold am_R; omega, by unfold am_R; omega⟩ (fun h10 => (xs_n rfl ?_)) (fun h10 => (xs_n rfl ?_))
        · refine xs_aload_n (q := 71) i_MO_free_70 rfl rfl (xs_n rfl ?_)
          refine xs_cv (q := 74) (av := [_]) (rest := []) i_MO_free_71 rfl (e_MO_free_71) ⟨rfl, rfl⟩ rfl rfl ?_
          rw [am_V_iff]
          refine ⟨⟨_, sg_50⟩, rfl, ?_⟩
          refine xs_r0 rfl (xs_n rfl ?_)
          refine xs_iload_n (q := 75) i_MO_free_74 rfl rfl (xs_n rfl ?_)
          refine xs_iret i_MO_free_75 ?_
          obtain rfl : j = n.toNat := by omega
          exact xs_fin rfl rfl trivial
        · have hP := h2 j (by omega)
          have hok : mo_ok (mo_fg (mo_fz j (mo_kp M))) := hP.2.1.2.1
          have hok5 := hok.1
          have hrb := mo_rt_b (M := mo_fg (mo_fz j (mo_kp M))) hP.2.1.2.1
          refine xs_aload_n (q := 14) i_MO_free_13 rfl rfl (xs_n rfl ?_)
          refine xs_cv (q := 17) (av := [_]) (rest := []) i_MO_free_14 rfl (e_MO_free_14) ⟨rfl, rfl⟩ rfl rfl ?_
          rw [am_V_iff]
          refine ⟨⟨_, sg_50⟩, hP.1, ?_⟩
          rw [show g_MO_getReady [.inr (.inl 50)] (mo_fz j (mo_kp M)) = mo_fg (mo_fz j (mo_kp M)) from rfl]
          refine xs_r0 rfl (xs_n rfl ?_)
          refine xs_aload_n (q := 18) i_MO_free_17 rfl rfl (xs_n rfl ?_)
          refine xs_cv (q := 21) (av := [_]) (rest := []) i_MO_free_18 rfl (e_MO_free_18) ⟨rfl, rfl⟩ rfl rfl ?_
          rw [am_V_iff]
          refine ⟨⟨_, sg_50⟩, hP.2.1, ?_⟩
          dsimp only [g_MO_readyTask, g_id]
          refine xs_r1 rfl (xs_n rfl ?_)
          refine xs_istore (q := 23) (ls2 := [_, _, _, _, _]) i_MO_free_21 rfl rfl rfl (xs_n rfl ?_)
          refine xs_iload (q := 25) i_MO_free_23 rfl rfl (xs_n rfl ?_)
          refine xs_iconst (q := 26) i_MO_free_25 rfl (xs_n rfl ?_)
          refine xs_ic_eq (q := 37) (r := 29) i_MO_free_26 rfl rfl ⟨by show am_R (mo_rt (mo_fg (mo_fz j (mo_kp M)))); unfold am_R; omega, by unfold am_R; omega⟩ (fun h26 => (xs_n rfl ?_)) (fun h26 => (xs_n rfl ?_))
          · refine xs_iinc (q := 40) (ls2 := [_, _, _, _, _]) i_MO_free_37 rfl rfl rfl (xs_n rfl ?_)
            refine xs_goto (q := 54) i_MO_free_40 rfl (xs_n rfl ?_)
            refine xs_aload_n (q := 55) i_MO_free_54 rfl rfl (xs_n rfl ?_)
            refine xs_dupr (q := 56) i_MO_free_55 rfl (xs_n rfl ?_)
            refine xs_geti (q := 59) i_MO_free_56 rfl fd_MO_132 sg_50 rfl (xs_n rfl ?_)
            refine xs_iconst (q := 60) i_MO_free_59 rfl (xs_n rfl ?_)
            refine xs_iadd (q := 61) i_MO_free_60 rfl (xs_n rfl ?_)
            refine xs_puti (q := 64) i_MO_free_61 rfl fd_MO_132 sg_50 rfl (xs_n rfl ?_)
            refine xs_iinc (q := 67) (ls2 := [_, _, _, _, _]) i_MO_free_64 rfl rfl rfl (xs_n rfl ?_)
            refine xs_goto (q := 8) i_MO_free_67 rfl (xs_z rfl ?_)
            have hcn : mo_fc (mo_kp M) (j + 1) = mo_fc (mo_kp M) j + 1 := by simp only [mo_fc, ma_su]; rw [if_pos (show mo_fq (mo_fg (mo_fz j (mo_kp M))) from Or.inl h26)]
            have hmn : mo_fz (j + 1) (mo_kp M) = am_up (mo_fg (mo_fz j (mo_kp M))) 50 19 ((mo_fg (mo_fz j (mo_kp M))) 50 19 + 1) := by show mo_fn (mo_fz j (mo_kp M)) = _; unfold mo_fn mo_fw; rw [if_pos (show mo_fq (mo_fg (mo_fz j (mo_kp M))) from Or.inl h26)]
            refine ⟨(n - (j + 1 : Nat)).toNat, by omega, Or.inr ⟨j + 1, some (.inl (mo_rt (mo_fg (mo_fz j (mo_kp M))))), rfl, ?_, rfl, hmn.symm, by omega, rfl⟩⟩
            rw [hcn]
            rfl
          · refine xs_aload_n (q := 30) i_MO_free_29 rfl rfl (xs_n rfl ?_)
            refine xs_iconst (q := 31) i_MO_free_30 rfl (xs_n rfl ?_)
            refine xs_cv (q := 34) (av := [_, _]) (rest := []) i_MO_free_31 rfl (e_MO_free_31) ⟨rfl, rfl⟩ rfl rfl ?_
            rw [am_V_iff]
            refine ⟨⟨_, sg_50⟩, hP.2.2, ?_⟩
            dsimp only [g_MO_slackNow, g_id]
            refine xs_r1 rfl (xs_n rfl ?_)
            refine xs_if_le (q := 43) (r := 37) i_MO_free_34 rfl rfl (by have hb := mo_sn_b (M := mo_fg (mo_fz j (mo_kp M))) hP.2.2.2.1 (z := 1) (Or.inr rfl) ((mo_fg (mo_fz j (mo_kp M))) 50 1).toNat (by omega); show am_R (mo_sn (mo_fg (mo_fz j (mo_kp M))) 1 ((mo_fg (mo_fz j (mo_kp M))) 50 1).toNat); unfold am_R; omega) (fun h34 => (xs_n rfl ?_)) (fun h34 => (xs_n rfl ?_))
            · refine xs_aload_n (q := 44) i_MO_free_43 rfl rfl (xs_n rfl ?_)
              refine xs_getr (q := 47) i_MO_free_44 rfl fd_MO_50 sg_50 rfl (xs_n rfl ?_)
              refine xs_iload (q := 49) i_MO_free_47 rfl rfl (xs_n rfl ?_)
              refine xs_dup2 (q := 50) i_MO_free_49 rfl (xs_n rfl ?_)
              refine xs_iaload (q := 51) i_MO_free_50 rfl sg_64 rfl (by have h26b : mo_rt (mo_fg (mo_fz j (mo_kp M))) ≠ -1 := h26; show 0 ≤ mo_rt (mo_fg (mo_fz j (mo_kp M))) ∧ mo_rt (mo_fg (mo_fz j (mo_kp M))) < 5; omega) (xs_n rfl ?_)
              refine xs_iconst (q := 52) i_MO_free_51 rfl (xs_n rfl ?_)
              refine xs_isub (q := 53) i_MO_free_52 rfl (xs_n rfl ?_)
              refine xs_iastore (q := 54) i_MO_free_53 rfl sg_64 (by have h26b : mo_rt (mo_fg (mo_fz j (mo_kp M))) ≠ -1 := h26; show 0 ≤ mo_rt (mo_fg (mo_fz j (mo_kp M))) ∧ mo_rt (mo_fg (mo_fz j (mo_kp M))) < 5; omega) (xs_n rfl ?_)
              refine xs_aload_n (q := 55) i_MO_free_54 rfl rfl (xs_n rfl ?_)
              refine xs_dupr (q := 56) i_MO_free_55 rfl (xs_n rfl ?_)
              refine xs_geti (q := 59) i_MO_free_56 rfl fd_MO_132 sg_50 rfl (xs_n rfl ?_)
              refine xs_iconst (q := 60) i_MO_free_59 rfl (xs_n rfl ?_)
              refine xs_iadd (q := 61) i_MO_free_60 rfl (xs_n rfl ?_)
              refine xs_puti (q := 64) i_MO_free_61 rfl fd_MO_132 sg_50 rfl (xs_n rfl ?_)
              refine xs_iinc (q := 67) (ls2 := [_, _, _, _, _]) i_MO_free_64 rfl rfl rfl (xs_n rfl ?_)
              refine xs_goto (q := 8) i_MO_free_67 rfl (xs_z rfl ?_)
              have hcn : mo_fc (mo_kp M) (j + 1) = mo_fc (mo_kp M) j := by simp only [mo_fc, ma_su]; rw [if_neg (show ¬ mo_fq (mo_fg (mo_fz j (mo_kp M))) from fun z => z.elim h26 (fun y => absurd y (Int.not_lt.mpr h34)))]; simp
              have hmn : mo_fz (j + 1) (mo_kp M) = am_up (mo_rx (mo_fg (mo_fz j (mo_kp M)))) 50 19 ((mo_rx (mo_fg (mo_fz j (mo_kp M)))) 50 19 + 1) := by show mo_fn (mo_fz j (mo_kp M)) = _; unfold mo_fn mo_fw; rw [if_neg (show ¬ mo_fq (mo_fg (mo_fz j (mo_kp M))) from fun z => z.elim h26 (fun y => absurd y (Int.not_lt.mpr h34)))]
              refine ⟨(n - (j + 1 : Nat)).toNat, by omega, Or.inr ⟨j + 1, some (.inl (mo_rt (mo_fg (mo_fz j (mo_kp M))))), rfl, ?_, rfl, hmn.symm, by omega, rfl⟩⟩
              rw [hcn]
              rfl
            · refine xs_iinc (q := 40) (ls2 := [_, _, _, _, _]) i_MO_free_37 rfl rfl rfl (xs_n rfl ?_)
              refine xs_goto (q := 54) i_MO_free_40 rfl (xs_n rfl ?_)
              refine xs_aload_n (q := 55) i_MO_free_54 rfl rfl (xs_n rfl ?_)
              refine xs_dupr (q := 56) i_MO_free_55 rfl (xs_n rfl ?_)
              refine xs_geti (q := 59) i_MO_free_56 rfl fd_MO_132 sg_50 rfl (xs_n rfl ?_)
              refine xs_iconst (q := 60) i_MO_free_59 rfl (xs_n rfl ?_)
              refine xs_iadd (q := 61) i_MO_free_60 rfl (xs_n rfl ?_)
              refine xs_puti (q := 64) i_MO_free_61 rfl fd_MO_132 sg_50 rfl (xs_n rfl ?_)
              refine xs_iinc (q := 67) (ls2 := [_, _, _, _, _]) i_MO_free_64 rfl rfl rfl (xs_n rfl ?_)
              refine xs_goto (q := 8) i_MO_free_67 rfl (xs_z rfl ?_)
              have hcn : mo_fc (mo_kp M) (j + 1) = mo_fc (mo_kp M) j + 1 := by simp only [mo_fc, ma_su]; rw [if_pos (show mo_fq (mo_fg (mo_fz j (mo_kp M))) from Or.inr h34)]
              have hmn : mo_fz (j + 1) (mo_kp M) = am_up (mo_fg (mo_fz j (mo_kp M))) 50 19 ((mo_fg (mo_fz j (mo_kp M))) 50 19 + 1) := by show mo_fn (mo_fz j (mo_kp M)) = _; unfold mo_fn mo_fw; rw [if_pos (show mo_fq (mo_fg (mo_fz j (mo_kp M))) from Or.inr h34)]
              refine ⟨(n - (j + 1 : Nat)).toNat, by omega, Or.inr ⟨j + 1, some (.inl (mo_rt (mo_fg (mo_fz j (mo_kp M))))), rfl, ?_, rfl, hmn.symm, by omega, rfl⟩⟩
              rw [hcn]
              rfl
    · exact h.elim
def mo_hc (M : am_M) (c w : Int) : Int := if ((1 ≤ c ∧ c ≤ 30) ∧ (1 ≤ w ∧ w ≤ 200)) then (if (M 50 10 ≠ 0 ∧ M 50 11 ≠ 40 ∧ M 50 7 = 3) then 0 else 2) else 1
def mo_hn (M : am_M) (c : Int) (n : Nat) : Int := c + ma_su (fun q => if M 60 q = 0 then 0 else M 68 q) n
theorem mo_hn_b {M : am_M} {c : Int} (h : ∀ j, j < 40 → 0 ≤ M 68 j ∧ M 68 j ≤ 1000) (n : Nat) (hn : n ≤ 40) : c ≤ mo_hn M c n ∧ mo_hn M c n ≤ c + 40000 := by
  have k : ∀ j, j < n → (0 : Int) ≤ (if M 60 j = 0 then 0 else M 68 j) ∧ (if M 60 j = 0 then 0 else M 68 j) ≤ 1000 := by
    intro j hj
    have := h j (by omega)
    by_cases e : M 60 j = 0
    · rw [if_pos e]; omega
    · rw [if_neg e]; omega
  have b1 := ma_su_nn (f := (fun q => if M 60 q = 0 then 0 else M 68 q)) (n := n) (fun j hj => (k j hj).1)
  have b2 := ma_su_le (f := (fun q => if M 60 q = 0 then 0 else M 68 q)) (g := fun _ => 1000) (n := n) (fun j hj => (k j hj).2)
  rw [ma_su_c] at b2
  unfold mo_hn
  omega
def P_MO_hard : am_P := fun av M => match av with
  | [.inr (.inl i), .inl c, .inl w] => i = 50 ∧ (am_R c ∧ am_R w) ∧ am_R (M 50 10) ∧ am_R (M 50 7) ∧ (0 ≤ M 50 11 ∧ M 50 11 ≤ 40) ∧ (∀ j, j < 40 → am_R (M 60 j)) ∧ (∀ j, j < 40 → 0 ≤ M 68 j ∧ M 68 j ≤ 1000) ∧ (mo_hc M c w = 0 → P_MO_free [.inr (.inl 50), .inl w] (am_up M 50 0 0) ∧ P_MO_arrive [.inr (.inl 50), .inl c, .inl 1] (g_MO_free [.inr (.inl 50), .inl w] (am_up M 50 0 0)))
  | _ => False
def f_MO_hard : am_Fr := fun av M => match av with
  | [.inr (.inl i), .inl c, .inl w] => some (.inl (if mo_hc M c w = 0 then (if mo_hn M c (M 50 11).toNat ≤ mo_fc (mo_kp (am_up M 50 0 0)) w.toNat then (g_MO_free [.inr (.inl 50), .inl w] (am_up M 50 0 0)) 50 11 else -1) else 0))
  | _ => none
def g_MO_hard : am_Fm := fun av M => match av with
  | [.inr (.inl i), .inl c, .inl w] => if mo_hc M c w = 0 then (if mo_hn M c (M 50 11).toNat ≤ mo_fc (mo_kp (am_up M 50 0 0)) w.toNat then g_MO_arrive [.inr (.inl 50), .inl c, .inl 1] (g_MO_free [.inr (.inl 50), .inl w] (am_up M 50 0 0)) else (g_MO_free [.inr (.inl 50), .inl w] (am_up M 50 0 0))) else am_up M 50 0 (mo_hc M c w)
  | _ => M
def ct_MO_hard : am_T := fun pc => if pc = 5 then some (3, am_ctS P_MO_in (am_po f_MO_in g_MO_in)) else if pc = 16 then some (3, am_ctS P_MO_in (am_po f_MO_in g_MO_in)) else if pc = 113 then some (2, am_ctV vw_S 11 P_MO_free (am_po f_MO_free g_MO_free)) else if pc = 123 then some (3, am_ctV vw_S 11 P_MO_arrive (am_po f_MO_arrive g_MO_arrive)) else none
theorem e_MO_hard_5 : ct_MO_hard 5 = some (3, am_ctS P_MO_in (am_po f_MO_in g_MO_in)) := rfl
theorem e_MO_hard_16 : ct_MO_hard 16 = some (3, am_ctS P_MO_in (am_po f_MO_in g_MO_in)) := rfl
theorem e_MO_hard_113 : ct_MO_hard 113 = some (2, am_ctV vw_S 11 P_MO_free (am_po f_MO_free g_MO_free)) := rfl
theorem e_MO_hard_123 : ct_MO_hard 123 = some (3, am_ctV vw_S 11 P_MO_arrive (am_po f_MO_arrive g_MO_arrive)) := rfl
theorem ct_MO_hard_ok (l : Launch) : am_CC b_MO_hard 5 w_MO_hard y_MO_hard.cls l r_MO_hard ct_MO_hard := by
  intro p e s m args below meth c H0 A D G ad Q S hK hN hA pc q ct h
  have hts := S.2.2.2.2
  unfold ct_MO_hard at h
  split at h
  · rename_i hpc
    subst hpc; cases h
    exact am_callS S vw_N_ok hK hN hA ⟨Nat.zero_le _, Nat.zero_le _⟩ (m_MO_in l) (s_MO_103 hts am_vW hN ⟨by decide, by decide⟩) d_MO_hard_5
  split at h
  · rename_i hpc
    subst hpc; cases h
    exact am_callS S vw_N_ok hK hN hA ⟨Nat.zero_le _, Nat.zero_le _⟩ (m_MO_in l) (s_MO_103 hts am_vW hN ⟨by decide, by decide⟩) d_MO_hard_16
  split at h
  · rename_i hpc
    subst hpc; cases h
    exact am_callV S vw_N_ok hK hN hA ⟨Nat.zero_le _, Nat.zero_le _⟩ (m_MO_free l) (s_MO_194 hts am_vW hN ⟨by decide, by decide⟩) (by rfl) d_MO_hard_113
  split at h
  · rename_i hpc
    subst hpc; cases h
    exact am_callV S vw_N_ok hK hN hA ⟨Nat.zero_le _, Nat.zero_le _⟩ (m_MO_arrive l) (s_MO_191 hts am_vW hN ⟨by decide, by decide⟩) (by rfl) d_MO_hard_123
  cases h
def inv_MO_hard : List am_V → am_M → Nat → am_K := fun av M μ pc ls st M2 => match av with
  | [.inr (.inl i), .inl c, .inl w] => (pc = 0 ∧ ls = am_l0 [.inr (.inl i), .inl c, .inl w] 5 ∧ st = [] ∧ M = M2 ∧ μ = 1000) ∨ ∃ j : Nat, pc = 72 ∧ ls = [some (.inr (.inl i)), some (.inl c), some (.inl w), some (.inl (mo_hn M c j)), some (.inl (j : Int))] ∧ st = [] ∧ M2 = am_up M 50 0 0 ∧ (mo_hc M c w = 0 ∧ ((1 ≤ c ∧ c ≤ 30) ∧ (1 ≤ w ∧ w ≤ 200)) ∧ (j : Int) ≤ M 50 11) ∧ μ = (M 50 11 - j).toNat
  | _ => False
theorem m_MO_hard (l : Launch) : am_MF l y_MO_hard w_MO_hard r_MO_hard P_MO_hard f_MO_hard g_MO_hard := by
  refine am_mkL (fun pc => pc == 72) i_MO_hard_ok fd_MO_ok (ct_MO_hard_ok l) (plainFor_of_name (by decide +kernel)) (by decide) ?_ 60 inv_MO_hard ?_ ?_
  · intro av M h
    unfold P_MO_hard at h
    split at h
    · exact ⟨Nat.le_of_ble_eq_true rfl, rfl⟩
    · exact h.elim
  · intro av M h
    unfold P_MO_hard at h
    split at h
    · exact ⟨_, Or.inl ⟨rfl, rfl, rfl, rfl, rfl⟩⟩
    · exact h.elim
  · intro av M h μ pc ls st M2 hi
    unfold P_MO_hard at h
    split at h
    · rename_i i c w
      obtain ⟨rfl, ⟨h1c, h1w⟩, h2, h3, h4, h5, h6, h7⟩ := h
      rcases hi with ⟨rfl, rfl, rfl, rfl, rfl⟩ | ⟨j, rfl, rfl, rfl, rfl, ⟨hk, hv, hj⟩, rfl⟩
      · skip
        refine xs_aload_n (q := 1) i_MO_hard_0 rfl rfl (xs_n rfl ?_)
        refine xs_iload_n (q := 2) i_MO_hard_1 rfl rfl (xs_n rfl ?_)
        refine xs_iconst (q := 3) i_MO_hard_2 rfl (xs_n rfl ?_)
        refine xs_bipush (q := 5) i_MO_hard_3 rfl (by decide) (xs_n rfl ?_)
        refine xs_cs (q := 8) (av := [_, _, _]) (rest := [_]) i_MO_hard_5 rfl (e_MO_hard_5) ⟨rfl, rfl⟩ rfl rfl ?_
        rw [am_S_iff]
        refine ⟨⟨h1c, by unfold am_R; omega, by unfold am_R; omega⟩, ?_⟩
        dsimp only [g_MO_in, g_id]
        refine xs_r1 rfl (xs_n rfl ?_)
        refine xs_if_eq (q := 22) (r := 11) i_MO_hard_8 rfl rfl am_ite (fun h8 => (xs_n rfl ?_)) (fun h8 => (xs_n rfl ?_))
        · refine xs_iconst (q := 23) i_MO_hard_22 rfl (xs_n rfl ?_)
          refine xs_goto (q := 55) i_MO_hard_23 rfl (xs_n rfl ?_)
          refine xs_puti (q := 58) i_MO_hard_55 rfl fd_MO_92 sg_50 rfl (xs_n rfl ?_)
          refine xs_aload_n (q := 59) i_MO_hard_58 rfl rfl (xs_n rfl ?_)
          refine xs_geti (q := 62) i_MO_hard_59 rfl fd_MO_92 sg_50 rfl (xs_n rfl ?_)
          refine xs_if_le (q := 67) (r := 65) i_MO_hard_62 rfl rfl (by rw [am_up_s]; unfold am_R; omega) (fun h62 => (xs_n rfl ?_)) (fun h62 => (xs_n rfl ?_))
          · exact absurd h62 (by rw [am_up_s]; decide)
          · refine xs_iconst (q := 66) i_MO_hard_65 rfl (xs_n rfl ?_)
            refine xs_iret i_MO_hard_66 ?_
            have ec : mo_hc M c w = 1 := by unfold mo_hc; rw [if_neg (show ¬ ((1 ≤ c ∧ c ≤ 30) ∧ (1 ≤ w ∧ w ≤ 200)) from fun q => (show ¬ (1 ≤ c ∧ c ≤ 30) from am_ite0 h8) q.1)]
            exact xs_fin (by simp only [f_MO_hard]; rw [if_neg (by rw [ec]; decide)]) (by simp only [g_MO_hard]; rw [if_neg (by rw [ec]; decide), ec]) trivial
        · refine xs_iload_n (q := 12) i_MO_hard_11 rfl rfl (xs_n rfl ?_)
          refine xs_iconst (q := 13) i_MO_hard_12 rfl (xs_n rfl ?_)
          refine xs_sipush (q := 16) i_MO_hard_13 rfl (by decide) (xs_n rfl ?_)
          refine xs_cs (q := 19) (av := [_, _, _]) (rest := [_]) i_MO_hard_16 rfl (e_MO_hard_16) ⟨rfl, rfl⟩ rfl rfl ?_
          rw [am_S_iff]
          refine ⟨⟨h1w, by unfold am_R; omega, by unfold am_R; omega⟩, ?_⟩
          dsimp only [g_MO_in, g_id]
          refine xs_r1 rfl (xs_n rfl ?_)
          refine xs_if_ne (q := 26) (r := 22) i_MO_hard_19 rfl rfl am_ite (fun h19 => (xs_n rfl ?_)) (fun h19 => (xs_n rfl ?_))
          · refine xs_aload_n (q := 27) i_MO_hard_26 rfl rfl (xs_n rfl ?_)
            refine xs_geti (q := 30) i_MO_hard_27 rfl fd_MO_111 sg_50 rfl (xs_n rfl ?_)
            refine xs_if_eq (q := 50) (r := 33) i_MO_hard_30 rfl rfl h2 (fun h30 => (xs_n rfl ?_)) (fun h30 => (xs_n rfl ?_))
            · refine xs_iconst (q := 51) i_MO_hard_50 rfl (xs_n rfl ?_)
              refine xs_goto (q := 55) i_MO_hard_51 rfl (xs_n rfl ?_)
              refine xs_puti (q := 58) i_MO_hard_55 rfl fd_MO_92 sg_50 rfl (xs_n rfl ?_)
              refine xs_aload_n (q := 59) i_MO_hard_58 rfl rfl (xs_n rfl ?_)
              refine xs_geti (q := 62) i_MO_hard_59 rfl fd_MO_92 sg_50 rfl (xs_n rfl ?_)
              refine xs_if_le (q := 67) (r := 65) i_MO_hard_62 rfl rfl (by rw [am_up_s]; unfold am_R; omega) (fun h62 => (xs_n rfl ?_)) (fun h62 => (xs_n rfl ?_))
              · exact absurd h62 (by rw [am_up_s]; decide)
              · refine xs_iconst (q := 66) i_MO_hard_65 rfl (xs_n rfl ?_)
                refine xs_iret i_MO_hard_66 ?_
                have ec : mo_hc M c w = 2 := by unfold mo_hc; rw [if_pos (show ((1 ≤ c ∧ c ≤ 30) ∧ (1 ≤ w ∧ w ≤ 200)) from ⟨am_ite1 h8, am_ite1 h19⟩), if_neg (show ¬ (M 50 10 ≠ 0 ∧ M 50 11 ≠ 40 ∧ M 50 7 = 3) from fun q => q.1 h30)]
                exact xs_fin (by simp only [f_MO_hard]; rw [if_neg (by rw [ec]; decide)]) (by simp only [g_MO_hard]; rw [if_neg (by rw [ec]; decide), ec]) trivial
            · refine xs_aload_n (q := 34) i_MO_hard_33 rfl rfl (xs_n rfl ?_)
              refine xs_geti (q := 37) i_MO_hard_34 rfl fd_MO_185 sg_50 rfl (xs_n rfl ?_)
              refine xs_bipush (q := 39) i_MO_hard_37 rfl (by decide) (xs_n rfl ?_)
              refine xs_ic_eq (q := 50) (r := 42) i_MO_hard_39 rfl rfl ⟨by unfold am_R; omega, by unfold am_R; omega⟩ (fun h39 => (xs_n rfl ?_)) (fun h39 => (xs_n rfl ?_))
              · refine xs_iconst (q := 51) i_MO_hard_50 rfl (xs_n rfl ?_)
                refine xs_goto (q := 55) i_MO_hard_51 rfl (xs_n rfl ?_)
                refine xs_puti (q := 58) i_MO_hard_55 rfl fd_MO_92 sg_50 rfl (xs_n rfl ?_)
                refine xs_aload_n (q := 59) i_MO_hard_58 rfl rfl (xs_n rfl ?_)
                refine xs_geti (q := 62) i_MO_hard_59 rfl fd_MO_92 sg_50 rfl (xs_n rfl ?_)
                refine xs_if_le (q := 67) (r := 65) i_MO_hard_62 rfl rfl (by rw [am_up_s]; unfold am_R; omega) (fun h62 => (xs_n rfl ?_)) (fun h62 => (xs_n rfl ?_))
                · exact absurd h62 (by rw [am_up_s]; decide)
                · refine xs_iconst (q := 66) i_MO_hard_65 rfl (xs_n rfl ?_)
                  refine xs_iret i_MO_hard_66 ?_
                  have ec : mo_hc M c w = 2 := by unfold mo_hc; rw [if_pos (show ((1 ≤ c ∧ c ≤ 30) ∧ (1 ≤ w ∧ w ≤ 200)) from ⟨am_ite1 h8, am_ite1 h19⟩), if_neg (show ¬ (M 50 10 ≠ 0 ∧ M 50 11 ≠ 40 ∧ M 50 7 = 3) from fun q => q.2.1 h39)]
                  exact xs_fin (by simp only [f_MO_hard]; rw [if_neg (by rw [ec]; decide)]) (by simp only [g_MO_hard]; rw [if_neg (by rw [ec]; decide), ec]) trivial
              · refine xs_aload_n (q := 43) i_MO_hard_42 rfl rfl (xs_n rfl ?_)
                refine xs_geti (q := 46) i_MO_hard_43 rfl fd_MO_125 sg_50 rfl (xs_n rfl ?_)
                refine xs_iconst (q := 47) i_MO_hard_46 rfl (xs_n rfl ?_)
                refine xs_ic_eq (q := 54) (r := 50) i_MO_hard_47 rfl rfl ⟨h3, by unfold am_R; omega⟩ (fun h47 => (xs_n rfl ?_)) (fun h47 => (xs_n rfl ?_))
                · refine xs_iconst (q := 55) i_MO_hard_54 rfl (xs_n rfl ?_)
                  refine xs_puti (q := 58) i_MO_hard_55 rfl fd_MO_92 sg_50 rfl (xs_n rfl ?_)
                  refine xs_aload_n (q := 59) i_MO_hard_58 rfl rfl (xs_n rfl ?_)
                  refine xs_geti (q := 62) i_MO_hard_59 rfl fd_MO_92 sg_50 rfl (xs_n rfl ?_)
                  refine xs_if_le (q := 67) (r := 65) i_MO_hard_62 rfl rfl (by rw [am_up_s]; unfold am_R; omega) (fun h62 => (xs_n rfl ?_)) (fun h62 => (xs_n rfl ?_))
                  · refine xs_iload_n (q := 68) i_MO_hard_67 rfl rfl (xs_n rfl ?_)
                    refine xs_istore_n (q := 69) (ls2 := [_, _, _, _, _]) i_MO_hard_68 rfl rfl rfl (xs_n rfl ?_)
                    refine xs_iconst (q := 70) i_MO_hard_69 rfl (xs_n rfl ?_)
                    refine xs_istore (q := 72) (ls2 := [_, _, _, _, _]) i_MO_hard_70 rfl rfl rfl (xs_z rfl ?_)
                    have ec : mo_hc M c w = 0 := by unfold mo_hc; rw [if_pos (show ((1 ≤ c ∧ c ≤ 30) ∧ (1 ≤ w ∧ w ≤ 200)) from ⟨am_ite1 h8, am_ite1 h19⟩), if_pos (show (M 50 10 ≠ 0 ∧ M 50 11 ≠ 40 ∧ M 50 7 = 3) from ⟨h30, h39, h47⟩)]
                    exact ⟨(M 50 11).toNat, by omega, Or.inr ⟨0, rfl, by simp [mo_hn, ma_su], rfl, rfl, ⟨ec, ⟨am_ite1 h8, am_ite1 h19⟩, by omega⟩, by omega⟩⟩
                  · exact absurd h62 (by rw [am_up_s]; decide)
                · refine xs_iconst (q := 51) i_MO_hard_50 rfl (xs_n rfl ?_)
                  refine xs_goto (q := 55) i_MO_hard_51 rfl (xs_n rfl ?_)
                  refine xs_puti (q := 58) i_MO_hard_55 rfl fd_MO_92 sg_50 rfl (xs_n rfl ?_)
                  refine xs_aload_n (q := 59) i_MO_hard_58 rfl rfl (xs_n rfl ?_)
                  refine xs_geti (q := 62) i_MO_hard_59 rfl fd_MO_92 sg_50 rfl (xs_n rfl ?_)
                  refine xs_if_le (q := 67) (r := 65) i_MO_hard_62 rfl rfl (by rw [am_up_s]; unfold am_R; omega) (fun h62 => (xs_n rfl ?_)) (fun h62 => (xs_n rfl ?_))
                  · exact absurd h62 (by rw [am_up_s]; decide)
                  · refine xs_iconst (q := 66) i_MO_hard_65 rfl (xs_n rfl ?_)
                    refine xs_iret i_MO_hard_66 ?_
                    have ec : mo_hc M c w = 2 := by unfold mo_hc; rw [if_pos (show ((1 ≤ c ∧ c ≤ 30) ∧ (1 ≤ w ∧ w ≤ 200)) from ⟨am_ite1 h8, am_ite1 h19⟩), if_neg (show ¬ (M 50 10 ≠ 0 ∧ M 50 11 ≠ 40 ∧ M 50 7 = 3) from fun q => h47 q.2.2)]
                    exact xs_fin (by simp only [f_MO_hard]; rw [if_neg (by rw [ec]; decide)]) (by simp only [g_MO_hard]; rw [if_neg (by rw [ec]; decide), ec]) trivial
          · refine xs_iconst (q := 23) i_MO_hard_22 rfl (xs_n rfl ?_)
            refine xs_goto (q := 55) i_MO_hard_23 rfl (xs_n rfl ?_)
            refine xs_puti (q := 58) i_MO_hard_55 rfl fd_MO_92 sg_50 rfl (xs_n rfl ?_)
            refine xs_aload_n (q := 59) i_MO_hard_58 rfl rfl (xs_n rfl ?_)
            refine xs_geti (q := 62) i_MO_hard_59 rfl fd_MO_92 sg_50 rfl (xs_n rfl ?_)
            refine xs_if_le (q := 67) (r := 65) i_MO_hard_62 rfl rfl (by rw [am_up_s]; unfold am_R; omega) (fun h62 => (xs_n rfl ?_)) (fun h62 => (xs_n rfl ?_))
            · exact absurd h62 (by rw [am_up_s]; decide)
            · refine xs_iconst (q := 66) i_MO_hard_65 rfl (xs_n rfl ?_)
              refine xs_iret i_MO_hard_66 ?_
              have ec : mo_hc M c w = 1 := by unfold mo_hc; rw [if_neg (show ¬ ((1 ≤ c ∧ c ≤ 30) ∧ (1 ≤ w ∧ w ≤ 200)) from fun q => (show ¬ (1 ≤ w ∧ w ≤ 200) from am_ite0 h19) q.2)]
              exact xs_fin (by simp only [f_MO_hard]; rw [if_neg (by rw [ec]; decide)]) (by simp only [g_MO_hard]; rw [if_neg (by rw [ec]; decide), ec]) trivial
      · skip
        have hnb := mo_hn_b (M := M) (c := c) h6 j (by omega)
        refine xs_iload (q := 74) i_MO_hard_72 rfl rfl (xs_n rfl ?_)
        refine xs_aload_n (q := 75) i_MO_hard_74 rfl rfl (xs_n rfl ?_)
        refine xs_geti (q := 78) i_MO_hard_75 rfl fd_MO_185 sg_50 rfl (xs_n rfl ?_)
        refine xs_ic_ge (q := 111) (r := 81) i_MO_hard_78 rfl rfl ⟨by unfold am_R; omega, by show am_R (M 50 11); unfold am_R; omega⟩ (fun h78 => (xs_n rfl ?_)) (fun h78 => (xs_n rfl ?_))
        · have h78b : M 50 11 ≤ (j : Int) := h78
          obtain rfl : j = (M 50 11).toNat := by omega
          have hfb := mo_fc_b (mo_kp (am_up M 50 0 0)) w.toNat
          refine xs_aload_n (q := 112) i_MO_hard_111 rfl rfl (xs_n rfl ?_)
          refine xs_iload_n (q := 113) i_MO_hard_112 rfl rfl (xs_n rfl ?_)
          refine xs_cv (q := 116) (av := [_, _]) (rest := []) i_MO_hard_113 rfl (e_MO_hard_113) ⟨rfl, rfl⟩ rfl rfl ?_
          rw [am_V_iff]
          refine ⟨⟨_, sg_50⟩, (h7 hk).1, ?_⟩
          refine xs_r1 rfl (xs_n rfl ?_)
          refine xs_iload_n (q := 117) i_MO_hard_116 rfl rfl (xs_n rfl ?_)
          refine xs_ic_lt (q := 129) (r := 120) i_MO_hard_117 rfl rfl ⟨by show am_R (mo_fc (mo_kp (am_up M 50 0 0)) w.toNat); unfold am_R; omega, by unfold am_R; omega⟩ (fun h117 => (xs_n rfl ?_)) (fun h117 => (xs_n rfl ?_))
          · refine xs_iconst (q := 130) i_MO_hard_129 rfl (xs_n rfl ?_)
            refine xs_iret i_MO_hard_130 ?_
            exact xs_fin (by simp only [f_MO_hard]; rw [if_pos hk, if_neg (show ¬ mo_hn M c (M 50 11).toNat ≤ mo_fc (mo_kp (am_up M 50 0 0)) w.toNat from Int.not_le.mpr h117)]; try rfl) (by simp only [g_MO_hard]; rw [if_pos hk, if_neg (show ¬ mo_hn M c (M 50 11).toNat ≤ mo_fc (mo_kp (am_up M 50 0 0)) w.toNat from Int.not_le.mpr h117)]) trivial
          · refine xs_aload_n (q := 121) i_MO_hard_120 rfl rfl (xs_n rfl ?_)
            refine xs_iload_n (q := 122) i_MO_hard_121 rfl rfl (xs_n rfl ?_)
            refine xs_iconst (q := 123) i_MO_hard_122 rfl (xs_n rfl ?_)
            refine xs_cv (q := 126) (av := [_, _, _]) (rest := []) i_MO_hard_123 rfl (e_MO_hard_123) ⟨rfl, rfl⟩ rfl rfl ?_
            rw [am_V_iff]
            refine ⟨⟨_, sg_50⟩, (h7 hk).2, ?_⟩
            refine xs_r1 rfl (xs_n rfl ?_)
            refine xs_goto (q := 130) i_MO_hard_126 rfl (xs_n rfl ?_)
            refine xs_iret i_MO_hard_130 ?_
            exact xs_fin (by simp only [f_MO_hard]; rw [if_pos hk, if_pos (show mo_hn M c (M 50 11).toNat ≤ mo_fc (mo_kp (am_up M 50 0 0)) w.toNat from h117)]; try rfl) (by simp only [g_MO_hard]; rw [if_pos hk, if_pos (show mo_hn M c (M 50 11).toNat ≤ mo_fc (mo_kp (am_up M 50 0 0)) w.toNat from h117)]) trivial
        · have h78b : (j : Int) < M 50 11 := h78
          refine xs_iload_n (q := 82) i_MO_hard_81 rfl rfl (xs_n rfl ?_)
          refine xs_aload_n (q := 83) i_MO_hard_82 rfl rfl (xs_n rfl ?_)
          refine xs_getr (q := 86) i_MO_hard_83 rfl fd_MO_37 sg_50 rfl (xs_n rfl ?_)
          refine xs_iload (q := 88) i_MO_hard_86 rfl rfl (xs_n rfl ?_)
          refine xs_baload (q := 89) i_MO_hard_88 rfl sg_60 (by have h78b : (j : Int) < M 50 11 := h78; omega) (xs_n rfl ?_)
          refine xs_if_eq (q := 102) (r := 92) i_MO_hard_89 rfl rfl (by have h78b : (j : Int) < M 50 11 := h78; exact h5 _ (by omega)) (fun h89 => (xs_n rfl ?_)) (fun h89 => (xs_n rfl ?_))
          · refine xs_iconst (q := 103) i_MO_hard_102 rfl (xs_n rfl ?_)
            refine xs_iadd (q := 104) i_MO_hard_103 rfl (xs_n rfl ?_)
            refine xs_istore_n (q := 105) (ls2 := [_, _, _, _, _]) i_MO_hard_104 rfl rfl rfl (xs_n rfl ?_)
            refine xs_iinc (q := 108) (ls2 := [_, _, _, _, _]) i_MO_hard_105 rfl rfl rfl (xs_n rfl ?_)
            refine xs_goto (q := 72) i_MO_hard_108 rfl (xs_z rfl ?_)
            have hs : mo_hn M c (j + 1) = mo_hn M c j + 0 := by simp only [mo_hn, ma_su]; rw [if_pos (show M 60 j = 0 from h89), Int.add_assoc]
            refine ⟨(M 50 11 - (j + 1 : Nat)).toNat, by omega, Or.inr ⟨j + 1, rfl, ?_, rfl, rfl, ⟨hk, hv, by omega⟩, rfl⟩⟩
            rw [hs]
            rfl
          · refine xs_aload_n (q := 93) i_MO_hard_92 rfl rfl (xs_n rfl ?_)
            refine xs_getr (q := 96) i_MO_hard_93 rfl fd_MO_62 sg_50 rfl (xs_n rfl ?_)
            refine xs_iload (q := 98) i_MO_hard_96 rfl rfl (xs_n rfl ?_)
            refine xs_iaload (q := 99) i_MO_hard_98 rfl sg_68 rfl (by have h78b : (j : Int) < M 50 11 := h78; omega) (xs_n rfl ?_)
            refine xs_goto (q := 103) i_MO_hard_99 rfl (xs_n rfl ?_)
            refine xs_iadd (q := 104) i_MO_hard_103 rfl (xs_n rfl ?_)
            refine xs_istore_n (q := 105) (ls2 := [_, _, _, _, _]) i_MO_hard_104 rfl rfl rfl (xs_n rfl ?_)
            refine xs_iinc (q := 108) (ls2 := [_, _, _, _, _]) i_MO_hard_105 rfl rfl rfl (xs_n rfl ?_)
            refine xs_goto (q := 72) i_MO_hard_108 rfl (xs_z rfl ?_)
            have hs : mo_hn M c (j + 1) = mo_hn M c j + M 68 j := by simp only [mo_hn, ma_su]; rw [if_neg (show ¬ M 60 j = 0 from h89), Int.add_assoc]
            refine ⟨(M 50 11 - (j + 1 : Nat)).toNat, by omega, Or.inr ⟨j + 1, rfl, ?_, rfl, rfl, ⟨hk, hv, by omega⟩, rfl⟩⟩
            rw [hs]
            rfl
    · exact h.elim
