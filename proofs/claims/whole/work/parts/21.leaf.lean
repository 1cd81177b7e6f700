/-! contracts: the class's methods without loops (wip/whole/p21.py) -/
theorem am_ns {b : Nat} (h : b < 100000) : decide (b = am_scr) = false := decide_eq_false (fun e => by unfold am_scr at e; omega)
/-- a Load, a Budget, a Queue, a Course at their places -/
def lo_at (b : Nat) : Prop := vw_S[b]? = some (.inr (5, [some 1, some (b + 1), some (b + 2), some (b + 3), some (b + 4)])) ∧ vw_S[b + 1]? = some (.inl (0, 5)) ∧ vw_S[b + 2]? = some (.inl (0, 5)) ∧ vw_S[b + 3]? = some (.inl (0, 5)) ∧ vw_S[b + 4]? = some (.inl (0, 5)) ∧ 18 < b ∧ b < 40
def bu_at (u : Nat) : Prop := vw_S[u]? = some (.inr (7, [some (u + 1), none, none, none, none])) ∧ vw_S[u + 1]? = some (.inl (0, 60)) ∧ 30 < u ∧ u < 50
def qu_at (c : Nat) : Prop := vw_S[c]? = some (.inr (8, [some 10, some (c + 1), some (c + 2), none, none])) ∧ vw_S[c + 1]? = some (.inl (0, 40)) ∧ vw_S[c + 2]? = some (.inl (0, 40)) ∧ 30 < c ∧ c < 50
def co_at (d : Nat) : Prop := vw_S[d]? = some (.inr (9, [some 1, some 18, some (d + 1), some (d + 6), some (d + 9), none, none])) ∧ lo_at (d + 1) ∧ qu_at (d + 6) ∧ bu_at (d + 9) ∧ (d = 26 ∨ d = 37)
theorem lo_19 : lo_at 19 := ⟨rfl, rfl, rfl, rfl, rfl, by decide, by decide⟩
theorem lo_27 : lo_at 27 := ⟨rfl, rfl, rfl, rfl, rfl, by decide, by decide⟩
theorem lo_38 : lo_at 38 := ⟨rfl, rfl, rfl, rfl, rfl, by decide, by decide⟩
theorem co_26 : co_at 26 := ⟨rfl, lo_27, ⟨rfl, rfl, rfl, by decide, by decide⟩, ⟨rfl, rfl, by decide, by decide⟩, Or.inl rfl⟩
theorem co_37 : co_at 37 := ⟨rfl, lo_38, ⟨rfl, rfl, rfl, by decide, by decide⟩, ⟨rfl, rfl, by decide, by decide⟩, Or.inr rfl⟩
theorem am_ltN {x : Int} {n : Nat} (h : 0 ≤ x) (h2 : x < n) : x.toNat < n := by omega
def P_TS_clear : am_P := fun av M => match av with
  | [.inr (.inl i)] => i = 1
  | _ => False
def f_TS_clear : am_Fr := fun av M => match av with
  | [.inr (.inl i)] => none
  | _ => none
def g_TS_clear : am_Fm := fun av M => match av with
  | [.inr (.inl i)] => am_up (am_up M 1 5 0) 1 6 1
  | _ => M
theorem m_TS_clear (l : Launch) : am_MF l y_TS_clear w_TS_clear r_TS_clear P_TS_clear f_TS_clear g_TS_clear := by
  refine am_mk0 i_TS_clear_ok fd_TS_ok am_CC0 (plainFor_of_name (by decide +kernel)) (by decide) ?_ 10 ?_
  · intro av M h
    unfold P_TS_clear at h
    split at h
    · exact ⟨Nat.le_of_ble_eq_true rfl, rfl⟩
    · exact h.elim
  · intro av M Z h
    unfold P_TS_clear at h
    split at h
    · rename_i i
      subst h
      refine xs_aload_n (q := 1) i_TS_clear_0 rfl rfl (xs_n rfl ?_)
      refine xs_iconst (q := 2) i_TS_clear_1 rfl (xs_n rfl ?_)
      refine xs_puti (q := 5) i_TS_clear_2 rfl fd_TS_27 sg_1 rfl (xs_n rfl ?_)
      refine xs_aload_n (q := 6) i_TS_clear_5 rfl rfl (xs_n rfl ?_)
      refine xs_iconst (q := 7) i_TS_clear_6 rfl (xs_n rfl ?_)
      refine xs_puti (q := 10) i_TS_clear_7 rfl fd_TS_31 sg_1 rfl (xs_n rfl ?_)
      refine xs_ret i_TS_clear_10 ?_
      exact xs_fin rfl rfl trivial
    · exact h.elim
def P_TS_hyperperiodWith : am_P := fun av M => match av with
  | [.inr (.inl i), .inl p] => i = 1 ∧ (1 ≤ M 1 6 ∧ M 1 6 ≤ 2000) ∧ (1 ≤ p ∧ p ≤ 60)
  | _ => False
def f_TS_hyperperiodWith : am_Fr := fun av M => match av with
  | [.inr (.inl i), .inl p] => some (.inl (M 1 6 / ((Nat.gcd (M 1 6).toNat p.toNat : Nat) : Int) * p))
  | _ => none
abbrev g_TS_hyperperiodWith : am_Fm := g_id
def ct_TS_hyperperiodWith : am_T := fun pc => if pc = 9 then some (2, am_ctS P_TS_commonDivisor (am_po f_TS_commonDivisor g_TS_commonDivisor)) else none
theorem e_TS_hyperperiodWith_9 : ct_TS_hyperperiodWith 9 = some (2, am_ctS P_TS_commonDivisor (am_po f_TS_commonDivisor g_TS_commonDivisor)) := rfl
theorem ct_TS_hyperperiodWith_ok (l : Launch) : am_CC b_TS_hyperperiodWith 2 w_TS_hyperperiodWith y_TS_hyperperiodWith.cls l r_TS_hyperperiodWith ct_TS_hyperperiodWith := by
  intro p e s m args below meth c H0 A D G ad Q S hK hN hA pc q ct h
  have hts := S.2.2.2.2
  unfold ct_TS_hyperperiodWith at h
  split at h
  · rename_i hpc
    subst hpc; cases h
    exact am_callS S vw_N_ok hK hN hA ⟨Nat.zero_le _, Nat.zero_le _⟩ (m_TS_commonDivisor l) (s_TS_34 hts am_vW hN ⟨by decide, by decide⟩) d_TS_hyperperiodWith_9
  cases h
theorem m_TS_hyperperiodWith (l : Launch) : am_MF l y_TS_hyperperiodWith w_TS_hyperperiodWith r_TS_hyperperiodWith P_TS_hyperperiodWith f_TS_hyperperiodWith g_TS_hyperperiodWith := by
  refine am_mk0 i_TS_hyperperiodWith_ok fd_TS_ok (ct_TS_hyperperiodWith_ok l) (plainFor_of_name (by decide +kernel)) (by decide) ?_ 14 ?_
  · intro av M h
    unfold P_TS_hyperperiodWith at h
    split at h
    · exact ⟨Nat.le_of_ble_eq_true rfl, rfl⟩
    · exact h.elim
  · intro av M Z h
    unfold P_TS_hyperperiodWith at h
    split at h
    · rename_i i p
      obtain ⟨rfl, h1, h2⟩ := h
      have hg : 0 < Nat.gcd (M 1 6).toNat p.toNat := Nat.gcd_pos_of_pos_right _ (by omega)
      have hl : Nat.gcd (M 1 6).toNat p.toNat ≤ p.toNat := Nat.gcd_le_right _ (by omega)
      refine xs_aload_n (q := 1) i_TS_hyperperiodWith_0 rfl rfl (xs_n rfl ?_)
      refine xs_geti (q := 4) i_TS_hyperperiodWith_1 rfl fd_TS_31 sg_1 rfl (xs_n rfl ?_)
      refine xs_aload_n (q := 5) i_TS_hyperperiodWith_4 rfl rfl (xs_n rfl ?_)
      refine xs_geti (q := 8) i_TS_hyperperiodWith_5 rfl fd_TS_31 sg_1 rfl (xs_n rfl ?_)
      refine xs_iload_n (q := 9) i_TS_hyperperiodWith_8 rfl rfl (xs_n rfl ?_)
      refine xs_cs (q := 12) i_TS_hyperperiodWith_9 rfl (e_TS_hyperperiodWith_9) ⟨rfl, rfl⟩ rfl rfl ?_
      rw [am_S_iff]
      refine ⟨⟨by omega, by omega⟩, ?_⟩
      dsimp only [g_TS_commonDivisor, g_id]
      refine xs_r1 rfl (xs_n rfl ?_)
      refine xs_idiv (q := 13) i_TS_hyperperiodWith_12 rfl (by omega) (xs_n rfl ?_)
      refine xs_iload_n (q := 14) i_TS_hyperperiodWith_13 rfl rfl (xs_n rfl ?_)
      refine xs_imul (q := 15) i_TS_hyperperiodWith_14 rfl (xs_n rfl ?_)
      refine xs_iret i_TS_hyperperiodWith_15 ?_
      exact xs_fin rfl rfl trivial
    · exact h.elim
def P_RB_keep : am_P := fun av M => match av with
  | [.inr (.inl i), .inl a, .inl b, .inl p] => i = 7 ∧ am_R a
  | _ => False
def f_RB_keep : am_Fr := fun av M => match av with
  | [.inr (.inl i), .inl a, .inl b, .inl p] => none
  | _ => none
def g_RB_keep : am_Fm := fun av M => match av with
  | [.inr (.inl i), .inl a, .inl b, .inl p] => (if a = 1 ∨ a = 2 then am_up (am_up M 8 a.toNat b) 9 a.toNat p else M)
  | _ => M
def ct_RB_keep : am_T := fun pc => if pc = 1 then some (1, am_ctS P_RB_hasBudget (am_po f_RB_hasBudget g_RB_hasBudget)) else none
theorem e_RB_keep_1 : ct_RB_keep 1 = some (1, am_ctS P_RB_hasBudget (am_po f_RB_hasBudget g_RB_hasBudget)) := rfl
theorem ct_RB_keep_ok (l : Launch) : am_CC b_RB_keep 4 w_RB_keep y_RB_keep.cls l r_RB_keep ct_RB_keep := by
  intro p e s m args below meth c H0 A D G ad Q S hK hN hA pc q ct h
  have hts := S.2.2.2.2
  unfold ct_RB_keep at h
  split at h
  · rename_i hpc
    subst hpc; cases h
    exact am_callS S vw_N_ok hK hN hA ⟨Nat.zero_le _, Nat.zero_le _⟩ (m_RB_hasBudget l) (s_RB_31 hts am_vW hN ⟨by decide, by decide⟩) d_RB_keep_1
  cases h
theorem m_RB_keep (l : Launch) : am_MF l y_RB_keep w_RB_keep r_RB_keep P_RB_keep f_RB_keep g_RB_keep := by
  refine am_mk0 i_RB_keep_ok fd_RB_ok (ct_RB_keep_ok l) (plainFor_of_name (by decide +kernel)) (by decide) ?_ 20 ?_
  · intro av M h
    unfold P_RB_keep at h
    split at h
    · exact ⟨Nat.le_of_ble_eq_true rfl, rfl⟩
    · exact h.elim
  · intro av M Z h
    unfold P_RB_keep at h
    split at h
    · rename_i i a b p
      obtain ⟨rfl, h1⟩ := h
      refine xs_iload_n (q := 1) i_RB_keep_0 rfl rfl (xs_n rfl ?_)
      refine xs_cs (q := 4) i_RB_keep_1 rfl (e_RB_keep_1) ⟨rfl, rfl⟩ rfl rfl ?_
      rw [am_S_iff]
      refine ⟨h1, ?_⟩
      dsimp only [g_RB_hasBudget, g_id]
      refine xs_r1 rfl (xs_n rfl ?_)
      refine xs_if_eq (q := 21) (r := 7) i_RB_keep_4 rfl rfl am_ite (fun h4 => (xs_n rfl ?_)) (fun h4 => (xs_n rfl ?_))
      · refine xs_ret i_RB_keep_21 ?_
        exact xs_fin rfl (by simp only [g_RB_keep]; rw [if_neg (am_ite0 h4)]) trivial
      · refine xs_aload_n (q := 8) i_RB_keep_7 rfl rfl (xs_n rfl ?_)
        refine xs_getr (q := 11) i_RB_keep_8 rfl fd_RB_9 sg_7 rfl (xs_n rfl ?_)
        refine xs_iload_n (q := 12) i_RB_keep_11 rfl rfl (xs_n rfl ?_)
        refine xs_iload_n (q := 13) i_RB_keep_12 rfl rfl (xs_n rfl ?_)
        refine xs_iastore (q := 14) i_RB_keep_13 rfl sg_8 (by have := am_ite1 h4; omega) (xs_n rfl ?_)
        refine xs_aload_n (q := 15) i_RB_keep_14 rfl rfl (xs_n rfl ?_)
        refine xs_getr (q := 18) i_RB_keep_15 rfl fd_RB_15 sg_7 rfl (xs_n rfl ?_)
        refine xs_iload_n (q := 19) i_RB_keep_18 rfl rfl (xs_n rfl ?_)
        refine xs_iload_n (q := 20) i_RB_keep_19 rfl rfl (xs_n rfl ?_)
        refine xs_iastore (q := 21) i_RB_keep_20 rfl sg_9 (by have := am_ite1 h4; omega) (xs_n rfl ?_)
        refine xs_ret i_RB_keep_21 ?_
        exact xs_fin rfl (by simp only [g_RB_keep]; rw [if_pos (am_ite1 h4)]) trivial
    · exact h.elim
def P_JL_add : am_P := fun av M => match av with
  | [.inr (.inl i), .inl m, .inl c, .inl z] => i = 10 ∧ (0 ≤ M 10 3 ∧ M 10 3 < 40) ∧ (z = 0 ∨ z = 1)
  | _ => False
def f_JL_add : am_Fr := fun av M => match av with
  | [.inr (.inl i), .inl m, .inl c, .inl z] => some (.inl (M 10 3))
  | _ => none
def g_JL_add : am_Fm := fun av M => match av with
  | [.inr (.inl i), .inl m, .inl c, .inl z] => am_up (am_up (am_up (am_up M 11 (M 10 3).toNat m) 12 (M 10 3).toNat c) 13 (M 10 3).toNat z) 10 3 (M 10 3 + 1)
  | _ => M
theorem m_JL_add (l : Launch) : am_MF l y_JL_add w_JL_add r_JL_add P_JL_add f_JL_add g_JL_add := by
  refine am_mk0 i_JL_add_ok fd_JL_ok am_CC0 (plainFor_of_name (by decide +kernel)) (by decide) ?_ 40 ?_
  · intro av M h
    unfold P_JL_add at h
    split at h
    · exact ⟨Nat.le_of_ble_eq_true rfl, rfl⟩
    · exact h.elim
  · intro av M Z h
    unfold P_JL_add at h
    split at h
    · rename_i i m c z
      obtain ⟨rfl, h1, h2⟩ := h
      refine xs_aload_n (q := 1) i_JL_add_0 rfl rfl (xs_n rfl ?_)
      refine xs_geti (q := 4) i_JL_add_1 rfl fd_JL_22 sg_10 rfl (xs_n rfl ?_)
      refine xs_istore (q := 6) (ls2 := [_, _, _, _, _]) i_JL_add_4 rfl rfl rfl (xs_n rfl ?_)
      refine xs_iload (q := 8) i_JL_add_6 rfl rfl (xs_n rfl ?_)
      refine xs_bipush (q := 10) i_JL_add_8 rfl (by decide) (xs_n rfl ?_)
      refine xs_ic_lt (q := 15) (r := 13) i_JL_add_10 rfl rfl ⟨by unfold am_R; omega, by unfold am_R; omega⟩ (fun h10 => (xs_n rfl ?_)) (fun h10 => (xs_n rfl ?_))
      · refine xs_aload_n (q := 16) i_JL_add_15 rfl rfl (xs_n rfl ?_)
        refine xs_getr (q := 19) i_JL_add_16 rfl fd_JL_9 sg_10 rfl (xs_n rfl ?_)
        refine xs_iload (q := 21) i_JL_add_19 rfl rfl (xs_n rfl ?_)
        refine xs_iload_n (q := 22) i_JL_add_21 rfl rfl (xs_n rfl ?_)
        refine xs_iastore (q := 23) i_JL_add_22 rfl sg_11 (by omega) (xs_n rfl ?_)
        refine xs_aload_n (q := 24) i_JL_add_23 rfl rfl (xs_n rfl ?_)
        refine xs_getr (q := 27) i_JL_add_24 rfl fd_JL_15 sg_10 rfl (xs_n rfl ?_)
        refine xs_iload (q := 29) i_JL_add_27 rfl rfl (xs_n rfl ?_)
        refine xs_iload_n (q := 30) i_JL_add_29 rfl rfl (xs_n rfl ?_)
        refine xs_iastore (q := 31) i_JL_add_30 rfl sg_12 (by omega) (xs_n rfl ?_)
        refine xs_aload_n (q := 32) i_JL_add_31 rfl rfl (xs_n rfl ?_)
        refine xs_getr (q := 35) i_JL_add_32 rfl fd_JL_18 sg_10 rfl (xs_n rfl ?_)
        refine xs_iload (q := 37) i_JL_add_35 rfl rfl (xs_n rfl ?_)
        refine xs_iload_n (q := 38) i_JL_add_37 rfl rfl (xs_n rfl ?_)
        refine xs_bastore (q := 39) i_JL_add_38 rfl sg_13 (h2) (by omega) (xs_n rfl ?_)
        refine xs_aload_n (q := 40) i_JL_add_39 rfl rfl (xs_n rfl ?_)
        refine xs_dupr (q := 41) i_JL_add_40 rfl (xs_n rfl ?_)
        refine xs_geti (q := 44) i_JL_add_41 rfl fd_JL_22 sg_10 rfl (xs_n rfl ?_)
        refine xs_iconst (q := 45) i_JL_add_44 rfl (xs_n rfl ?_)
        refine xs_iadd (q := 46) i_JL_add_45 rfl (xs_n rfl ?_)
        refine xs_puti (q := 49) i_JL_add_46 rfl fd_JL_22 sg_10 rfl (xs_n rfl ?_)
        refine xs_iload (q := 51) i_JL_add_49 rfl rfl (xs_n rfl ?_)
        refine xs_iret i_JL_add_51 ?_
        exact xs_fin rfl rfl trivial
      · refine xs_iconst (q := 14) i_JL_add_13 rfl (xs_n rfl ?_)
        refine xs_iret i_JL_add_14 ?_
        omega
    · exact h.elim
def P_EL_add : am_P := fun av M => match av with
  | [.inr (.inl i), .inl m, .inl t, .inl k] => i = 14 ∧ (0 ≤ M 14 3 ∧ M 14 3 < 200)
  | _ => False
def f_EL_add : am_Fr := fun av M => match av with
  | [.inr (.inl i), .inl m, .inl t, .inl k] => none
  | _ => none
def g_EL_add : am_Fm := fun av M => match av with
  | [.inr (.inl i), .inl m, .inl t, .inl k] => am_up (am_up (am_up (am_up M 15 (M 14 3).toNat m) 16 (M 14 3).toNat t) 17 (M 14 3).toNat k) 14 3 (M 14 3 + 1)
  | _ => M
theorem m_EL_add (l : Launch) : am_MF l y_EL_add w_EL_add r_EL_add P_EL_add f_EL_add g_EL_add := by
  refine am_mk0 i_EL_add_ok fd_EL_ok am_CC0 (plainFor_of_name (by decide +kernel)) (by decide) ?_ 40 ?_
  · intro av M h
    unfold P_EL_add at h
    split at h
    · exact ⟨Nat.le_of_ble_eq_true rfl, rfl⟩
    · exact h.elim
  · intro av M Z h
    unfold P_EL_add at h
    split at h
    · rename_i i m t k
      obtain ⟨rfl, h1⟩ := h
      refine xs_aload_n (q := 1) i_EL_add_0 rfl rfl (xs_n rfl ?_)
      refine xs_geti (q := 4) i_EL_add_1 rfl fd_EL_21 sg_14 rfl (xs_n rfl ?_)
      refine xs_sipush (q := 7) i_EL_add_4 rfl (by decide) (xs_n rfl ?_)
      refine xs_ic_ge (q := 50) (r := 10) i_EL_add_7 rfl rfl ⟨by unfold am_R; omega, by unfold am_R; omega⟩ (fun h7 => (xs_n rfl ?_)) (fun h7 => (xs_n rfl ?_))
      · refine xs_ret i_EL_add_50 ?_
        omega
      · refine xs_aload_n (q := 11) i_EL_add_10 rfl rfl (xs_n rfl ?_)
        refine xs_getr (q := 14) i_EL_add_11 rfl fd_EL_9 sg_14 rfl (xs_n rfl ?_)
        refine xs_aload_n (q := 15) i_EL_add_14 rfl rfl (xs_n rfl ?_)
        refine xs_geti (q := 18) i_EL_add_15 rfl fd_EL_21 sg_14 rfl (xs_n rfl ?_)
        refine xs_iload_n (q := 19) i_EL_add_18 rfl rfl (xs_n rfl ?_)
        refine xs_iastore (q := 20) i_EL_add_19 rfl sg_15 (by omega) (xs_n rfl ?_)
        refine xs_aload_n (q := 21) i_EL_add_20 rfl rfl (xs_n rfl ?_)
        refine xs_getr (q := 24) i_EL_add_21 rfl fd_EL_15 sg_14 rfl (xs_n rfl ?_)
        refine xs_aload_n (q := 25) i_EL_add_24 rfl rfl (xs_n rfl ?_)
        refine xs_geti (q := 28) i_EL_add_25 rfl fd_EL_21 sg_14 rfl (xs_n rfl ?_)
        refine xs_iload_n (q := 29) i_EL_add_28 rfl rfl (xs_n rfl ?_)
        refine xs_iastore (q := 30) i_EL_add_29 rfl sg_16 (by simp only [am_up]; omega) (xs_n rfl ?_)
        refine xs_aload_n (q := 31) i_EL_add_30 rfl rfl (xs_n rfl ?_)
        refine xs_getr (q := 34) i_EL_add_31 rfl fd_EL_18 sg_14 rfl (xs_n rfl ?_)
        refine xs_aload_n (q := 35) i_EL_add_34 rfl rfl (xs_n rfl ?_)
        refine xs_geti (q := 38) i_EL_add_35 rfl fd_EL_21 sg_14 rfl (xs_n rfl ?_)
        refine xs_iload_n (q := 39) i_EL_add_38 rfl rfl (xs_n rfl ?_)
        refine xs_iastore (q := 40) i_EL_add_39 rfl sg_17 (by simp only [am_up]; omega) (xs_n rfl ?_)
        refine xs_aload_n (q := 41) i_EL_add_40 rfl rfl (xs_n rfl ?_)
        refine xs_dupr (q := 42) i_EL_add_41 rfl (xs_n rfl ?_)
        refine xs_geti (q := 45) i_EL_add_42 rfl fd_EL_21 sg_14 rfl (xs_n rfl ?_)
        refine xs_iconst (q := 46) i_EL_add_45 rfl (xs_n rfl ?_)
        refine xs_iadd (q := 47) i_EL_add_46 rfl (xs_n rfl ?_)
        refine xs_puti (q := 50) i_EL_add_47 rfl fd_EL_21 sg_14 rfl (xs_n rfl ?_)
        refine xs_ret i_EL_add_50 ?_
        exact xs_fin rfl rfl trivial
    · exact h.elim
def P_LO_shorten : am_P := fun av M => match av with
  | [.inr (.inl b), .inl t, .inl k] => lo_at b ∧ (0 ≤ M 1 5 ∧ M 1 5 ≤ 5) ∧ am_R t ∧ am_R k ∧ ∀ j, j < 5 → am_R (M (b + 2) j)
  | _ => False
def f_LO_shorten : am_Fr := fun av M => match av with
  | [.inr (.inl b), .inl t, .inl k] => none
  | _ => none
def g_LO_shorten : am_Fm := fun av M => match av with
  | [.inr (.inl b), .inl t, .inl k] => (if 0 ≤ t ∧ t ≤ M 1 5 - 1 then am_up M (b + 2) t.toNat (if k < M (b + 2) t.toNat then k else M (b + 2) t.toNat) else M)
  | _ => M
def ct_LO_shorten : am_T := fun pc => if pc = 11 then some (3, am_ctS P_SD_isWithin (am_po f_SD_isWithin g_SD_isWithin)) else if pc = 29 then some (2, am_ctS P_JM_min (am_po f_JM_min g_JM_min)) else none
theorem e_LO_shorten_11 : ct_LO_shorten 11 = some (3, am_ctS P_SD_isWithin (am_po f_SD_isWithin g_SD_isWithin)) := rfl
theorem e_LO_shorten_29 : ct_LO_shorten 29 = some (2, am_ctS P_JM_min (am_po f_JM_min g_JM_min)) := rfl
theorem ct_LO_shorten_ok (l : Launch) : am_CC b_LO_shorten 3 w_LO_shorten y_LO_shorten.cls l r_LO_shorten ct_LO_shorten := by
  intro p e s m args below meth c H0 A D G ad Q S hK hN hA pc q ct h
  have hts := S.2.2.2.2
  unfold ct_LO_shorten at h
  split at h
  · rename_i hpc
    subst hpc; cases h
    exact am_callS S vw_N_ok hK hN hA ⟨Nat.zero_le _, Nat.zero_le _⟩ (m_SD_isWithin l) (s_LO_40 hts am_vW hN ⟨by decide, by decide⟩) d_LO_shorten_11
  split at h
  · rename_i hpc
    subst hpc; cases h
    exact am_callS S vw_N_ok hK hN hA ⟨Nat.zero_le _, Nat.zero_le _⟩ (m_JM_min l) (s_LO_44 hts am_vW hN ⟨by decide, by decide⟩) d_LO_shorten_29
  cases h
theorem m_LO_shorten (l : Launch) : am_MF l y_LO_shorten w_LO_shorten r_LO_shorten P_LO_shorten f_LO_shorten g_LO_shorten := by
  refine am_mk0 i_LO_shorten_ok fd_LO_ok (ct_LO_shorten_ok l) (plainFor_of_name (by decide +kernel)) (by decide) ?_ 30 ?_
  · intro av M h
    unfold P_LO_shorten at h
    split at h
    · exact ⟨Nat.le_of_ble_eq_true rfl, rfl⟩
    · exact h.elim
  · intro av M Z h
    unfold P_LO_shorten at h
    split at h
    · rename_i b t k
      obtain ⟨⟨hb0, hb1, hb2, hb3, hb4, hbl, hbn⟩, h1, h2, h3, h4⟩ := h
      refine xs_iload_n (q := 1) i_LO_shorten_0 rfl rfl (xs_n rfl ?_)
      refine xs_iconst (q := 2) i_LO_shorten_1 rfl (xs_n rfl ?_)
      refine xs_aload_n (q := 3) i_LO_shorten_2 rfl rfl (xs_n rfl ?_)
      refine xs_getr (q := 6) i_LO_shorten_3 rfl fd_LO_24 hb0 rfl (xs_n rfl ?_)
      refine xs_geti (q := 9) i_LO_shorten_6 rfl fd_LO_28 sg_1 rfl (xs_n rfl ?_)
      refine xs_iconst (q := 10) i_LO_shorten_9 rfl (xs_n rfl ?_)
      refine xs_isub (q := 11) i_LO_shorten_10 rfl (xs_n rfl ?_)
      refine xs_cs (q := 14) i_LO_shorten_11 rfl (e_LO_shorten_11) ⟨rfl, rfl⟩ rfl rfl ?_
      rw [am_S_iff]
      refine ⟨⟨h2, by unfold am_R; omega, by unfold am_R; omega⟩, ?_⟩
      dsimp only [g_SD_isWithin, g_id]
      refine xs_r1 rfl (xs_n rfl ?_)
      refine xs_if_eq (q := 33) (r := 17) i_LO_shorten_14 rfl rfl am_ite (fun h14 => (xs_n rfl ?_)) (fun h14 => (xs_n rfl ?_))
      · refine xs_ret i_LO_shorten_33 ?_
        exact xs_fin rfl (by simp only [g_LO_shorten]; rw [if_neg (am_ite0 h14)]) trivial
      · refine xs_aload_n (q := 18) i_LO_shorten_17 rfl rfl (xs_n rfl ?_)
        refine xs_getr (q := 21) i_LO_shorten_18 rfl fd_LO_15 hb0 rfl (xs_n rfl ?_)
        refine xs_iload_n (q := 22) i_LO_shorten_21 rfl rfl (xs_n rfl ?_)
        refine xs_aload_n (q := 23) i_LO_shorten_22 rfl rfl (xs_n rfl ?_)
        refine xs_getr (q := 26) i_LO_shorten_23 rfl fd_LO_15 hb0 rfl (xs_n rfl ?_)
        refine xs_iload_n (q := 27) i_LO_shorten_26 rfl rfl (xs_n rfl ?_)
        refine xs_iaload (q := 28) i_LO_shorten_27 rfl hb2 (am_ns (by omega)) (by have := am_ite1 h14; omega) (xs_n rfl ?_)
        refine xs_iload_n (q := 29) i_LO_shorten_28 rfl rfl (xs_n rfl ?_)
        refine xs_cs (q := 32) i_LO_shorten_29 rfl (e_LO_shorten_29) ⟨rfl, rfl⟩ rfl rfl ?_
        rw [am_S_iff]
        refine ⟨⟨h4 _ (by have := am_ite1 h14; omega), h3⟩, ?_⟩
        dsimp only [g_JM_min, g_id]
        refine xs_r1 rfl (xs_n rfl ?_)
        refine xs_iastore (q := 33) i_LO_shorten_32 rfl hb2 (by have := am_ite1 h14; omega) (xs_n rfl ?_)
        refine xs_ret i_LO_shorten_33 ?_
        exact xs_fin rfl (by simp only [g_LO_shorten]; rw [if_pos (am_ite1 h14)]) trivial
    · exact h.elim
def P_LO_run : am_P := fun av M => match av with
  | [.inr (.inl b), .inl r] => lo_at b ∧ (0 ≤ M 1 5 ∧ M 1 5 ≤ 5) ∧ am_R r ∧ ∀ j : Nat, (j : Int) < M 1 5 → 0 ≤ M 6 j ∧ M 6 j < 5
  | _ => False
def f_LO_run : am_Fr := fun av M => match av with
  | [.inr (.inl b), .inl r] => none
  | _ => none
def g_LO_run : am_Fm := fun av M => match av with
  | [.inr (.inl b), .inl r] => (if 0 ≤ r ∧ r ≤ M 1 5 - 1 then am_up M (b + 3) (M 6 r.toNat).toNat (M (b + 3) (M 6 r.toNat).toNat - 1) else M)
  | _ => M
def ct_LO_run : am_T := fun pc => if pc = 11 then some (3, am_ctS P_SD_isWithin (am_po f_SD_isWithin g_SD_isWithin)) else none
theorem e_LO_run_11 : ct_LO_run 11 = some (3, am_ctS P_SD_isWithin (am_po f_SD_isWithin g_SD_isWithin)) := rfl
theorem ct_LO_run_ok (l : Launch) : am_CC b_LO_run 2 w_LO_run y_LO_run.cls l r_LO_run ct_LO_run := by
  intro p e s m args below meth c H0 A D G ad Q S hK hN hA pc q ct h
  have hts := S.2.2.2.2
  unfold ct_LO_run at h
  split at h
  · rename_i hpc
    subst hpc; cases h
    exact am_callS S vw_N_ok hK hN hA ⟨Nat.zero_le _, Nat.zero_le _⟩ (m_SD_isWithin l) (s_LO_40 hts am_vW hN ⟨by decide, by decide⟩) d_LO_run_11
  cases h
theorem m_LO_run (l : Launch) : am_MF l y_LO_run w_LO_run r_LO_run P_LO_run f_LO_run g_LO_run := by
  refine am_mk0 i_LO_run_ok fd_LO_ok (ct_LO_run_ok l) (plainFor_of_name (by decide +kernel)) (by decide) ?_ 30 ?_
  · intro av M h
    unfold P_LO_run at h
    split at h
    · exact ⟨Nat.le_of_ble_eq_true rfl, rfl⟩
    · exact h.elim
  · intro av M Z h
    unfold P_LO_run at h
    split at h
    · rename_i b r
      obtain ⟨⟨hb0, hb1, hb2, hb3, hb4, hbl, hbn⟩, h1, h2, h4⟩ := h
      refine xs_iload_n (q := 1) i_LO_run_0 rfl rfl (xs_n rfl ?_)
      refine xs_iconst (q := 2) i_LO_run_1 rfl (xs_n rfl ?_)
      refine xs_aload_n (q := 3) i_LO_run_2 rfl rfl (xs_n rfl ?_)
      refine xs_getr (q := 6) i_LO_run_3 rfl fd_LO_24 hb0 rfl (xs_n rfl ?_)
      refine xs_geti (q := 9) i_LO_run_6 rfl fd_LO_28 sg_1 rfl (xs_n rfl ?_)
      refine xs_iconst (q := 10) i_LO_run_9 rfl (xs_n rfl ?_)
      refine xs_isub (q := 11) i_LO_run_10 rfl (xs_n rfl ?_)
      refine xs_cs (q := 14) i_LO_run_11 rfl (e_LO_run_11) ⟨rfl, rfl⟩ rfl rfl ?_
      rw [am_S_iff]
      refine ⟨⟨h2, by unfold am_R; omega, by unfold am_R; omega⟩, ?_⟩
      dsimp only [g_SD_isWithin, g_id]
      refine xs_r1 rfl (xs_n rfl ?_)
      refine xs_if_eq (q := 35) (r := 17) i_LO_run_14 rfl rfl am_ite (fun h14 => (xs_n rfl ?_)) (fun h14 => (xs_n rfl ?_))
      · refine xs_ret i_LO_run_35 ?_
        exact xs_fin rfl (by simp only [g_LO_run]; rw [if_neg (am_ite0 h14)]) trivial
      · refine xs_aload_n (q := 18) i_LO_run_17 rfl rfl (xs_n rfl ?_)
        refine xs_getr (q := 21) i_LO_run_18 rfl fd_LO_18 hb0 rfl (xs_n rfl ?_)
        refine xs_aload_n (q := 22) i_LO_run_21 rfl rfl (xs_n rfl ?_)
        refine xs_getr (q := 25) i_LO_run_22 rfl fd_LO_24 hb0 rfl (xs_n rfl ?_)
        refine xs_getr (q := 28) i_LO_run_25 rfl fd_LO_56 sg_1 rfl (xs_n rfl ?_)
        refine xs_iload_n (q := 29) i_LO_run_28 rfl rfl (xs_n rfl ?_)
        refine xs_iaload (q := 30) i_LO_run_29 rfl sg_6 rfl (by have := am_ite1 h14; omega) (xs_n rfl ?_)
        refine xs_dup2 (q := 31) i_LO_run_30 rfl (xs_n rfl ?_)
        refine xs_iaload (q := 32) i_LO_run_31 rfl hb3 (am_ns (by omega)) (h4 _ (by have := am_ite1 h14; omega)) (xs_n rfl ?_)
        refine xs_iconst (q := 33) i_LO_run_32 rfl (xs_n rfl ?_)
        refine xs_isub (q := 34) i_LO_run_33 rfl (xs_n rfl ?_)
        refine xs_iastore (q := 35) i_LO_run_34 rfl hb3 (h4 _ (by have := am_ite1 h14; omega)) (xs_n rfl ?_)
        refine xs_ret i_LO_run_35 ?_
        exact xs_fin rfl (by simp only [g_LO_run]; rw [if_pos (am_ite1 h14)]) trivial
    · exact h.elim
def P_LO_firstDue : am_P := fun av M => match av with
  | [.inr (.inl b), .inl t] => lo_at b ∧ (0 ≤ t ∧ t < 5) ∧ am_R (M (b + 3) t.toNat)
  | _ => False
def f_LO_firstDue : am_Fr := fun av M => match av with
  | [.inr (.inl b), .inl t] => some (.inl (if 0 < M (b + 3) t.toNat then M (b + 4) t.toNat else M (b + 1) t.toNat + M 5 t.toNat))
  | _ => none
abbrev g_LO_firstDue : am_Fm := g_id
theorem m_LO_firstDue (l : Launch) : am_MF l y_LO_firstDue w_LO_firstDue r_LO_firstDue P_LO_firstDue f_LO_firstDue g_LO_firstDue := by
  refine am_mk0 i_LO_firstDue_ok fd_LO_ok am_CC0 (plainFor_of_name (by decide +kernel)) (by decide) ?_ 30 ?_
  · intro av M h
    unfold P_LO_firstDue at h
    split at h
    · exact ⟨Nat.le_of_ble_eq_true rfl, rfl⟩
    · exact h.elim
  · intro av M Z h
    unfold P_LO_firstDue at h
    split at h
    · rename_i b t
      obtain ⟨⟨hb0, hb1, hb2, hb3, hb4, hbl, hbn⟩, h1, h2⟩ := h
      refine xs_aload_n (q := 1) i_LO_firstDue_0 rfl rfl (xs_n rfl ?_)
      refine xs_getr (q := 4) i_LO_firstDue_1 rfl fd_LO_18 hb0 rfl (xs_n rfl ?_)
      refine xs_iload_n (q := 5) i_LO_firstDue_4 rfl rfl (xs_n rfl ?_)
      refine xs_iaload (q := 6) i_LO_firstDue_5 rfl hb3 (am_ns (by omega)) (by omega) (xs_n rfl ?_)
      refine xs_if_le (q := 18) (r := 9) i_LO_firstDue_6 rfl rfl h2 (fun h6 => (xs_n rfl ?_)) (fun h6 => (xs_n rfl ?_))
      · refine xs_aload_n (q := 19) i_LO_firstDue_18 rfl rfl (xs_n rfl ?_)
        refine xs_getr (q := 22) i_LO_firstDue_19 rfl fd_LO_9 hb0 rfl (xs_n rfl ?_)
        refine xs_iload_n (q := 23) i_LO_firstDue_22 rfl rfl (xs_n rfl ?_)
        refine xs_iaload (q := 24) i_LO_firstDue_23 rfl hb1 (am_ns (by omega)) (by omega) (xs_n rfl ?_)
        refine xs_aload_n (q := 25) i_LO_firstDue_24 rfl rfl (xs_n rfl ?_)
        refine xs_getr (q := 28) i_LO_firstDue_25 rfl fd_LO_24 hb0 rfl (xs_n rfl ?_)
        refine xs_getr (q := 31) i_LO_firstDue_28 rfl fd_LO_50 sg_1 rfl (xs_n rfl ?_)
        refine xs_iload_n (q := 32) i_LO_firstDue_31 rfl rfl (xs_n rfl ?_)
        refine xs_iaload (q := 33) i_LO_firstDue_32 rfl sg_5 rfl (by omega) (xs_n rfl ?_)
        refine xs_iadd (q := 34) i_LO_firstDue_33 rfl (xs_n rfl ?_)
        refine xs_iret i_LO_firstDue_34 ?_
        exact xs_fin (by simp only [f_LO_firstDue]; (first | rfl | (rw [if_pos (by omega)]) | (rw [if_neg (by omega)]))) rfl trivial
      · refine xs_aload_n (q := 10) i_LO_firstDue_9 rfl rfl (xs_n rfl ?_)
        refine xs_getr (q := 13) i_LO_firstDue_10 rfl fd_LO_21 hb0 rfl (xs_n rfl ?_)
        refine xs_iload_n (q := 14) i_LO_firstDue_13 rfl rfl (xs_n rfl ?_)
        refine xs_iaload (q := 15) i_LO_firstDue_14 rfl hb4 (am_ns (by omega)) (by omega) (xs_n rfl ?_)
        refine xs_goto (q := 34) i_LO_firstDue_15 rfl (xs_n rfl ?_)
        refine xs_iret i_LO_firstDue_34 ?_
        exact xs_fin (by simp only [f_LO_firstDue]; (first | rfl | (rw [if_pos (by omega)]) | (rw [if_neg (by omega)]))) rfl trivial
    · exact h.elim
def P_BU_placeOf : am_P := fun av M => match av with
  | [.inr (.inl u), .inl m] => bu_at u ∧ (0 ≤ m ∧ m ≤ 1000000) ∧ (1 ≤ M u 3 ∧ M u 3 ≤ 60)
  | _ => False
def f_BU_placeOf : am_Fr := fun av M => match av with
  | [.inr (.inl u), .inl m] => some (.inl (m % M u 3))
  | _ => none
abbrev g_BU_placeOf : am_Fm := g_id
def ct_BU_placeOf : am_T := fun pc => if pc = 7 then some (3, am_ctS P_SD_isWithin (am_po f_SD_isWithin g_SD_isWithin)) else if pc = 18 then some (2, am_ctS P_JM_floorMod (am_po f_JM_floorMod g_JM_floorMod)) else none
theorem e_BU_placeOf_7 : ct_BU_placeOf 7 = some (3, am_ctS P_SD_isWithin (am_po f_SD_isWithin g_SD_isWithin)) := rfl
theorem e_BU_placeOf_18 : ct_BU_placeOf 18 = some (2, am_ctS P_JM_floorMod (am_po f_JM_floorMod g_JM_floorMod)) := rfl
theorem ct_BU_placeOf_ok (l : Launch) : am_CC b_BU_placeOf 2 w_BU_placeOf y_BU_placeOf.cls l r_BU_placeOf ct_BU_placeOf := by
  intro p e s m args below meth c H0 A D G ad Q S hK hN hA pc q ct h
  have hts := S.2.2.2.2
  unfold ct_BU_placeOf at h
  split at h
  · rename_i hpc
    subst hpc; cases h
    exact am_callS S vw_N_ok hK hN hA ⟨Nat.zero_le _, Nat.zero_le _⟩ (m_SD_isWithin l) (s_BU_49 hts am_vW hN ⟨by decide, by decide⟩) d_BU_placeOf_7
  split at h
  · rename_i hpc
    subst hpc; cases h
    exact am_callS S vw_N_ok hK hN hA ⟨Nat.zero_le _, Nat.zero_le _⟩ (m_JM_floorMod l) (s_BU_53 hts am_vW hN ⟨by decide, by decide⟩) d_BU_placeOf_18
  cases h
theorem m_BU_placeOf (l : Launch) : am_MF l y_BU_placeOf w_BU_placeOf r_BU_placeOf P_BU_placeOf f_BU_placeOf g_BU_placeOf := by
  refine am_mk0 i_BU_placeOf_ok fd_BU_ok (ct_BU_placeOf_ok l) (plainFor_of_name (by decide +kernel)) (by decide) ?_ 20 ?_
  · intro av M h
    unfold P_BU_placeOf at h
    split at h
    · exact ⟨Nat.le_of_ble_eq_true rfl, rfl⟩
    · exact h.elim
  · intro av M Z h
    unfold P_BU_placeOf at h
    split at h
    · rename_i u m
      obtain ⟨⟨hu0, hu1, hul, hun⟩, h1, h2⟩ := h
      refine xs_aload_n (q := 1) i_BU_placeOf_0 rfl rfl (xs_n rfl ?_)
      refine xs_geti (q := 4) i_BU_placeOf_1 rfl fd_BU_22 hu0 rfl (xs_n rfl ?_)
      refine xs_iconst (q := 5) i_BU_placeOf_4 rfl (xs_n rfl ?_)
      refine xs_bipush (q := 7) i_BU_placeOf_5 rfl (by decide) (xs_n rfl ?_)
      refine xs_cs (q := 10) i_BU_placeOf_7 rfl (e_BU_placeOf_7) ⟨rfl, rfl⟩ rfl rfl ?_
      rw [am_S_iff]
      refine ⟨⟨by unfold am_R; omega, by unfold am_R; omega, by unfold am_R; omega⟩, ?_⟩
      dsimp only [g_SD_isWithin, g_id]
      refine xs_r1 rfl (xs_n rfl ?_)
      refine xs_if_eq (q := 24) (r := 13) i_BU_placeOf_10 rfl rfl am_ite (fun h10 => (xs_n rfl ?_)) (fun h10 => (xs_n rfl ?_))
      · refine xs_iconst (q := 25) i_BU_placeOf_24 rfl (xs_n rfl ?_)
        refine xs_iret i_BU_placeOf_25 ?_
        exact absurd (am_ite0 h10) (by omega)
      · refine xs_iload_n (q := 14) i_BU_placeOf_13 rfl rfl (xs_n rfl ?_)
        refine xs_aload_n (q := 15) i_BU_placeOf_14 rfl rfl (xs_n rfl ?_)
        refine xs_geti (q := 18) i_BU_placeOf_15 rfl fd_BU_22 hu0 rfl (xs_n rfl ?_)
        refine xs_cs (q := 21) i_BU_placeOf_18 rfl (e_BU_placeOf_18) ⟨rfl, rfl⟩ rfl rfl ?_
        rw [am_S_iff]
        refine ⟨⟨by omega, by omega⟩, ?_⟩
        dsimp only [g_JM_floorMod, g_id]
        refine xs_r1 rfl (xs_n rfl ?_)
        refine xs_goto (q := 25) i_BU_placeOf_21 rfl (xs_n rfl ?_)
        refine xs_iret i_BU_placeOf_25 ?_
        exact xs_fin rfl rfl trivial
    · exact h.elim
def P_BU_take : am_P := fun av M => match av with
  | [.inr (.inl u), .inl m] => bu_at u ∧ (0 ≤ m ∧ m ≤ 1000000) ∧ (1 ≤ M u 3 ∧ M u 3 ≤ 60) ∧ am_R (M u 4)
  | _ => False
def f_BU_take : am_Fr := fun av M => match av with
  | [.inr (.inl u), .inl m] => none
  | _ => none
def g_BU_take : am_Fm := fun av M => match av with
  | [.inr (.inl u), .inl m] => (if 0 < M u 4 then am_up (am_up M u 4 (M u 4 - 1)) (u + 1) (m % M u 3).toNat (M (u + 1) (m % M u 3).toNat + 1) else M)
  | _ => M
def ct_BU_take : am_T := fun pc => if pc = 23 then some (2, am_ctV vw_S 7 P_BU_placeOf (am_po f_BU_placeOf g_BU_placeOf)) else none
theorem e_BU_take_23 : ct_BU_take 23 = some (2, am_ctV vw_S 7 P_BU_placeOf (am_po f_BU_placeOf g_BU_placeOf)) := rfl
theorem ct_BU_take_ok (l : Launch) : am_CC b_BU_take 2 w_BU_take y_BU_take.cls l r_BU_take ct_BU_take := by
  intro p e s m args below meth c H0 A D G ad Q S hK hN hA pc q ct h
  have hts := S.2.2.2.2
  unfold ct_BU_take at h
  split at h
  · rename_i hpc
    subst hpc; cases h
    exact am_callV S vw_N_ok hK hN hA ⟨Nat.zero_le _, Nat.zero_le _⟩ (m_BU_placeOf l) (s_BU_45 hts am_vW hN ⟨by decide, by decide⟩) (by rfl) d_BU_take_23
  cases h
theorem m_BU_take (l : Launch) : am_MF l y_BU_take w_BU_take r_BU_take P_BU_take f_BU_take g_BU_take := by
  refine am_mk0 i_BU_take_ok fd_BU_ok (ct_BU_take_ok l) (plainFor_of_name (by decide +kernel)) (by decide) ?_ 30 ?_
  · intro av M h
    unfold P_BU_take at h
    split at h
    · exact ⟨Nat.le_of_ble_eq_true rfl, rfl⟩
    · exact h.elim
  · intro av M Z h
    unfold P_BU_take at h
    split at h
    · rename_i u m
      obtain ⟨⟨hu0, hu1, hul, hun⟩, h1, h2, h3⟩ := h
      have e1 := Int.emod_nonneg m (show M u 3 ≠ 0 by omega)
      have e2 := Int.emod_lt_of_pos m (show 0 < M u 3 by omega)
      refine xs_aload_n (q := 1) i_BU_take_0 rfl rfl (xs_n rfl ?_)
      refine xs_geti (q := 4) i_BU_take_1 rfl fd_BU_25 hu0 rfl (xs_n rfl ?_)
      refine xs_if_le (q := 31) (r := 7) i_BU_take_4 rfl rfl h3 (fun h4 => (xs_n rfl ?_)) (fun h4 => (xs_n rfl ?_))
      · refine xs_ret i_BU_take_31 ?_
        exact xs_fin rfl (by simp only [g_BU_take]; rw [if_neg (by omega)]) trivial
      · refine xs_aload_n (q := 8) i_BU_take_7 rfl rfl (xs_n rfl ?_)
        refine xs_dupr (q := 9) i_BU_take_8 rfl (xs_n rfl ?_)
        refine xs_geti (q := 12) i_BU_take_9 rfl fd_BU_25 hu0 rfl (xs_n rfl ?_)
        refine xs_iconst (q := 13) i_BU_take_12 rfl (xs_n rfl ?_)
        refine xs_isub (q := 14) i_BU_take_13 rfl (xs_n rfl ?_)
        refine xs_puti (q := 17) i_BU_take_14 rfl fd_BU_25 hu0 rfl (xs_n rfl ?_)
        refine xs_aload_n (q := 18) i_BU_take_17 rfl rfl (xs_n rfl ?_)
        refine xs_getr (q := 21) i_BU_take_18 rfl fd_BU_9 hu0 rfl (xs_n rfl ?_)
        refine xs_aload_n (q := 22) i_BU_take_21 rfl rfl (xs_n rfl ?_)
        refine xs_iload_n (q := 23) i_BU_take_22 rfl rfl (xs_n rfl ?_)
        refine xs_cv (q := 26) i_BU_take_23 rfl (e_BU_take_23) ⟨rfl, rfl⟩ rfl rfl ?_
        rw [am_V_iff]
        refine ⟨⟨_, hu0⟩, ⟨⟨hu0, hu1, hul, hun⟩, h1, by simp [am_up]; omega⟩, ?_⟩
        dsimp only [g_BU_placeOf, g_id]
        refine xs_r1 rfl (xs_n rfl ?_)
        refine xs_dup2 (q := 27) i_BU_take_26 rfl (xs_n rfl ?_)
        refine xs_iaload (q := 28) i_BU_take_27 rfl hu1 (am_ns (by omega)) (by simp [am_up]; omega) (xs_n rfl ?_)
        refine xs_iconst (q := 29) i_BU_take_28 rfl (xs_n rfl ?_)
        refine xs_iadd (q := 30) i_BU_take_29 rfl (xs_n rfl ?_)
        refine xs_iastore (q := 31) i_BU_take_30 rfl hu1 (by simp [am_up]; omega) (xs_n rfl ?_)
        refine xs_ret i_BU_take_31 ?_
        exact xs_fin rfl (by simp only [g_BU_take]; rw [if_pos (by omega)]; simp [am_up]) trivial
    · exact h.elim
def P_BU_comeBack : am_P := fun av M => match av with
  | [.inr (.inl u), .inl m] => bu_at u ∧ (0 ≤ m ∧ m ≤ 1000000) ∧ (1 ≤ M u 3 ∧ M u 3 ≤ 60) ∧ am_R (M u 1)
  | _ => False
def f_BU_comeBack : am_Fr := fun av M => match av with
  | [.inr (.inl u), .inl m] => none
  | _ => none
def g_BU_comeBack : am_Fm := fun av M => match av with
  | [.inr (.inl u), .inl m] => (if M u 1 = 1 ∧ m % M u 3 = 0 then am_up M u 4 (M u 2) else if M u 1 = 2 then am_up (am_up M u 4 (M u 4 + M (u + 1) (m % M u 3).toNat)) (u + 1) (m % M u 3).toNat 0 else M)
  | _ => M
def ct_BU_comeBack : am_T := fun pc => if pc = 2 then some (2, am_ctV vw_S 7 P_BU_placeOf (am_po f_BU_placeOf g_BU_placeOf)) else none
theorem e_BU_comeBack_2 : ct_BU_comeBack 2 = some (2, am_ctV vw_S 7 P_BU_placeOf (am_po f_BU_placeOf g_BU_placeOf)) := rfl
theorem ct_BU_comeBack_ok (l : Launch) : am_CC b_BU_comeBack 3 w_BU_comeBack y_BU_comeBack.cls l r_BU_comeBack ct_BU_comeBack := by
  intro p e s m args below meth c H0 A D G ad Q S hK hN hA pc q ct h
  have hts := S.2.2.2.2
  unfold ct_BU_comeBack at h
  split at h
  · rename_i hpc
    subst hpc; cases h
    exact am_callV S vw_N_ok hK hN hA ⟨Nat.zero_le _, Nat.zero_le _⟩ (m_BU_placeOf l) (s_BU_45 hts am_vW hN ⟨by decide, by decide⟩) (by rfl) d_BU_comeBack_2
  cases h
theorem m_BU_comeBack (l : Launch) : am_MF l y_BU_comeBack w_BU_comeBack r_BU_comeBack P_BU_comeBack f_BU_comeBack g_BU_comeBack := by
  refine am_mk0 i_BU_comeBack_ok fd_BU_ok (ct_BU_comeBack_ok l) (plainFor_of_name (by decide +kernel)) (by decide) ?_ 40 ?_
  · intro av M h
    unfold P_BU_comeBack at h
    split at h
    · exact ⟨Nat.le_of_ble_eq_true rfl, rfl⟩
    · exact h.elim
  · intro av M Z h
    unfold P_BU_comeBack at h
    split at h
    · rename_i u m
      obtain ⟨⟨hu0, hu1, hul, hun⟩, h1, h2, h3⟩ := h
      have e1 := Int.emod_nonneg m (show M u 3 ≠ 0 by omega)
      have e2 := Int.emod_lt_of_pos m (show 0 < M u 3 by omega)
      refine xs_aload_n (q := 1) i_BU_comeBack_0 rfl rfl (xs_n rfl ?_)
      refine xs_iload_n (q := 2) i_BU_comeBack_1 rfl rfl (xs_n rfl ?_)
      refine xs_cv (q := 5) i_BU_comeBack_2 rfl (e_BU_comeBack_2) ⟨rfl, rfl⟩ rfl rfl ?_
      rw [am_V_iff]
      refine ⟨⟨_, hu0⟩, ⟨⟨hu0, hu1, hul, hun⟩, h1, h2⟩, ?_⟩
      dsimp only [g_BU_placeOf, g_id]
      refine xs_r1 rfl (xs_n rfl ?_)
      refine xs_istore_n (q := 6) (ls2 := [_, _, _]) i_BU_comeBack_5 rfl rfl rfl (xs_n rfl ?_)
      refine xs_aload_n (q := 7) i_BU_comeBack_6 rfl rfl (xs_n rfl ?_)
      refine xs_geti (q := 10) i_BU_comeBack_7 rfl fd_BU_15 hu0 rfl (xs_n rfl ?_)
      refine xs_iconst (q := 11) i_BU_comeBack_10 rfl (xs_n rfl ?_)
      refine xs_ic_ne (q := 29) (r := 14) i_BU_comeBack_11 rfl rfl ⟨h3, by unfold am_R; omega⟩ (fun h11 => (xs_n rfl ?_)) (fun h11 => (xs_n rfl ?_))
      · refine xs_aload_n (q := 30) i_BU_comeBack_29 rfl rfl (xs_n rfl ?_)
        refine xs_geti (q := 33) i_BU_comeBack_30 rfl fd_BU_15 hu0 rfl (xs_n rfl ?_)
        refine xs_iconst (q := 34) i_BU_comeBack_33 rfl (xs_n rfl ?_)
        refine xs_ic_ne (q := 59) (r := 37) i_BU_comeBack_34 rfl rfl ⟨h3, by unfold am_R; omega⟩ (fun h34 => (xs_n rfl ?_)) (fun h34 => (xs_n rfl ?_))
        · refine xs_ret i_BU_comeBack_59 ?_
          exact xs_fin rfl (by simp only [g_BU_comeBack]; rw [if_neg (by omega), if_neg (by omega)]) trivial
        · refine xs_aload_n (q := 38) i_BU_comeBack_37 rfl rfl (xs_n rfl ?_)
          refine xs_dupr (q := 39) i_BU_comeBack_38 rfl (xs_n rfl ?_)
          refine xs_geti (q := 42) i_BU_comeBack_39 rfl fd_BU_25 hu0 rfl (xs_n rfl ?_)
          refine xs_aload_n (q := 43) i_BU_comeBack_42 rfl rfl (xs_n rfl ?_)
          refine xs_getr (q := 46) i_BU_comeBack_43 rfl fd_BU_9 hu0 rfl (xs_n rfl ?_)
          refine xs_iload_n (q := 47) i_BU_comeBack_46 rfl rfl (xs_n rfl ?_)
          refine xs_iaload (q := 48) i_BU_comeBack_47 rfl hu1 (am_ns (by omega)) (by omega) (xs_n rfl ?_)
          refine xs_iadd (q := 49) i_BU_comeBack_48 rfl (xs_n rfl ?_)
          refine xs_puti (q := 52) i_BU_comeBack_49 rfl fd_BU_25 hu0 rfl (xs_n rfl ?_)
          refine xs_aload_n (q := 53) i_BU_comeBack_52 rfl rfl (xs_n rfl ?_)
          refine xs_getr (q := 56) i_BU_comeBack_53 rfl fd_BU_9 hu0 rfl (xs_n rfl ?_)
          refine xs_iload_n (q := 57) i_BU_comeBack_56 rfl rfl (xs_n rfl ?_)
          refine xs_iconst (q := 58) i_BU_comeBack_57 rfl (xs_n rfl ?_)
          refine xs_iastore (q := 59) i_BU_comeBack_58 rfl hu1 (by omega) (xs_n rfl ?_)
          refine xs_ret i_BU_comeBack_59 ?_
          exact xs_fin rfl (by simp only [g_BU_comeBack]; rw [if_neg (by omega), if_pos (by omega)]) trivial
      · refine xs_iload_n (q := 15) i_BU_comeBack_14 rfl rfl (xs_n rfl ?_)
        refine xs_if_ne (q := 29) (r := 18) i_BU_comeBack_15 rfl rfl (by unfold am_R; omega) (fun h15 => (xs_n rfl ?_)) (fun h15 => (xs_n rfl ?_))
        · refine xs_aload_n (q := 30) i_BU_comeBack_29 rfl rfl (xs_n rfl ?_)
          refine xs_geti (q := 33) i_BU_comeBack_30 rfl fd_BU_15 hu0 rfl (xs_n rfl ?_)
          refine xs_iconst (q := 34) i_BU_comeBack_33 rfl (xs_n rfl ?_)
          refine xs_ic_ne (q := 59) (r := 37) i_BU_comeBack_34 rfl rfl ⟨h3, by unfold am_R; omega⟩ (fun h34 => (xs_n rfl ?_)) (fun h34 => (xs_n rfl ?_))
          · refine xs_ret i_BU_comeBack_59 ?_
            exact xs_fin rfl (by simp only [g_BU_comeBack]; rw [if_neg (by omega), if_neg (by omega)]) trivial
          · refine xs_aload_n (q := 38) i_BU_comeBack_37 rfl rfl (xs_n rfl ?_)
            refine xs_dupr (q := 39) i_BU_comeBack_38 rfl (xs_n rfl ?_)
            refine xs_geti (q := 42) i_BU_comeBack_39 rfl fd_BU_25 hu0 rfl (xs_n rfl ?_)
            refine xs_aload_n (q := 43) i_BU_comeBack_42 rfl rfl (xs_n rfl ?_)
            refine xs_getr (q := 46) i_BU_comeBack_43 rfl fd_BU_9 hu0 rfl (xs_n rfl ?_)
            refine xs_iload_n (q := 47) i_BU_comeBack_46 rfl rfl (xs_n rfl ?_)
            refine xs_iaload (q := 48) i_BU_comeBack_47 rfl hu1 (am_ns (by omega)) (by omega) (xs_n rfl ?_)
            refine xs_iadd (q := 49) i_BU_comeBack_48 rfl (xs_n rfl ?_)
            refine xs_puti (q := 52) i_BU_comeBack_49 rfl fd_BU_25 hu0 rfl (xs_n rfl ?_)
            refine xs_aload_n (q := 53) i_BU_comeBack_52 rfl rfl (xs_n rfl ?_)
            refine xs_getr (q := 56) i_BU_comeBack_53 rfl fd_BU_9 hu0 rfl (xs_n rfl ?_)
            refine xs_iload_n (q := 57) i_BU_comeBack_56 rfl rfl (xs_n rfl ?_)
            refine xs_iconst (q := 58) i_BU_comeBack_57 rfl (xs_n rfl ?_)
            refine xs_iastore (q := 59) i_BU_comeBack_58 rfl hu1 (by omega) (xs_n rfl ?_)
            refine xs_ret i_BU_comeBack_59 ?_
            exact xs_fin rfl (by simp only [g_BU_comeBack]; rw [if_neg (by omega), if_pos (by omega)]) trivial
        · refine xs_aload_n (q := 19) i_BU_comeBack_18 rfl rfl (xs_n rfl ?_)
          refine xs_aload_n (q := 20) i_BU_comeBack_19 rfl rfl (xs_n rfl ?_)
          refine xs_geti (q := 23) i_BU_comeBack_20 rfl fd_BU_19 hu0 rfl (xs_n rfl ?_)
          refine xs_puti (q := 26) i_BU_comeBack_23 rfl fd_BU_25 hu0 rfl (xs_n rfl ?_)
          refine xs_goto (q := 59) i_BU_comeBack_26 rfl (xs_n rfl ?_)
          refine xs_ret i_BU_comeBack_59 ?_
          exact xs_fin rfl (by simp only [g_BU_comeBack]; rw [if_pos (by omega)]) trivial
    · exact h.elim
def P_QU_begin : am_P := fun av M => match av with
  | [.inr (.inl c)] => qu_at c
  | _ => False
def f_QU_begin : am_Fr := fun av M => match av with
  | [.inr (.inl c)] => none
  | _ => none
def g_QU_begin : am_Fm := fun av M => match av with
  | [.inr (.inl c)] => am_up (am_up M c 3 0) c 4 0
  | _ => M
theorem m_QU_begin (l : Launch) : am_MF l y_QU_begin w_QU_begin r_QU_begin P_QU_begin f_QU_begin g_QU_begin := by
  refine am_mk0 i_QU_begin_ok fd_QU_ok am_CC0 (plainFor_of_name (by decide +kernel)) (by decide) ?_ 10 ?_
  · intro av M h
    unfold P_QU_begin at h
    split at h
    · exact ⟨Nat.le_of_ble_eq_true rfl, rfl⟩
    · exact h.elim
  · intro av M Z h
    unfold P_QU_begin at h
    split at h
    · rename_i c
      obtain ⟨hc0, hc1, hc2, hcl, hcn⟩ := h
      refine xs_aload_n (q := 1) i_QU_begin_0 rfl rfl (xs_n rfl ?_)
      refine xs_iconst (q := 2) i_QU_begin_1 rfl (xs_n rfl ?_)
      refine xs_puti (q := 5) i_QU_begin_2 rfl fd_QU_18 hc0 rfl (xs_n rfl ?_)
      refine xs_aload_n (q := 6) i_QU_begin_5 rfl rfl (xs_n rfl ?_)
      refine xs_iconst (q := 7) i_QU_begin_6 rfl (xs_n rfl ?_)
      refine xs_puti (q := 10) i_QU_begin_7 rfl fd_QU_22 hc0 rfl (xs_n rfl ?_)
      refine xs_ret i_QU_begin_10 ?_
      exact xs_fin rfl rfl trivial
    · exact h.elim
def P_QU_serve : am_P := fun av M => match av with
  | [.inr (.inl c), .inl r, .inl m] => qu_at c ∧ am_R r ∧ (0 ≤ M c 3 ∧ M c 3 ≤ 40) ∧ ∀ j, j < 40 → -1000000 ≤ M (c + 1) j ∧ M (c + 1) j ≤ 1000000
  | _ => False
def f_QU_serve : am_Fr := fun av M => match av with
  | [.inr (.inl c), .inl r, .inl m] => none
  | _ => none
def g_QU_serve : am_Fm := fun av M => match av with
  | [.inr (.inl c), .inl r, .inl m] => (if 0 ≤ r ∧ r ≤ M c 3 - 1 then (if M (c + 1) r.toNat - 1 = 0 then am_up (am_up (am_up M (c + 1) r.toNat (M (c + 1) r.toNat - 1)) (c + 2) r.toNat (m + 1)) c 4 (M c 4 - 1) else am_up M (c + 1) r.toNat (M (c + 1) r.toNat - 1)) else M)
  | _ => M
def ct_QU_serve : am_T := fun pc => if pc = 8 then some (3, am_ctS P_SD_isWithin (am_po f_SD_isWithin g_SD_isWithin)) else none
theorem e_QU_serve_8 : ct_QU_serve 8 = some (3, am_ctS P_SD_isWithin (am_po f_SD_isWithin g_SD_isWithin)) := rfl
theorem ct_QU_serve_ok (l : Launch) : am_CC b_QU_serve 3 w_QU_serve y_QU_serve.cls l r_QU_serve ct_QU_serve := by
  intro p e s m args below meth c H0 A D G ad Q S hK hN hA pc q ct h
  have hts := S.2.2.2.2
  unfold ct_QU_serve at h
  split at h
  · rename_i hpc
    subst hpc; cases h
    exact am_callS S vw_N_ok hK hN hA ⟨Nat.zero_le _, Nat.zero_le _⟩ (m_SD_isWithin l) (s_QU_44 hts am_vW hN ⟨by decide, by decide⟩) d_QU_serve_8
  cases h
theorem m_QU_serve (l : Launch) : am_MF l y_QU_serve w_QU_serve r_QU_serve P_QU_serve f_QU_serve g_QU_serve := by
  refine am_mk0 i_QU_serve_ok fd_QU_ok (ct_QU_serve_ok l) (plainFor_of_name (by decide +kernel)) (by decide) ?_ 50 ?_
  · intro av M h
    unfold P_QU_serve at h
    split at h
    · exact ⟨Nat.le_of_ble_eq_true rfl, rfl⟩
    · exact h.elim
  · intro av M Z h
    unfold P_QU_serve at h
    split at h
    · rename_i c r m
      obtain ⟨⟨hc0, hc1, hc2, hcl, hcn⟩, h1, h2, h3⟩ := h
      refine xs_iload_n (q := 1) i_QU_serve_0 rfl rfl (xs_n rfl ?_)
      refine xs_iconst (q := 2) i_QU_serve_1 rfl (xs_n rfl ?_)
      refine xs_aload_n (q := 3) i_QU_serve_2 rfl rfl (xs_n rfl ?_)
      refine xs_geti (q := 6) i_QU_serve_3 rfl fd_QU_18 hc0 rfl (xs_n rfl ?_)
      refine xs_iconst (q := 7) i_QU_serve_6 rfl (xs_n rfl ?_)
      refine xs_isub (q := 8) i_QU_serve_7 rfl (xs_n rfl ?_)
      refine xs_cs (q := 11) i_QU_serve_8 rfl (e_QU_serve_8) ⟨rfl, rfl⟩ rfl rfl ?_
      rw [am_S_iff]
      refine ⟨⟨h1, by unfold am_R; omega, by unfold am_R; omega⟩, ?_⟩
      dsimp only [g_SD_isWithin, g_id]
      refine xs_r1 rfl (xs_n rfl ?_)
      refine xs_if_eq (q := 52) (r := 14) i_QU_serve_11 rfl rfl am_ite (fun h11 => (xs_n rfl ?_)) (fun h11 => (xs_n rfl ?_))
      · refine xs_ret i_QU_serve_52 ?_
        exact xs_fin rfl (by simp only [g_QU_serve]; rw [if_neg (am_ite0 h11)]) trivial
      · refine xs_aload_n (q := 15) i_QU_serve_14 rfl rfl (xs_n rfl ?_)
        refine xs_getr (q := 18) i_QU_serve_15 rfl fd_QU_9 hc0 rfl (xs_n rfl ?_)
        refine xs_iload_n (q := 19) i_QU_serve_18 rfl rfl (xs_n rfl ?_)
        refine xs_dup2 (q := 20) i_QU_serve_19 rfl (xs_n rfl ?_)
        refine xs_iaload (q := 21) i_QU_serve_20 rfl hc1 (am_ns (by omega)) (by have := am_ite1 h11; omega) (xs_n rfl ?_)
        refine xs_iconst (q := 22) i_QU_serve_21 rfl (xs_n rfl ?_)
        refine xs_isub (q := 23) i_QU_serve_22 rfl (xs_n rfl ?_)
        refine xs_iastore (q := 24) i_QU_serve_23 rfl hc1 (by have := am_ite1 h11; omega) (xs_n rfl ?_)
        refine xs_aload_n (q := 25) i_QU_serve_24 rfl rfl (xs_n rfl ?_)
        refine xs_getr (q := 28) i_QU_serve_25 rfl fd_QU_9 hc0 rfl (xs_n rfl ?_)
        refine xs_iload_n (q := 29) i_QU_serve_28 rfl rfl (xs_n rfl ?_)
        refine xs_iaload (q := 30) i_QU_serve_29 rfl hc1 (am_ns (by omega)) (by have := am_ite1 h11; omega) (xs_n rfl ?_)
        refine xs_if_ne (q := 52) (r := 33) i_QU_serve_30 rfl rfl (by rw [am_up_s]; have := h3 r.toNat (by have := am_ite1 h11; omega); unfold am_R; omega) (fun h30 => (xs_n rfl ?_)) (fun h30 => (xs_n rfl ?_))
        · refine xs_ret i_QU_serve_52 ?_
          simp only [am_up_s] at h30
          exact xs_fin rfl (by simp only [g_QU_serve]; rw [if_pos (am_ite1 h11), if_neg h30]) trivial
        · refine xs_aload_n (q := 34) i_QU_serve_33 rfl rfl (xs_n rfl ?_)
          refine xs_getr (q := 37) i_QU_serve_34 rfl fd_QU_15 hc0 rfl (xs_n rfl ?_)
          refine xs_iload_n (q := 38) i_QU_serve_37 rfl rfl (xs_n rfl ?_)
          refine xs_iload_n (q := 39) i_QU_serve_38 rfl rfl (xs_n rfl ?_)
          refine xs_iconst (q := 40) i_QU_serve_39 rfl (xs_n rfl ?_)
          refine xs_iadd (q := 41) i_QU_serve_40 rfl (xs_n rfl ?_)
          refine xs_iastore (q := 42) i_QU_serve_41 rfl hc2 (by have := am_ite1 h11; omega) (xs_n rfl ?_)
          refine xs_aload_n (q := 43) i_QU_serve_42 rfl rfl (xs_n rfl ?_)
          refine xs_dupr (q := 44) i_QU_serve_43 rfl (xs_n rfl ?_)
          refine xs_geti (q := 47) i_QU_serve_44 rfl fd_QU_22 hc0 rfl (xs_n rfl ?_)
          refine xs_iconst (q := 48) i_QU_serve_47 rfl (xs_n rfl ?_)
          refine xs_isub (q := 49) i_QU_serve_48 rfl (xs_n rfl ?_)
          refine xs_puti (q := 52) i_QU_serve_49 rfl fd_QU_22 hc0 rfl (xs_n rfl ?_)
          refine xs_ret i_QU_serve_52 ?_
          simp only [am_up_s] at h30
          exact xs_fin rfl (by simp only [g_QU_serve]; rw [if_pos (am_ite1 h11), if_pos h30]; simp [am_up]) trivial
    · exact h.elim
def P_RF_clear : am_P := fun av M => match av with
  | [.inr (.inl i)] => i = 48
  | _ => False
def f_RF_clear : am_Fr := fun av M => match av with
  | [.inr (.inl i)] => none
  | _ => none
def g_RF_clear : am_Fm := fun av M => match av with
  | [.inr (.inl i)] => am_up (am_up (am_up M 48 3 0) 48 4 0) 48 5 0
  | _ => M
theorem m_RF_clear (l : Launch) : am_MF l y_RF_clear w_RF_clear r_RF_clear P_RF_clear f_RF_clear g_RF_clear := by
  refine am_mk0 i_RF_clear_ok fd_RF_ok am_CC0 (plainFor_of_name (by decide +kernel)) (by decide) ?_ 12 ?_
  · intro av M h
    unfold P_RF_clear at h
    split at h
    · exact ⟨Nat.le_of_ble_eq_true rfl, rfl⟩
    · exact h.elim
  · intro av M Z h
    unfold P_RF_clear at h
    split at h
    · rename_i i
      subst h
      refine xs_aload_n (q := 1) i_RF_clear_0 rfl rfl (xs_n rfl ?_)
      refine xs_iconst (q := 2) i_RF_clear_1 rfl (xs_n rfl ?_)
      refine xs_puti (q := 5) i_RF_clear_2 rfl fd_RF_9 sg_48 rfl (xs_n rfl ?_)
      refine xs_aload_n (q := 6) i_RF_clear_5 rfl rfl (xs_n rfl ?_)
      refine xs_iconst (q := 7) i_RF_clear_6 rfl (xs_n rfl ?_)
      refine xs_puti (q := 10) i_RF_clear_7 rfl fd_RF_15 sg_48 rfl (xs_n rfl ?_)
      refine xs_aload_n (q := 11) i_RF_clear_10 rfl rfl (xs_n rfl ?_)
      refine xs_iconst (q := 12) i_RF_clear_11 rfl (xs_n rfl ?_)
      refine xs_puti (q := 15) i_RF_clear_12 rfl fd_RF_18 sg_48 rfl (xs_n rfl ?_)
      refine xs_ret i_RF_clear_15 ?_
      exact xs_fin rfl rfl trivial
    · exact h.elim
