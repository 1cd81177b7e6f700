/-! contracts: Budget.begin, Queue (wip/whole/p24.py) -/
def P_BU_begin : am_P := fun av M => match av with
  | [.inr (.inl u), .inr (.inl i), .inl k] => bu_at u ∧ i = 7 ∧ (0 ≤ k ∧ k ≤ 3)
  | _ => False
def f_BU_begin : am_Fr := fun av M => match av with
  | [.inr (.inl u), .inr (.inl i), .inl k] => none
  | _ => none
def g_BU_begin : am_Fm := fun av M => match av with
  | [.inr (.inl u), .inr (.inl i), .inl k] => am_up (am_up (am_up (am_up (am_fill (u + 1) 60 0 M) u 1 k) u 2 (if k = 1 ∨ k = 2 then M 8 k.toNat else 0)) u 3 (M 9 k.toNat)) u 4 (if k = 1 ∨ k = 2 then M 8 k.toNat else 0)
  | _ => M
def ct_BU_begin : am_T := fun pc => if pc = 5 then some (2, am_ctS P_JA_fill (am_po f_JA_fill g_JA_fill)) else if pc = 15 then some (1, am_ctS P_RB_hasBudget (am_po f_RB_hasBudget g_RB_hasBudget)) else none
theorem e_BU_begin_5 : ct_BU_begin 5 = some (2, am_ctS P_JA_fill (am_po f_JA_fill g_JA_fill)) := rfl
theorem e_BU_begin_15 : ct_BU_begin 15 = some (1, am_ctS P_RB_hasBudget (am_po f_RB_hasBudget g_RB_hasBudget)) := rfl
theorem ct_BU_begin_ok (l : Launch) : am_CC b_BU_begin 3 w_BU_begin y_BU_begin.cls l r_BU_begin ct_BU_begin := by
  intro p e s m args below meth c H0 A D G ad Q S hK hN hA pc q ct h
  have hts := S.2.2.2.2
  unfold ct_BU_begin at h
  split at h
  · rename_i hpc
    subst hpc; cases h
    exact am_callS S vw_N_ok hK hN hA ⟨Nat.zero_le _, Nat.zero_le _⟩ (m_JA_fill l) (s_BU_28 hts am_vW hN ⟨by decide, by decide⟩) d_BU_begin_5
  split at h
  · rename_i hpc
    subst hpc; cases h
    exact am_callS S vw_N_ok hK hN hA ⟨Nat.zero_le _, Nat.zero_le _⟩ (m_RB_hasBudget l) (s_BU_34 hts am_vW hN ⟨by decide, by decide⟩) d_BU_begin_15
  cases h
theorem m_BU_begin (l : Launch) : am_MF l y_BU_begin w_BU_begin r_BU_begin P_BU_begin f_BU_begin g_BU_begin := by
  refine am_mk0 i_BU_begin_ok fd_BU_ok (ct_BU_begin_ok l) (plainFor_of_name (by decide +kernel)) (by decide) ?_ 50 ?_
  · intro av M h
    unfold P_BU_begin at h
    split at h
    · exact ⟨Nat.le_of_ble_eq_true rfl, rfl⟩
    · exact h.elim
  · intro av M Z h
    unfold P_BU_begin at h
    split at h
    · rename_i u i k
      obtain ⟨⟨hu0, hu1, hul, hun⟩, rfl, h1⟩ := h
      refine xs_aload_n (q := 1) i_BU_begin_0 rfl rfl (xs_n rfl ?_)
      refine xs_getr (q := 4) i_BU_begin_1 rfl fd_BU_9 hu0 rfl (xs_n rfl ?_)
      refine xs_iconst (q := 5) i_BU_begin_4 rfl (xs_n rfl ?_)
      refine xs_cs (q := 8) (av := [_, _]) (rest := []) i_BU_begin_5 rfl (e_BU_begin_5) ⟨rfl, rfl⟩ rfl rfl ?_
      rw [am_S_iff]
      refine ⟨⟨by omega, 60, hu1⟩, ?_⟩
      rw [show g_JA_fill [.inr (.inl (u + 1)), .inl 0] M = am_fill (u + 1) 60 0 M by simp only [g_JA_fill]; rw [hu1]]
      refine xs_r0 rfl (xs_n rfl ?_)
      refine xs_aload_n (q := 9) i_BU_begin_8 rfl rfl (xs_n rfl ?_)
      refine xs_iload_n (q := 10) i_BU_begin_9 rfl rfl (xs_n rfl ?_)
      refine xs_puti (q := 13) i_BU_begin_10 rfl fd_BU_15 hu0 rfl (xs_n rfl ?_)
      refine xs_aload_n (q := 14) i_BU_begin_13 rfl rfl (xs_n rfl ?_)
      refine xs_iload_n (q := 15) i_BU_begin_14 rfl rfl (xs_n rfl ?_)
      refine xs_cs (q := 18) (av := [_]) (rest := [_]) i_BU_begin_15 rfl (e_BU_begin_15) ⟨rfl, rfl⟩ rfl rfl ?_
      rw [am_S_iff]
      refine ⟨by show am_R k; unfold am_R; omega, ?_⟩
      dsimp only [g_RB_hasBudget, g_id]
      refine xs_r1 rfl (xs_n rfl ?_)
      refine xs_if_eq (q := 30) (r := 21) i_BU_begin_18 rfl rfl am_ite (fun h18 => (xs_n rfl ?_)) (fun h18 => (xs_n rfl ?_))
      · refine xs_iconst (q := 31) i_BU_begin_30 rfl (xs_n rfl ?_)
        refine xs_puti (q := 34) i_BU_begin_31 rfl fd_BU_19 hu0 rfl (xs_n rfl ?_)
        refine xs_aload_n (q := 35) i_BU_begin_34 rfl rfl (xs_n rfl ?_)
        refine xs_aload_n (q := 36) i_BU_begin_35 rfl rfl (xs_n rfl ?_)
        refine xs_getr (q := 39) i_BU_begin_36 rfl fd_BU_43 sg_7 rfl (xs_n rfl ?_)
        refine xs_iload_n (q := 40) i_BU_begin_39 rfl rfl (xs_n rfl ?_)
        refine xs_iaload (q := 41) i_BU_begin_40 rfl sg_9 rfl (by omega) (xs_n rfl ?_)
        refine xs_puti (q := 44) i_BU_begin_41 rfl fd_BU_22 hu0 rfl (xs_n rfl ?_)
        refine xs_aload_n (q := 45) i_BU_begin_44 rfl rfl (xs_n rfl ?_)
        refine xs_aload_n (q := 46) i_BU_begin_45 rfl rfl (xs_n rfl ?_)
        refine xs_geti (q := 49) i_BU_begin_46 rfl fd_BU_19 hu0 rfl (xs_n rfl ?_)
        refine xs_puti (q := 52) i_BU_begin_49 rfl fd_BU_25 hu0 rfl (xs_n rfl ?_)
        refine xs_ret i_BU_begin_52 ?_
        refine xs_fin rfl ?_ trivial
        simp only [g_BU_begin]
        rw [if_neg (am_ite0 h18)]
        funext p q
        simp only [am_up, am_fill, and_true, true_and, and_self, if_true]
        all_goals ((repeat' split) <;> (first | rfl | omega))
      · refine xs_aload_n (q := 22) i_BU_begin_21 rfl rfl (xs_n rfl ?_)
        refine xs_getr (q := 25) i_BU_begin_22 rfl fd_BU_40 sg_7 rfl (xs_n rfl ?_)
        refine xs_iload_n (q := 26) i_BU_begin_25 rfl rfl (xs_n rfl ?_)
        refine xs_iaload (q := 27) i_BU_begin_26 rfl sg_8 rfl (by omega) (xs_n rfl ?_)
        refine xs_goto (q := 31) i_BU_begin_27 rfl (xs_n rfl ?_)
        refine xs_puti (q := 34) i_BU_begin_31 rfl fd_BU_19 hu0 rfl (xs_n rfl ?_)
        refine xs_aload_n (q := 35) i_BU_begin_34 rfl rfl (xs_n rfl ?_)
        refine xs_aload_n (q := 36) i_BU_begin_35 rfl rfl (xs_n rfl ?_)
        refine xs_getr (q := 39) i_BU_begin_36 rfl fd_BU_43 sg_7 rfl (xs_n rfl ?_)
        refine xs_iload_n (q := 40) i_BU_begin_39 rfl rfl (xs_n rfl ?_)
        refine xs_iaload (q := 41) i_BU_begin_40 rfl sg_9 rfl (by omega) (xs_n rfl ?_)
        refine xs_puti (q := 44) i_BU_begin_41 rfl fd_BU_22 hu0 rfl (xs_n rfl ?_)
        refine xs_aload_n (q := 45) i_BU_begin_44 rfl rfl (xs_n rfl ?_)
        refine xs_aload_n (q := 46) i_BU_begin_45 rfl rfl (xs_n rfl ?_)
        refine xs_geti (q := 49) i_BU_begin_46 rfl fd_BU_19 hu0 rfl (xs_n rfl ?_)
        refine xs_puti (q := 52) i_BU_begin_49 rfl fd_BU_25 hu0 rfl (xs_n rfl ?_)
        refine xs_ret i_BU_begin_52 ?_
        refine xs_fin rfl ?_ trivial
        simp only [g_BU_begin]
        rw [if_pos (am_ite1 h18)]
        funext p q
        simp only [am_up, am_fill, and_true, true_and, and_self, if_true]
        all_goals ((repeat' split) <;> (first | rfl | omega))
    · exact h.elim
/-- the jobs from a up to x come in -/
def qu_tk (c a x : Nat) (M : am_M) : am_M := fun k j => if k = c + 1 ∧ a ≤ j ∧ j < x then M 12 j else if k = c + 2 ∧ a ≤ j ∧ j < x then -1 else if k = c ∧ j = 3 then (x : Int) else if k = c ∧ j = 4 then M c 4 + ((x : Int) - a) else M k j
def P_QU_takeUpTo : am_P := fun av M => match av with
  | [.inr (.inl c), .inl m] => qu_at c ∧ (0 ≤ M c 3 ∧ M c 3 ≤ M 10 3 ∧ M 10 3 ≤ 40) ∧ am_R m ∧ ∀ j, j < 40 → am_R (M 11 j)
  | _ => False
def f_QU_takeUpTo : am_Fr := fun av M => match av with
  | [.inr (.inl c), .inl m] => none
  | _ => none
def g_QU_takeUpTo : am_Fm := fun av M => match av with
  | [.inr (.inl c), .inl m] => qu_tk c (M c 3).toNat (am_fi (fun a => decide (m < M 11 a)) (M 10 3 - M c 3).toNat (M c 3).toNat) M
  | _ => M
def inv_QU_takeUpTo : List am_V → am_M → Nat → am_K := fun av M μ pc ls st M2 => match av with
  | [.inr (.inl c), .inl m] => ((pc = 0 ∧ ls = am_l0 [.inr (.inl c), .inl m] 2 ∧ st = [] ∧ M = M2 ∧ μ = 1000) ∨ ∃ x : Nat, pc = 0 ∧ ls = [some (.inr (.inl c)), some (.inl m)] ∧ st = [] ∧ M2 = qu_tk c (M c 3).toNat x M ∧ (M c 3 ≤ x ∧ x ≤ M 10 3 ∧ ∀ j : Nat, M c 3 ≤ j → j < x → ¬ m < M 11 j) ∧ μ = (M 10 3 - x).toNat)
  | _ => False
theorem m_QU_takeUpTo (l : Launch) : am_MF l y_QU_takeUpTo w_QU_takeUpTo r_QU_takeUpTo P_QU_takeUpTo f_QU_takeUpTo g_QU_takeUpTo := by
  refine am_mkL (fun pc => pc == 0) i_QU_takeUpTo_ok fd_QU_ok am_CC0 (plainFor_of_name (by decide +kernel)) (by decide) ?_ 60 inv_QU_takeUpTo ?_ ?_
  · intro av M h
    unfold P_QU_takeUpTo at h
    split at h
    · exact ⟨Nat.le_of_ble_eq_true rfl, rfl⟩
    · exact h.elim
  · intro av M h
    unfold P_QU_takeUpTo at h
    split at h
    · rename_i c m
      refine ⟨(M 10 3 - (M c 3).toNat).toNat, Or.inr ⟨(M c 3).toNat, rfl, rfl, rfl, ?_, ⟨by omega, by omega, fun j h1 h2 => by omega⟩, rfl⟩⟩
      funext p q
      simp only [qu_tk]
      (repeat' split) <;> (first | rfl | omega | (rename_i h9; obtain ⟨rfl, rfl⟩ := h9; omega))
    · exact h.elim
  · intro av M h μ pc ls st M2 hi
    unfold P_QU_takeUpTo at h
    split at h
    · rename_i c m
      obtain ⟨⟨hc0, hc1, hc2, hcl, hcn⟩, h1, h2, h3⟩ := h
      have key : ∃ x : Nat, pc = 0 ∧ ls = [some (.inr (.inl c)), some (.inl m)] ∧ st = [] ∧ M2 = qu_tk c (M c 3).toNat x M ∧ (M c 3 ≤ x ∧ x ≤ M 10 3 ∧ ∀ j : Nat, M c 3 ≤ j → j < x → ¬ m < M 11 j) ∧ ((M 10 3 - x).toNat ≤ μ) := by
        rcases hi with ⟨rfl, rfl, rfl, rfl, rfl⟩ | ⟨x, rfl, rfl, rfl, hM, hx, rfl⟩
        · refine ⟨(M c 3).toNat, rfl, rfl, rfl, ?_, ⟨by omega, by omega, fun j h1 h2 => by omega⟩, by omega⟩
          funext p q
          simp only [qu_tk]
          (repeat' split) <;> (first | rfl | omega | (rename_i h9; obtain ⟨rfl, rfl⟩ := h9; omega))
        · exact ⟨x, rfl, rfl, rfl, hM, hx, Nat.le_refl _⟩
      obtain ⟨x, rfl, rfl, rfl, hM, ⟨hx0, hx1, hn⟩, hμ⟩ := key
      have e3 : M2 c 3 = x := by rw [hM]; simp [qu_tk]
      have e10 : M2 10 3 = M 10 3 := by rw [hM]; simp only [qu_tk]; (repeat' split) <;> (first | rfl | omega)
      have e11 : ∀ j, M2 11 j = M 11 j := fun j => by rw [hM]; simp only [qu_tk]; (repeat' split) <;> (first | rfl | omega)
      have e12 : ∀ j, M2 12 j = M 12 j := fun j => by rw [hM]; simp only [qu_tk]; (repeat' split) <;> (first | rfl | omega)
      have e4 : M2 c 4 = M c 4 + ((x : Int) - (M c 3).toNat) := by rw [hM]; simp [qu_tk]
      refine xs_aload_n (q := 1) i_QU_takeUpTo_0 rfl rfl (xs_n rfl ?_)
      refine xs_geti (q := 4) i_QU_takeUpTo_1 rfl fd_QU_18 hc0 rfl (xs_n rfl ?_)
      refine xs_aload_n (q := 5) i_QU_takeUpTo_4 rfl rfl (xs_n rfl ?_)
      refine xs_getr (q := 8) i_QU_takeUpTo_5 rfl fd_QU_25 hc0 rfl (xs_n rfl ?_)
      refine xs_geti (q := 11) i_QU_takeUpTo_8 rfl fd_QU_29 sg_10 rfl (xs_n rfl ?_)
      refine xs_ic_ge (q := 84) (r := 14) i_QU_takeUpTo_11 rfl rfl ⟨by rw [e3]; unfold am_R; omega, by rw [e10]; unfold am_R; omega⟩ (fun h11 => (xs_n rfl ?_)) (fun h11 => (xs_n rfl ?_))
      · try rw [e3, e10] at h11
        try rw [e11, e3, Int.toNat_natCast] at h27
        refine xs_ret i_QU_takeUpTo_84 ?_
        refine xs_fin rfl ?_ trivial
        simp only [g_QU_takeUpTo]
        rw [am_fi_eq _ _ _ x (by omega) (by omega) (fun j hj1 hj2 => decide_eq_false (hn j (by omega) hj2)) (fun z => by omega)]
        exact hM.symm
      · rw [e3, e10] at h11
        refine xs_aload_n (q := 15) i_QU_takeUpTo_14 rfl rfl (xs_n rfl ?_)
        refine xs_getr (q := 18) i_QU_takeUpTo_15 rfl fd_QU_25 hc0 rfl (xs_n rfl ?_)
        refine xs_getr (q := 21) i_QU_takeUpTo_18 rfl fd_QU_34 sg_10 rfl (xs_n rfl ?_)
        refine xs_aload_n (q := 22) i_QU_takeUpTo_21 rfl rfl (xs_n rfl ?_)
        refine xs_geti (q := 25) i_QU_takeUpTo_22 rfl fd_QU_18 hc0 rfl (xs_n rfl ?_)
        refine xs_iaload (q := 26) i_QU_takeUpTo_25 rfl sg_11 rfl (by rw [e3]; omega) (xs_n rfl ?_)
        refine xs_iload_n (q := 27) i_QU_takeUpTo_26 rfl rfl (xs_n rfl ?_)
        refine xs_ic_gt (q := 84) (r := 30) i_QU_takeUpTo_27 rfl rfl ⟨by rw [e11]; exact h3 _ (by omega), h2⟩ (fun h27 => (xs_n rfl ?_)) (fun h27 => (xs_n rfl ?_))
        · try rw [e3, e10] at h11
          try rw [e11, e3, Int.toNat_natCast] at h27
          refine xs_ret i_QU_takeUpTo_84 ?_
          refine xs_fin rfl ?_ trivial
          simp only [g_QU_takeUpTo]
          rw [am_fi_eq _ _ _ x (by omega) (by omega) (fun j hj1 hj2 => decide_eq_false (hn j (by omega) hj2)) (fun _ => decide_eq_true (by omega))]
          exact hM.symm
        · rw [e11, e3, Int.toNat_natCast] at h27
          refine xs_aload_n (q := 31) i_QU_takeUpTo_30 rfl rfl (xs_n rfl ?_)
          refine xs_getr (q := 34) i_QU_takeUpTo_31 rfl fd_QU_9 hc0 rfl (xs_n rfl ?_)
          refine xs_aload_n (q := 35) i_QU_takeUpTo_34 rfl rfl (xs_n rfl ?_)
          refine xs_geti (q := 38) i_QU_takeUpTo_35 rfl fd_QU_18 hc0 rfl (xs_n rfl ?_)
          refine xs_aload_n (q := 39) i_QU_takeUpTo_38 rfl rfl (xs_n rfl ?_)
          refine xs_getr (q := 42) i_QU_takeUpTo_39 rfl fd_QU_25 hc0 rfl (xs_n rfl ?_)
          refine xs_getr (q := 45) i_QU_takeUpTo_42 rfl fd_QU_37 sg_10 rfl (xs_n rfl ?_)
          refine xs_aload_n (q := 46) i_QU_takeUpTo_45 rfl rfl (xs_n rfl ?_)
          refine xs_geti (q := 49) i_QU_takeUpTo_46 rfl fd_QU_18 hc0 rfl (xs_n rfl ?_)
          refine xs_iaload (q := 50) i_QU_takeUpTo_49 rfl sg_12 rfl (by simp only [e3]; omega) (xs_n rfl ?_)
          refine xs_iastore (q := 51) i_QU_takeUpTo_50 rfl hc1 (by rw [e3]; omega) (xs_n rfl ?_)
          refine xs_aload_n (q := 52) i_QU_takeUpTo_51 rfl rfl (xs_n rfl ?_)
          refine xs_getr (q := 55) i_QU_takeUpTo_52 rfl fd_QU_15 hc0 rfl (xs_n rfl ?_)
          refine xs_aload_n (q := 56) i_QU_takeUpTo_55 rfl rfl (xs_n rfl ?_)
          refine xs_geti (q := 59) i_QU_takeUpTo_56 rfl fd_QU_18 hc0 rfl (xs_n rfl ?_)
          refine xs_iconst (q := 60) i_QU_takeUpTo_59 rfl (xs_n rfl ?_)
          refine xs_iastore (q := 61) i_QU_takeUpTo_60 rfl hc2 (by simp only [am_up, e3]; omega) (xs_n rfl ?_)
          refine xs_aload_n (q := 62) i_QU_takeUpTo_61 rfl rfl (xs_n rfl ?_)
          refine xs_dupr (q := 63) i_QU_takeUpTo_62 rfl (xs_n rfl ?_)
          refine xs_geti (q := 66) i_QU_takeUpTo_63 rfl fd_QU_18 hc0 rfl (xs_n rfl ?_)
          refine xs_iconst (q := 67) i_QU_takeUpTo_66 rfl (xs_n rfl ?_)
          refine xs_iadd (q := 68) i_QU_takeUpTo_67 rfl (xs_n rfl ?_)
          refine xs_puti (q := 71) i_QU_takeUpTo_68 rfl fd_QU_18 hc0 rfl (xs_n rfl ?_)
          refine xs_aload_n (q := 72) i_QU_takeUpTo_71 rfl rfl (xs_n rfl ?_)
          refine xs_dupr (q := 73) i_QU_takeUpTo_72 rfl (xs_n rfl ?_)
          refine xs_geti (q := 76) i_QU_takeUpTo_73 rfl fd_QU_22 hc0 rfl (xs_n rfl ?_)
          refine xs_iconst (q := 77) i_QU_takeUpTo_76 rfl (xs_n rfl ?_)
          refine xs_iadd (q := 78) i_QU_takeUpTo_77 rfl (xs_n rfl ?_)
          refine xs_puti (q := 81) i_QU_takeUpTo_78 rfl fd_QU_22 hc0 rfl (xs_n rfl ?_)
          refine xs_goto (q := 0) i_QU_takeUpTo_81 rfl (xs_z rfl ?_)
          refine ⟨(M 10 3 - (x + 1)).toNat, by omega, Or.inr ⟨x + 1, rfl, rfl, rfl, ?_, ⟨by omega, by omega, fun j hj1 hj2 => ?_⟩, by omega⟩⟩
          · have hne1 : ¬ (c = c + 1) := by omega
            have hne2 : ¬ (c = c + 2) := by omega
            have hne3 : ¬ ((3 : Nat) = 4) := by decide
            have hne4 : ¬ ((4 : Nat) = 3) := by decide
            funext p q
            simp only [am_up, hne1, hne2, hne3, hne4, false_and, and_false, if_false, and_self, if_true, e3, e4, e12, Int.toNat_natCast]
            rw [hM]
            simp only [qu_tk]
            all_goals ((repeat' split) <;> (first | rfl | omega | (congr 1; omega)))
          · by_cases e : j = x
            · subst e; omega
            · exact hn j hj1 (by omega)
    · exact h.elim
/-- the first hard job, else the first of all that is to be done; else -1 -/
def qu_fst (c : Nat) (M : am_M) : Int := if M c 4 ≤ 0 then -1 else if am_fi (fun j => decide (0 < M (c + 1) j ∧ M 13 j ≠ 0)) (M c 3).toNat 0 < (M c 3).toNat then ((am_fi (fun j => decide (0 < M (c + 1) j ∧ M 13 j ≠ 0)) (M c 3).toNat 0 : Nat) : Int) else if am_fi (fun j => decide (0 < M (c + 1) j)) (M c 3).toNat 0 < (M c 3).toNat then ((am_fi (fun j => decide (0 < M (c + 1) j)) (M c 3).toNat 0 : Nat) : Int) else -1
def P_QU_first : am_P := fun av M => match av with
  | [.inr (.inl c)] => qu_at c ∧ (0 ≤ M c 3 ∧ M c 3 ≤ 40) ∧ am_R (M c 4) ∧ (∀ j, j < 40 → am_R (M (c + 1) j)) ∧ ∀ j, j < 40 → M 13 j = 0 ∨ M 13 j = 1
  | _ => False
def f_QU_first : am_Fr := fun av M => match av with
  | [.inr (.inl c)] => some (.inl (qu_fst c M))
  | _ => none
abbrev g_QU_first : am_Fm := g_id
def inv_QU_first : List am_V → am_M → Nat → am_K := fun av M μ pc ls st M2 => match av with
  | [.inr (.inl c)] => (pc = 0 ∧ ls = am_l0 [.inr (.inl c)] 3 ∧ st = [] ∧ M = M2 ∧ μ = 100) ∨ ∃ i x : Int, pc = 4 ∧ ls = [some (.inr (.inl c)), some (.inl x), some (.inl i)] ∧ st = [] ∧ M = M2 ∧ (((0 ≤ i ∧ i ≤ M c 3) ∧ (0 < i → 0 < M c 4)) ∧ (∀ j : Nat, (j : Int) < i → ¬ (0 < M (c + 1) j ∧ M 13 j ≠ 0)) ∧ ((x = -1 ∧ ∀ j : Nat, (j : Int) < i → ¬ 0 < M (c + 1) j) ∨ (0 ≤ x ∧ x < i ∧ 0 < M (c + 1) x.toNat ∧ ∀ j : Nat, (j : Int) < x → ¬ 0 < M (c + 1) j))) ∧ μ = (M c 3 - i).toNat
  | _ => False
theorem m_QU_first (l : Launch) : am_MF l y_QU_first w_QU_first r_QU_first P_QU_first f_QU_first g_QU_first := by
  refine am_mkL (fun pc => pc == 4) i_QU_first_ok fd_QU_ok am_CC0 (plainFor_of_name (by decide +kernel)) (by decide) ?_ 60 inv_QU_first ?_ ?_
  · intro av M h
    unfold P_QU_first at h
    split at h
    · exact ⟨Nat.le_of_ble_eq_true rfl, rfl⟩
    · exact h.elim
  · intro av M h
    unfold P_QU_first at h
    split at h
    · exact ⟨_, Or.inl ⟨rfl, rfl, rfl, rfl, rfl⟩⟩
    · exact h.elim
  · intro av M h μ pc ls st M2 hi
    unfold P_QU_first at h
    split at h
    · rename_i c
      obtain ⟨⟨hc0, hc1, hc2, hcl, hcn⟩, h1, h2, h3, h4⟩ := h
      rcases hi with ⟨rfl, rfl, rfl, rfl, rfl⟩ | ⟨i, x, rfl, rfl, rfl, rfl, ⟨⟨hi, hw⟩, hn, hx⟩, rfl⟩
      · skip
        refine xs_iconst (q := 1) i_QU_first_0 rfl (xs_n rfl ?_)
        refine xs_istore_n (q := 2) (ls2 := [_, _, _]) i_QU_first_1 rfl rfl rfl (xs_n rfl ?_)
        refine xs_iconst (q := 3) i_QU_first_2 rfl (xs_n rfl ?_)
        refine xs_istore_n (q := 4) (ls2 := [_, _, _]) i_QU_first_3 rfl rfl rfl (xs_z rfl ?_)
        exact ⟨(M c 3).toNat, by omega, Or.inr ⟨0, -1, rfl, rfl, rfl, rfl, ⟨⟨by omega, fun z => by omega⟩, fun j hj => by omega, Or.inl ⟨rfl, fun j hj => by omega⟩⟩, by omega⟩⟩
      · skip
        refine xs_aload_n (q := 5) i_QU_first_4 rfl rfl (xs_n rfl ?_)
        refine xs_geti (q := 8) i_QU_first_5 rfl fd_QU_22 hc0 rfl (xs_n rfl ?_)
        refine xs_if_le (q := 64) (r := 11) i_QU_first_8 rfl rfl h2 (fun h8 => (xs_n rfl ?_)) (fun h8 => (xs_n rfl ?_))
        · refine xs_iload_n (q := 65) i_QU_first_64 rfl rfl (xs_n rfl ?_)
          refine xs_iret i_QU_first_65 ?_
          rcases hx with ⟨e1, e2⟩ | ⟨e1, e2, e3, e4⟩
          · subst e1
            exact xs_fin (by simp only [f_QU_first, qu_fst]; rw [if_pos (by omega)]) rfl trivial
          · exact absurd (hw (by omega)) (by omega)
        · refine xs_iload_n (q := 12) i_QU_first_11 rfl rfl (xs_n rfl ?_)
          refine xs_aload_n (q := 13) i_QU_first_12 rfl rfl (xs_n rfl ?_)
          refine xs_geti (q := 16) i_QU_first_13 rfl fd_QU_18 hc0 rfl (xs_n rfl ?_)
          refine xs_ic_ge (q := 64) (r := 19) i_QU_first_16 rfl rfl ⟨by unfold am_R; omega, by unfold am_R; omega⟩ (fun h16 => (xs_n rfl ?_)) (fun h16 => (xs_n rfl ?_))
          · refine xs_iload_n (q := 65) i_QU_first_64 rfl rfl (xs_n rfl ?_)
            refine xs_iret i_QU_first_65 ?_
            have e9 : am_fi (fun j => decide (0 < M (c + 1) j ∧ M 13 j ≠ 0)) (M c 3).toNat 0 = (M c 3).toNat := am_fi_eq _ _ 0 _ (by omega) (by omega) (fun j _ hj => decide_eq_false (hn j (by omega))) (fun z => by omega)
            rcases hx with ⟨e1, e2⟩ | ⟨e1, e2, e3, e4⟩
            · have e8 : am_fi (fun j => decide (0 < M (c + 1) j)) (M c 3).toNat 0 = (M c 3).toNat := am_fi_eq _ _ 0 _ (by omega) (by omega) (fun j _ hj => decide_eq_false (e2 j (by omega))) (fun z => by omega)
              subst e1
              exact xs_fin (by simp only [f_QU_first, qu_fst]; rw [if_neg (by omega), e9, if_neg (by omega), e8, if_neg (by omega)]) rfl trivial
            · have e8 : am_fi (fun j => decide (0 < M (c + 1) j)) (M c 3).toNat 0 = x.toNat := am_fi_eq _ _ 0 _ (by omega) (by omega) (fun j _ hj => decide_eq_false (e4 j (by omega))) (fun z => decide_eq_true e3)
              exact xs_fin (by simp only [f_QU_first, qu_fst]; rw [if_neg (by omega), e9, if_neg (by omega), e8, if_pos (by omega)]; simp; omega) rfl trivial
          · refine xs_aload_n (q := 20) i_QU_first_19 rfl rfl (xs_n rfl ?_)
            refine xs_getr (q := 23) i_QU_first_20 rfl fd_QU_9 hc0 rfl (xs_n rfl ?_)
            refine xs_iload_n (q := 24) i_QU_first_23 rfl rfl (xs_n rfl ?_)
            refine xs_iaload (q := 25) i_QU_first_24 rfl hc1 (am_ns (by omega)) (by omega) (xs_n rfl ?_)
            refine xs_if_le (q := 42) (r := 28) i_QU_first_25 rfl rfl (h3 _ (by omega)) (fun h25 => (xs_n rfl ?_)) (fun h25 => (xs_n rfl ?_))
            · refine xs_aload_n (q := 43) i_QU_first_42 rfl rfl (xs_n rfl ?_)
              refine xs_getr (q := 46) i_QU_first_43 rfl fd_QU_9 hc0 rfl (xs_n rfl ?_)
              refine xs_iload_n (q := 47) i_QU_first_46 rfl rfl (xs_n rfl ?_)
              refine xs_iaload (q := 48) i_QU_first_47 rfl hc1 (am_ns (by omega)) (by omega) (xs_n rfl ?_)
              refine xs_if_le (q := 58) (r := 51) i_QU_first_48 rfl rfl (h3 _ (by omega)) (fun h48 => (xs_n rfl ?_)) (fun h48 => (xs_n rfl ?_))
              · refine xs_iinc (q := 61) (ls2 := [_, _, _]) i_QU_first_58 rfl rfl rfl (xs_n rfl ?_)
                refine xs_goto (q := 4) i_QU_first_61 rfl (xs_z rfl ?_)
                exact ⟨(M c 3 - (i + 1)).toNat, by omega, Or.inr ⟨i + 1, x, rfl, rfl, rfl, rfl, ⟨⟨by omega, fun _ => h8⟩, am_ls hn (fun z => by omega) (by omega), (by rcases hx with ⟨e1, e2⟩ | ⟨e1, e2, e3, e4⟩; exact Or.inl ⟨e1, am_ls e2 (by omega) (by omega)⟩; exact Or.inr ⟨e1, by omega, e3, e4⟩)⟩, rfl⟩⟩
              · refine xs_iload_n (q := 52) i_QU_first_51 rfl rfl (xs_n rfl ?_)
                refine xs_iconst (q := 53) i_QU_first_52 rfl (xs_n rfl ?_)
                refine xs_ic_ne (q := 58) (r := 56) i_QU_first_53 rfl rfl ⟨by unfold am_R; omega, by unfold am_R; omega⟩ (fun h53 => (xs_n rfl ?_)) (fun h53 => (xs_n rfl ?_))
                · refine xs_iinc (q := 61) (ls2 := [_, _, _]) i_QU_first_58 rfl rfl rfl (xs_n rfl ?_)
                  refine xs_goto (q := 4) i_QU_first_61 rfl (xs_z rfl ?_)
                  omega
                · refine xs_iload_n (q := 57) i_QU_first_56 rfl rfl (xs_n rfl ?_)
                  refine xs_istore_n (q := 58) (ls2 := [_, _, _]) i_QU_first_57 rfl rfl rfl (xs_n rfl ?_)
                  refine xs_iinc (q := 61) (ls2 := [_, _, _]) i_QU_first_58 rfl rfl rfl (xs_n rfl ?_)
                  refine xs_goto (q := 4) i_QU_first_61 rfl (xs_z rfl ?_)
                  omega
            · refine xs_aload_n (q := 29) i_QU_first_28 rfl rfl (xs_n rfl ?_)
              refine xs_getr (q := 32) i_QU_first_29 rfl fd_QU_25 hc0 rfl (xs_n rfl ?_)
              refine xs_getr (q := 35) i_QU_first_32 rfl fd_QU_40 sg_10 rfl (xs_n rfl ?_)
              refine xs_iload_n (q := 36) i_QU_first_35 rfl rfl (xs_n rfl ?_)
              refine xs_baload (q := 37) i_QU_first_36 rfl sg_13 (by omega) (xs_n rfl ?_)
              refine xs_if_eq (q := 42) (r := 40) i_QU_first_37 rfl rfl (by have := h4 i.toNat (by omega); unfold am_R; omega) (fun h37 => (xs_n rfl ?_)) (fun h37 => (xs_n rfl ?_))
              · refine xs_aload_n (q := 43) i_QU_first_42 rfl rfl (xs_n rfl ?_)
                refine xs_getr (q := 46) i_QU_first_43 rfl fd_QU_9 hc0 rfl (xs_n rfl ?_)
                refine xs_iload_n (q := 47) i_QU_first_46 rfl rfl (xs_n rfl ?_)
                refine xs_iaload (q := 48) i_QU_first_47 rfl hc1 (am_ns (by omega)) (by omega) (xs_n rfl ?_)
                refine xs_if_le (q := 58) (r := 51) i_QU_first_48 rfl rfl (h3 _ (by omega)) (fun h48 => (xs_n rfl ?_)) (fun h48 => (xs_n rfl ?_))
                · refine xs_iinc (q := 61) (ls2 := [_, _, _]) i_QU_first_58 rfl rfl rfl (xs_n rfl ?_)
                  refine xs_goto (q := 4) i_QU_first_61 rfl (xs_z rfl ?_)
                  exact ⟨(M c 3 - (i + 1)).toNat, by omega, Or.inr ⟨i + 1, x, rfl, rfl, rfl, rfl, ⟨⟨by omega, fun _ => h8⟩, am_ls hn (fun z => by omega) (by omega), (by rcases hx with ⟨e1, e2⟩ | ⟨e1, e2, e3, e4⟩; exact Or.inl ⟨e1, am_ls e2 (by omega) (by omega)⟩; exact Or.inr ⟨e1, by omega, e3, e4⟩)⟩, rfl⟩⟩
                · refine xs_iload_n (q := 52) i_QU_first_51 rfl rfl (xs_n rfl ?_)
                  refine xs_iconst (q := 53) i_QU_first_52 rfl (xs_n rfl ?_)
                  refine xs_ic_ne (q := 58) (r := 56) i_QU_first_53 rfl rfl ⟨by unfold am_R; omega, by unfold am_R; omega⟩ (fun h53 => (xs_n rfl ?_)) (fun h53 => (xs_n rfl ?_))
                  · refine xs_iinc (q := 61) (ls2 := [_, _, _]) i_QU_first_58 rfl rfl rfl (xs_n rfl ?_)
                    refine xs_goto (q := 4) i_QU_first_61 rfl (xs_z rfl ?_)
                    exact ⟨(M c 3 - (i + 1)).toNat, by omega, Or.inr ⟨i + 1, x, rfl, rfl, rfl, rfl, ⟨⟨by omega, fun _ => h8⟩, am_ls hn (fun z => by omega) (by omega), (by rcases hx with ⟨e1, e2⟩ | ⟨e1, e2, e3, e4⟩; exact absurd e1 h53; exact Or.inr ⟨e1, by omega, e3, e4⟩)⟩, rfl⟩⟩
                  · refine xs_iload_n (q := 57) i_QU_first_56 rfl rfl (xs_n rfl ?_)
                    refine xs_istore_n (q := 58) (ls2 := [_, _, _]) i_QU_first_57 rfl rfl rfl (xs_n rfl ?_)
                    refine xs_iinc (q := 61) (ls2 := [_, _, _]) i_QU_first_58 rfl rfl rfl (xs_n rfl ?_)
                    refine xs_goto (q := 4) i_QU_first_61 rfl (xs_z rfl ?_)
                    exact ⟨(M c 3 - (i + 1)).toNat, by omega, Or.inr ⟨i + 1, i, rfl, rfl, rfl, rfl, ⟨⟨by omega, fun _ => h8⟩, am_ls hn (fun z => by omega) (by omega), (by rcases hx with ⟨e1, e2⟩ | ⟨e1, e2, e3, e4⟩; exact Or.inr ⟨by omega, by omega, by omega, e2⟩; exact absurd h53 (by omega))⟩, rfl⟩⟩
              · refine xs_iload_n (q := 41) i_QU_first_40 rfl rfl (xs_n rfl ?_)
                refine xs_iret i_QU_first_41 ?_
                have e9 : am_fi (fun j => decide (0 < M (c + 1) j ∧ M 13 j ≠ 0)) (M c 3).toNat 0 = i.toNat := am_fi_eq _ _ 0 i.toNat (by omega) (by omega) (fun j _ hj => decide_eq_false (hn j (by omega))) (fun _ => decide_eq_true ⟨by omega, by omega⟩)
                exact xs_fin (by simp only [f_QU_first, qu_fst]; rw [if_neg (by omega), e9, if_pos (by omega)]; simp; omega) rfl trivial
    · exact h.elim
def P_QU_hardNeed : am_P := fun av M => match av with
  | [.inr (.inl c)] => qu_at c ∧ (0 ≤ M c 3 ∧ M c 3 ≤ 40) ∧ ∀ j, j < 40 → M 13 j = 0 ∨ M 13 j = 1
  | _ => False
def f_QU_hardNeed : am_Fr := fun av M => match av with
  | [.inr (.inl c)] => some (.inl (ma_su (fun j => if M 13 j = 0 then 0 else M (c + 1) j) (M c 3).toNat))
  | _ => none
abbrev g_QU_hardNeed : am_Fm := g_id
def inv_QU_hardNeed : List am_V → am_M → Nat → am_K := fun av M μ pc ls st M2 => match av with
  | [.inr (.inl c)] => (pc = 0 ∧ ls = am_l0 [.inr (.inl c)] 3 ∧ st = [] ∧ M = M2 ∧ μ = 100) ∨ ∃ i x : Int, pc = 4 ∧ ls = [some (.inr (.inl c)), some (.inl x), some (.inl i)] ∧ st = [] ∧ M = M2 ∧ ((0 ≤ i ∧ i ≤ M c 3) ∧ x = ma_su (fun j => if M 13 j = 0 then 0 else M (c + 1) j) i.toNat) ∧ μ = (M c 3 - i).toNat
  | _ => False
theorem m_QU_hardNeed (l : Launch) : am_MF l y_QU_hardNeed w_QU_hardNeed r_QU_hardNeed P_QU_hardNeed f_QU_hardNeed g_QU_hardNeed := by
  refine am_mkL (fun pc => pc == 4) i_QU_hardNeed_ok fd_QU_ok am_CC0 (plainFor_of_name (by decide +kernel)) (by decide) ?_ 40 inv_QU_hardNeed ?_ ?_
  · intro av M h
    unfold P_QU_hardNeed at h
    split at h
    · exact ⟨Nat.le_of_ble_eq_true rfl, rfl⟩
    · exact h.elim
  · intro av M h
    unfold P_QU_hardNeed at h
    split at h
    · exact ⟨_, Or.inl ⟨rfl, rfl, rfl, rfl, rfl⟩⟩
    · exact h.elim
  · intro av M h μ pc ls st M2 hi
    unfold P_QU_hardNeed at h
    split at h
    · rename_i c
      obtain ⟨⟨hc0, hc1, hc2, hcl, hcn⟩, h1, h4⟩ := h
      rcases hi with ⟨rfl, rfl, rfl, rfl, rfl⟩ | ⟨i, x, rfl, rfl, rfl, rfl, ⟨hi, hx⟩, rfl⟩
      · skip
        refine xs_iconst (q := 1) i_QU_hardNeed_0 rfl (xs_n rfl ?_)
        refine xs_istore_n (q := 2) (ls2 := [_, _, _]) i_QU_hardNeed_1 rfl rfl rfl (xs_n rfl ?_)
        refine xs_iconst (q := 3) i_QU_hardNeed_2 rfl (xs_n rfl ?_)
        refine xs_istore_n (q := 4) (ls2 := [_, _, _]) i_QU_hardNeed_3 rfl rfl rfl (xs_z rfl ?_)
        exact ⟨(M c 3).toNat, by omega, Or.inr ⟨0, 0, rfl, rfl, rfl, rfl, ⟨by omega, rfl⟩, by omega⟩⟩
      · skip
        refine xs_iload_n (q := 5) i_QU_hardNeed_4 rfl rfl (xs_n rfl ?_)
        refine xs_aload_n (q := 6) i_QU_hardNeed_5 rfl rfl (xs_n rfl ?_)
        refine xs_geti (q := 9) i_QU_hardNeed_6 rfl fd_QU_18 hc0 rfl (xs_n rfl ?_)
        refine xs_ic_ge (q := 39) (r := 12) i_QU_hardNeed_9 rfl rfl ⟨by unfold am_R; omega, by unfold am_R; omega⟩ (fun h9 => (xs_n rfl ?_)) (fun h9 => (xs_n rfl ?_))
        · refine xs_iload_n (q := 40) i_QU_hardNeed_39 rfl rfl (xs_n rfl ?_)
          refine xs_iret i_QU_hardNeed_40 ?_
          obtain rfl : i = M c 3 := by omega
          exact xs_fin (by simp only [f_QU_hardNeed]; rw [hx]) rfl trivial
        · refine xs_aload_n (q := 13) i_QU_hardNeed_12 rfl rfl (xs_n rfl ?_)
          refine xs_getr (q := 16) i_QU_hardNeed_13 rfl fd_QU_25 hc0 rfl (xs_n rfl ?_)
          refine xs_getr (q := 19) i_QU_hardNeed_16 rfl fd_QU_40 sg_10 rfl (xs_n rfl ?_)
          refine xs_iload_n (q := 20) i_QU_hardNeed_19 rfl rfl (xs_n rfl ?_)
          refine xs_baload (q := 21) i_QU_hardNeed_20 rfl sg_13 (by omega) (xs_n rfl ?_)
          refine xs_if_eq (q := 33) (r := 24) i_QU_hardNeed_21 rfl rfl (by have := h4 i.toNat (by omega); unfold am_R; omega) (fun h21 => (xs_n rfl ?_)) (fun h21 => (xs_n rfl ?_))
          · refine xs_iinc (q := 36) (ls2 := [_, _, _]) i_QU_hardNeed_33 rfl rfl rfl (xs_n rfl ?_)
            refine xs_goto (q := 4) i_QU_hardNeed_36 rfl (xs_z rfl ?_)
            exact ⟨(M c 3 - (i + 1)).toNat, by omega, Or.inr ⟨i + 1, _, rfl, rfl, rfl, rfl, ⟨by omega, by rw [hx, show (i + 1).toNat = i.toNat + 1 by omega]; simp only [ma_su]; rw [if_pos h21]; omega⟩, rfl⟩⟩
          · refine xs_iload_n (q := 25) i_QU_hardNeed_24 rfl rfl (xs_n rfl ?_)
            refine xs_aload_n (q := 26) i_QU_hardNeed_25 rfl rfl (xs_n rfl ?_)
            refine xs_getr (q := 29) i_QU_hardNeed_26 rfl fd_QU_9 hc0 rfl (xs_n rfl ?_)
            refine xs_iload_n (q := 30) i_QU_hardNeed_29 rfl rfl (xs_n rfl ?_)
            refine xs_iaload (q := 31) i_QU_hardNeed_30 rfl hc1 (am_ns (by omega)) (by omega) (xs_n rfl ?_)
            refine xs_iadd (q := 32) i_QU_hardNeed_31 rfl (xs_n rfl ?_)
            refine xs_istore_n (q := 33) (ls2 := [_, _, _]) i_QU_hardNeed_32 rfl rfl rfl (xs_n rfl ?_)
            refine xs_iinc (q := 36) (ls2 := [_, _, _]) i_QU_hardNeed_33 rfl rfl rfl (xs_n rfl ?_)
            refine xs_goto (q := 4) i_QU_hardNeed_36 rfl (xs_z rfl ?_)
            exact ⟨(M c 3 - (i + 1)).toNat, by omega, Or.inr ⟨i + 1, _, rfl, rfl, rfl, rfl, ⟨by omega, by rw [hx, show (i + 1).toNat = i.toNat + 1 by omega]; simp only [ma_su]; rw [if_neg h21]⟩, rfl⟩⟩
    · exact h.elim
