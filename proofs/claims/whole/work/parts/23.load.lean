/-! contracts: Load (wip/whole/p23.py) -/
theorem am_ls {p : Nat → Prop} {i : Int} (h : ∀ j : Nat, (j : Int) < i → p j) (hi : p i.toNat) (h0 : 0 ≤ i) : ∀ j : Nat, (j : Int) < i + 1 → p j := by
  intro j hj
  by_cases e : (j : Int) = i
  · rw [show j = i.toNat by omega]
    exact hi
  · exact h j (by omega)
def h_LO_begin (b : Nat) (M : am_M) : Nat → Nat → Int := fun k j => if k = b + 1 then M 3 j else if k = b + 2 then M 4 j else if k = b + 3 then 0 else if k = b + 4 then 0 else M k j
def P_LO_begin : am_P := fun av M => match av with
  | [.inr (.inl b)] => lo_at b ∧ (0 ≤ M 1 5 ∧ M 1 5 ≤ 5)
  | _ => False
def f_LO_begin : am_Fr := fun av M => match av with
  | [.inr (.inl b)] => none
  | _ => none
def g_LO_begin : am_Fm := fun av M => match av with
  | [.inr (.inl b)] => am_col M (M 1 5).toNat (h_LO_begin b M)
  | _ => M
def inv_LO_begin : List am_V → am_M → Nat → am_K := fun av M μ pc ls st M2 => match av with
  | [.inr (.inl b)] => (pc = 0 ∧ ls = am_l0 [.inr (.inl b)] 2 ∧ st = [] ∧ M = M2 ∧ μ = 100) ∨ ∃ i : Int, pc = 2 ∧ ls = [some (.inr (.inl b)), some (.inl i)] ∧ st = [] ∧ M2 = am_col M i.toNat (h_LO_begin b M) ∧ (0 ≤ i ∧ i ≤ M 1 5) ∧ μ = (M 1 5 - i).toNat
  | _ => False
theorem m_LO_begin (l : Launch) : am_MF l y_LO_begin w_LO_begin r_LO_begin P_LO_begin f_LO_begin g_LO_begin := by
  refine am_mkL (fun pc => pc == 2) i_LO_begin_ok fd_LO_ok am_CC0 (plainFor_of_name (by decide +kernel)) (by decide) ?_ 60 inv_LO_begin ?_ ?_
  · intro av M h
    unfold P_LO_begin at h
    split at h
    · exact ⟨Nat.le_of_ble_eq_true rfl, rfl⟩
    · exact h.elim
  · intro av M h
    unfold P_LO_begin at h
    split at h
    · exact ⟨_, Or.inl ⟨rfl, rfl, rfl, rfl, rfl⟩⟩
    · exact h.elim
  · intro av M h μ pc ls st M2 hi
    unfold P_LO_begin at h
    split at h
    · rename_i b
      obtain ⟨⟨hb0, hb1, hb2, hb3, hb4, hbl, hbn⟩, h1⟩ := h
      rcases hi with ⟨rfl, rfl, rfl, rfl, rfl⟩ | ⟨i, rfl, rfl, rfl, hM, hi, rfl⟩
      · skip
        refine xs_iconst (q := 1) i_LO_begin_0 rfl (xs_n rfl ?_)
        refine xs_istore_n (q := 2) (ls2 := [_, _]) i_LO_begin_1 rfl rfl rfl (xs_z rfl ?_)
        exact ⟨(M 1 5).toNat, by omega, Or.inr ⟨0, rfl, rfl, rfl, (am_col_0 _ _).symm, by omega, by omega⟩⟩
      · skip
        have e0 : M2 1 5 = M 1 5 := by rw [hM]; exact am_col_k (by simp only [h_LO_begin]; (repeat' split) <;> (first | rfl | omega))
        have ec : ∀ q, M2 q i.toNat = M q i.toNat := fun q => by rw [hM]; exact am_col_ge (Nat.le_refl _)
        refine xs_iload_n (q := 3) i_LO_begin_2 rfl rfl (xs_n rfl ?_)
        refine xs_aload_n (q := 4) i_LO_begin_3 rfl rfl (xs_n rfl ?_)
        refine xs_getr (q := 7) i_LO_begin_4 rfl fd_LO_24 hb0 rfl (xs_n rfl ?_)
        refine xs_geti (q := 10) i_LO_begin_7 rfl fd_LO_28 sg_1 rfl (xs_n rfl ?_)
        refine xs_ic_ge (q := 63) (r := 13) i_LO_begin_10 rfl rfl ⟨by unfold am_R; omega, by unfold am_R; omega⟩ (fun h10 => (xs_n rfl ?_)) (fun h10 => (xs_n rfl ?_))
        · refine xs_ret i_LO_begin_63 ?_
          obtain rfl : i = M 1 5 := by omega
          exact xs_fin rfl hM.symm trivial
        · refine xs_aload_n (q := 14) i_LO_begin_13 rfl rfl (xs_n rfl ?_)
          refine xs_getr (q := 17) i_LO_begin_14 rfl fd_LO_9 hb0 rfl (xs_n rfl ?_)
          refine xs_iload_n (q := 18) i_LO_begin_17 rfl rfl (xs_n rfl ?_)
          refine xs_aload_n (q := 19) i_LO_begin_18 rfl rfl (xs_n rfl ?_)
          refine xs_getr (q := 22) i_LO_begin_19 rfl fd_LO_24 hb0 rfl (xs_n rfl ?_)
          refine xs_getr (q := 25) i_LO_begin_22 rfl fd_LO_34 sg_1 rfl (xs_n rfl ?_)
          refine xs_iload_n (q := 26) i_LO_begin_25 rfl rfl (xs_n rfl ?_)
          refine xs_iaload (q := 27) i_LO_begin_26 rfl sg_3 rfl (by omega) (xs_n rfl ?_)
          refine xs_iastore (q := 28) i_LO_begin_27 rfl hb1 (by omega) (xs_n rfl ?_)
          refine xs_aload_n (q := 29) i_LO_begin_28 rfl rfl (xs_n rfl ?_)
          refine xs_getr (q := 32) i_LO_begin_29 rfl fd_LO_15 hb0 rfl (xs_n rfl ?_)
          refine xs_iload_n (q := 33) i_LO_begin_32 rfl rfl (xs_n rfl ?_)
          refine xs_aload_n (q := 34) i_LO_begin_33 rfl rfl (xs_n rfl ?_)
          refine xs_getr (q := 37) i_LO_begin_34 rfl fd_LO_24 hb0 rfl (xs_n rfl ?_)
          refine xs_getr (q := 40) i_LO_begin_37 rfl fd_LO_37 sg_1 rfl (xs_n rfl ?_)
          refine xs_iload_n (q := 41) i_LO_begin_40 rfl rfl (xs_n rfl ?_)
          refine xs_iaload (q := 42) i_LO_begin_41 rfl sg_4 rfl (by omega) (xs_n rfl ?_)
          refine xs_iastore (q := 43) i_LO_begin_42 rfl hb2 (by omega) (xs_n rfl ?_)
          refine xs_aload_n (q := 44) i_LO_begin_43 rfl rfl (xs_n rfl ?_)
          refine xs_getr (q := 47) i_LO_begin_44 rfl fd_LO_18 hb0 rfl (xs_n rfl ?_)
          refine xs_iload_n (q := 48) i_LO_begin_47 rfl rfl (xs_n rfl ?_)
          refine xs_iconst (q := 49) i_LO_begin_48 rfl (xs_n rfl ?_)
          refine xs_iastore (q := 50) i_LO_begin_49 rfl hb3 (by omega) (xs_n rfl ?_)
          refine xs_aload_n (q := 51) i_LO_begin_50 rfl rfl (xs_n rfl ?_)
          refine xs_getr (q := 54) i_LO_begin_51 rfl fd_LO_21 hb0 rfl (xs_n rfl ?_)
          refine xs_iload_n (q := 55) i_LO_begin_54 rfl rfl (xs_n rfl ?_)
          refine xs_iconst (q := 56) i_LO_begin_55 rfl (xs_n rfl ?_)
          refine xs_iastore (q := 57) i_LO_begin_56 rfl hb4 (by omega) (xs_n rfl ?_)
          refine xs_iinc (q := 60) (ls2 := [_, _]) i_LO_begin_57 rfl rfl rfl (xs_n rfl ?_)
          refine xs_goto (q := 2) i_LO_begin_60 rfl (xs_z rfl ?_)
          refine ⟨(M 1 5 - (i + 1)).toNat, by omega, Or.inr ⟨i + 1, rfl, rfl, rfl, ?_, by omega, rfl⟩⟩
          rw [show (i + 1).toNat = i.toNat + 1 by omega]
          refine am_col_s hM (fun q => ?_) (fun q j hj => ?_)
          · simp only [am_up, ec, h_LO_begin, and_true]
            all_goals ((repeat' split) <;> (first | rfl | omega))
          · simp only [am_up]
            all_goals ((repeat' split) <;> (first | rfl | omega))
    · exact h.elim
def h_LO_copy (b c : Nat) (M : am_M) : Nat → Nat → Int := fun k j => if k = b + 1 then M (c + 1) j else if k = b + 2 then M (c + 2) j else if k = b + 3 then M (c + 3) j else if k = b + 4 then M (c + 4) j else M k j
def P_LO_copy : am_P := fun av M => match av with
  | [.inr (.inl b), .inr (.inl c)] => lo_at b ∧ lo_at c ∧ (b + 4 < c ∨ c + 4 < b) ∧ (0 ≤ M 1 5 ∧ M 1 5 ≤ 5)
  | _ => False
def f_LO_copy : am_Fr := fun av M => match av with
  | [.inr (.inl b), .inr (.inl c)] => none
  | _ => none
def g_LO_copy : am_Fm := fun av M => match av with
  | [.inr (.inl b), .inr (.inl c)] => am_col M (M 1 5).toNat (h_LO_copy b c M)
  | _ => M
def inv_LO_copy : List am_V → am_M → Nat → am_K := fun av M μ pc ls st M2 => match av with
  | [.inr (.inl b), .inr (.inl c)] => (pc = 0 ∧ ls = am_l0 [.inr (.inl b), .inr (.inl c)] 3 ∧ st = [] ∧ M = M2 ∧ μ = 100) ∨ ∃ i : Int, pc = 2 ∧ ls = [some (.inr (.inl b)), some (.inr (.inl c)), some (.inl i)] ∧ st = [] ∧ M2 = am_col M i.toNat (h_LO_copy b c M) ∧ (0 ≤ i ∧ i ≤ M 1 5) ∧ μ = (M 1 5 - i).toNat
  | _ => False
theorem m_LO_copy (l : Launch) : am_MF l y_LO_copy w_LO_copy r_LO_copy P_LO_copy f_LO_copy g_LO_copy := by
  refine am_mkL (fun pc => pc == 2) i_LO_copy_ok fd_LO_ok am_CC0 (plainFor_of_name (by decide +kernel)) (by decide) ?_ 60 inv_LO_copy ?_ ?_
  · intro av M h
    unfold P_LO_copy at h
    split at h
    · exact ⟨Nat.le_of_ble_eq_true rfl, rfl⟩
    · exact h.elim
  · intro av M h
    unfold P_LO_copy at h
    split at h
    · exact ⟨_, Or.inl ⟨rfl, rfl, rfl, rfl, rfl⟩⟩
    · exact h.elim
  · intro av M h μ pc ls st M2 hi
    unfold P_LO_copy at h
    split at h
    · rename_i b c
      obtain ⟨⟨hb0, hb1, hb2, hb3, hb4, hbl, hbn⟩, ⟨hc0, hc1, hc2, hc3, hc4, hcl, hcn⟩, hbc, h1⟩ := h
      rcases hi with ⟨rfl, rfl, rfl, rfl, rfl⟩ | ⟨i, rfl, rfl, rfl, hM, hi, rfl⟩
      · skip
        refine xs_iconst (q := 1) i_LO_copy_0 rfl (xs_n rfl ?_)
        refine xs_istore_n (q := 2) (ls2 := [_, _, _]) i_LO_copy_1 rfl rfl rfl (xs_z rfl ?_)
        exact ⟨(M 1 5).toNat, by omega, Or.inr ⟨0, rfl, rfl, rfl, (am_col_0 _ _).symm, by omega, by omega⟩⟩
      · skip
        have e0 : M2 1 5 = M 1 5 := by rw [hM]; exact am_col_k (by simp only [h_LO_copy]; (repeat' split) <;> (first | rfl | omega))
        have ec : ∀ q, M2 q i.toNat = M q i.toNat := fun q => by rw [hM]; exact am_col_ge (Nat.le_refl _)
        refine xs_iload_n (q := 3) i_LO_copy_2 rfl rfl (xs_n rfl ?_)
        refine xs_aload_n (q := 4) i_LO_copy_3 rfl rfl (xs_n rfl ?_)
        refine xs_getr (q := 7) i_LO_copy_4 rfl fd_LO_24 hb0 rfl (xs_n rfl ?_)
        refine xs_geti (q := 10) i_LO_copy_7 rfl fd_LO_28 sg_1 rfl (xs_n rfl ?_)
        refine xs_ic_ge (q := 67) (r := 13) i_LO_copy_10 rfl rfl ⟨by unfold am_R; omega, by unfold am_R; omega⟩ (fun h10 => (xs_n rfl ?_)) (fun h10 => (xs_n rfl ?_))
        · refine xs_ret i_LO_copy_67 ?_
          obtain rfl : i = M 1 5 := by omega
          exact xs_fin rfl hM.symm trivial
        · refine xs_aload_n (q := 14) i_LO_copy_13 rfl rfl (xs_n rfl ?_)
          refine xs_getr (q := 17) i_LO_copy_14 rfl fd_LO_9 hb0 rfl (xs_n rfl ?_)
          refine xs_iload_n (q := 18) i_LO_copy_17 rfl rfl (xs_n rfl ?_)
          refine xs_aload_n (q := 19) i_LO_copy_18 rfl rfl (xs_n rfl ?_)
          refine xs_getr (q := 22) i_LO_copy_19 rfl fd_LO_9 hc0 rfl (xs_n rfl ?_)
          refine xs_iload_n (q := 23) i_LO_copy_22 rfl rfl (xs_n rfl ?_)
          refine xs_iaload (q := 24) i_LO_copy_23 rfl hc1 (am_ns (by omega)) (by omega) (xs_n rfl ?_)
          refine xs_iastore (q := 25) i_LO_copy_24 rfl hb1 (by omega) (xs_n rfl ?_)
          refine xs_aload_n (q := 26) i_LO_copy_25 rfl rfl (xs_n rfl ?_)
          refine xs_getr (q := 29) i_LO_copy_26 rfl fd_LO_15 hb0 rfl (xs_n rfl ?_)
          refine xs_iload_n (q := 30) i_LO_copy_29 rfl rfl (xs_n rfl ?_)
          refine xs_aload_n (q := 31) i_LO_copy_30 rfl rfl (xs_n rfl ?_)
          refine xs_getr (q := 34) i_LO_copy_31 rfl fd_LO_15 hc0 rfl (xs_n rfl ?_)
          refine xs_iload_n (q := 35) i_LO_copy_34 rfl rfl (xs_n rfl ?_)
          refine xs_iaload (q := 36) i_LO_copy_35 rfl hc2 (am_ns (by omega)) (by omega) (xs_n rfl ?_)
          refine xs_iastore (q := 37) i_LO_copy_36 rfl hb2 (by omega) (xs_n rfl ?_)
          refine xs_aload_n (q := 38) i_LO_copy_37 rfl rfl (xs_n rfl ?_)
          refine xs_getr (q := 41) i_LO_copy_38 rfl fd_LO_18 hb0 rfl (xs_n rfl ?_)
          refine xs_iload_n (q := 42) i_LO_copy_41 rfl rfl (xs_n rfl ?_)
          refine xs_aload_n (q := 43) i_LO_copy_42 rfl rfl (xs_n rfl ?_)
          refine xs_getr (q := 46) i_LO_copy_43 rfl fd_LO_18 hc0 rfl (xs_n rfl ?_)
          refine xs_iload_n (q := 47) i_LO_copy_46 rfl rfl (xs_n rfl ?_)
          refine xs_iaload (q := 48) i_LO_copy_47 rfl hc3 (am_ns (by omega)) (by omega) (xs_n rfl ?_)
          refine xs_iastore (q := 49) i_LO_copy_48 rfl hb3 (by omega) (xs_n rfl ?_)
          refine xs_aload_n (q := 50) i_LO_copy_49 rfl rfl (xs_n rfl ?_)
          refine xs_getr (q := 53) i_LO_copy_50 rfl fd_LO_21 hb0 rfl (xs_n rfl ?_)
          refine xs_iload_n (q := 54) i_LO_copy_53 rfl rfl (xs_n rfl ?_)
          refine xs_aload_n (q := 55) i_LO_copy_54 rfl rfl (xs_n rfl ?_)
          refine xs_getr (q := 58) i_LO_copy_55 rfl fd_LO_21 hc0 rfl (xs_n rfl ?_)
          refine xs_iload_n (q := 59) i_LO_copy_58 rfl rfl (xs_n rfl ?_)
          refine xs_iaload (q := 60) i_LO_copy_59 rfl hc4 (am_ns (by omega)) (by omega) (xs_n rfl ?_)
          refine xs_iastore (q := 61) i_LO_copy_60 rfl hb4 (by omega) (xs_n rfl ?_)
          refine xs_iinc (q := 64) (ls2 := [_, _, _]) i_LO_copy_61 rfl rfl rfl (xs_n rfl ?_)
          refine xs_goto (q := 2) i_LO_copy_64 rfl (xs_z rfl ?_)
          refine ⟨(M 1 5 - (i + 1)).toNat, by omega, Or.inr ⟨i + 1, rfl, rfl, rfl, ?_, by omega, rfl⟩⟩
          rw [show (i + 1).toNat = i.toNat + 1 by omega]
          refine am_col_s hM (fun q => ?_) (fun q j hj => ?_)
          · simp only [am_up, ec, h_LO_copy, and_true]
            all_goals ((repeat' split) <;> (first | rfl | omega))
          · simp only [am_up]
            all_goals ((repeat' split) <;> (first | rfl | omega))
    · exact h.elim
def h_LO_makeReady (b : Nat) (m : Int) (M : am_M) : Nat → Nat → Int := fun k j => if M (b + 1) j = m then (if k = b + 1 then m + M 2 j else if k = b + 2 then M 4 j else if k = b + 3 then M (b + 3) j + M (b + 2) j else if k = b + 4 then m + M 5 j else M k j) else M k j
def P_LO_makeReady : am_P := fun av M => match av with
  | [.inr (.inl b), .inl m] => lo_at b ∧ (0 ≤ M 1 5 ∧ M 1 5 ≤ 5) ∧ am_R m ∧ ∀ j, j < 5 → am_R (M (b + 1) j)
  | _ => False
def f_LO_makeReady : am_Fr := fun av M => match av with
  | [.inr (.inl b), .inl m] => none
  | _ => none
def g_LO_makeReady : am_Fm := fun av M => match av with
  | [.inr (.inl b), .inl m] => am_col M (M 1 5).toNat (h_LO_makeReady b m M)
  | _ => M
def inv_LO_makeReady : List am_V → am_M → Nat → am_K := fun av M μ pc ls st M2 => match av with
  | [.inr (.inl b), .inl m] => (pc = 0 ∧ ls = am_l0 [.inr (.inl b), .inl m] 3 ∧ st = [] ∧ M = M2 ∧ μ = 100) ∨ ∃ i : Int, pc = 2 ∧ ls = [some (.inr (.inl b)), some (.inl m), some (.inl i)] ∧ st = [] ∧ M2 = am_col M i.toNat (h_LO_makeReady b m M) ∧ (0 ≤ i ∧ i ≤ M 1 5) ∧ μ = (M 1 5 - i).toNat
  | _ => False
theorem m_LO_makeReady (l : Launch) : am_MF l y_LO_makeReady w_LO_makeReady r_LO_makeReady P_LO_makeReady f_LO_makeReady g_LO_makeReady := by
  refine am_mkL (fun pc => pc == 2) i_LO_makeReady_ok fd_LO_ok am_CC0 (plainFor_of_name (by decide +kernel)) (by decide) ?_ 90 inv_LO_makeReady ?_ ?_
  · intro av M h
    unfold P_LO_makeReady at h
    split at h
    · exact ⟨Nat.le_of_ble_eq_true rfl, rfl⟩
    · exact h.elim
  · intro av M h
    unfold P_LO_makeReady at h
    split at h
    · exact ⟨_, Or.inl ⟨rfl, rfl, rfl, rfl, rfl⟩⟩
    · exact h.elim
  · intro av M h μ pc ls st M2 hi
    unfold P_LO_makeReady at h
    split at h
    · rename_i b m
      obtain ⟨⟨hb0, hb1, hb2, hb3, hb4, hbl, hbn⟩, h1, h2, h3⟩ := h
      rcases hi with ⟨rfl, rfl, rfl, rfl, rfl⟩ | ⟨i, rfl, rfl, rfl, hM, hi, rfl⟩
      · skip
        refine xs_iconst (q := 1) i_LO_makeReady_0 rfl (xs_n rfl ?_)
        refine xs_istore_n (q := 2) (ls2 := [_, _, _]) i_LO_makeReady_1 rfl rfl rfl (xs_z rfl ?_)
        exact ⟨(M 1 5).toNat, by omega, Or.inr ⟨0, rfl, rfl, rfl, (am_col_0 _ _).symm, by omega, by omega⟩⟩
      · skip
        have e0 : M2 1 5 = M 1 5 := by rw [hM]; exact am_col_k (by simp only [h_LO_makeReady]; (repeat' split) <;> (first | rfl | omega))
        have ec : ∀ q, M2 q i.toNat = M q i.toNat := fun q => by rw [hM]; exact am_col_ge (Nat.le_refl _)
        refine xs_iload_n (q := 3) i_LO_makeReady_2 rfl rfl (xs_n rfl ?_)
        refine xs_aload_n (q := 4) i_LO_makeReady_3 rfl rfl (xs_n rfl ?_)
        refine xs_getr (q := 7) i_LO_makeReady_4 rfl fd_LO_24 hb0 rfl (xs_n rfl ?_)
        refine xs_geti (q := 10) i_LO_makeReady_7 rfl fd_LO_28 sg_1 rfl (xs_n rfl ?_)
        refine xs_ic_ge (q := 93) (r := 13) i_LO_makeReady_10 rfl rfl ⟨by unfold am_R; omega, by unfold am_R; omega⟩ (fun h10 => (xs_n rfl ?_)) (fun h10 => (xs_n rfl ?_))
        · refine xs_ret i_LO_makeReady_93 ?_
          obtain rfl : i = M 1 5 := by omega
          exact xs_fin rfl hM.symm trivial
        · refine xs_aload_n (q := 14) i_LO_makeReady_13 rfl rfl (xs_n rfl ?_)
          refine xs_getr (q := 17) i_LO_makeReady_14 rfl fd_LO_9 hb0 rfl (xs_n rfl ?_)
          refine xs_iload_n (q := 18) i_LO_makeReady_17 rfl rfl (xs_n rfl ?_)
          refine xs_iaload (q := 19) i_LO_makeReady_18 rfl hb1 (am_ns (by omega)) (by omega) (xs_n rfl ?_)
          refine xs_iload_n (q := 20) i_LO_makeReady_19 rfl rfl (xs_n rfl ?_)
          refine xs_ic_ne (q := 87) (r := 23) i_LO_makeReady_20 rfl rfl ⟨by rw [ec]; exact h3 _ (by omega), h2⟩ (fun h20 => (xs_n rfl ?_)) (fun h20 => (xs_n rfl ?_))
          · refine xs_iinc (q := 90) (ls2 := [_, _, _]) i_LO_makeReady_87 rfl rfl rfl (xs_n rfl ?_)
            refine xs_goto (q := 2) i_LO_makeReady_90 rfl (xs_z rfl ?_)
            rw [ec] at h20
            refine ⟨(M 1 5 - (i + 1)).toNat, by omega, Or.inr ⟨i + 1, rfl, rfl, rfl, ?_, by omega, rfl⟩⟩
            rw [show (i + 1).toNat = i.toNat + 1 by omega]
            refine am_col_s hM (fun q => ?_) (fun q j hj => ?_)
            · simp only [am_up, ec, h_LO_makeReady, and_true]
              all_goals ((repeat' split) <;> (first | rfl | omega))
            · simp only [am_up]
              all_goals ((repeat' split) <;> (first | rfl | omega))
          · refine xs_aload_n (q := 24) i_LO_makeReady_23 rfl rfl (xs_n rfl ?_)
            refine xs_getr (q := 27) i_LO_makeReady_24 rfl fd_LO_18 hb0 rfl (xs_n rfl ?_)
            refine xs_iload_n (q := 28) i_LO_makeReady_27 rfl rfl (xs_n rfl ?_)
            refine xs_dup2 (q := 29) i_LO_makeReady_28 rfl (xs_n rfl ?_)
            refine xs_iaload (q := 30) i_LO_makeReady_29 rfl hb3 (am_ns (by omega)) (by omega) (xs_n rfl ?_)
            refine xs_aload_n (q := 31) i_LO_makeReady_30 rfl rfl (xs_n rfl ?_)
            refine xs_getr (q := 34) i_LO_makeReady_31 rfl fd_LO_15 hb0 rfl (xs_n rfl ?_)
            refine xs_iload_n (q := 35) i_LO_makeReady_34 rfl rfl (xs_n rfl ?_)
            refine xs_iaload (q := 36) i_LO_makeReady_35 rfl hb2 (am_ns (by omega)) (by omega) (xs_n rfl ?_)
            refine xs_iadd (q := 37) i_LO_makeReady_36 rfl (xs_n rfl ?_)
            refine xs_iastore (q := 38) i_LO_makeReady_37 rfl hb3 (by omega) (xs_n rfl ?_)
            refine xs_aload_n (q := 39) i_LO_makeReady_38 rfl rfl (xs_n rfl ?_)
            refine xs_getr (q := 42) i_LO_makeReady_39 rfl fd_LO_21 hb0 rfl (xs_n rfl ?_)
            refine xs_iload_n (q := 43) i_LO_makeReady_42 rfl rfl (xs_n rfl ?_)
            refine xs_iload_n (q := 44) i_LO_makeReady_43 rfl rfl (xs_n rfl ?_)
            refine xs_aload_n (q := 45) i_LO_makeReady_44 rfl rfl (xs_n rfl ?_)
            refine xs_getr (q := 48) i_LO_makeReady_45 rfl fd_LO_24 hb0 rfl (xs_n rfl ?_)
            refine xs_getr (q := 51) i_LO_makeReady_48 rfl fd_LO_50 sg_1 rfl (xs_n rfl ?_)
            refine xs_iload_n (q := 52) i_LO_makeReady_51 rfl rfl (xs_n rfl ?_)
            refine xs_iaload (q := 53) i_LO_makeReady_52 rfl sg_5 rfl (by omega) (xs_n rfl ?_)
            refine xs_iadd (q := 54) i_LO_makeReady_53 rfl (xs_n rfl ?_)
            refine xs_iastore (q := 55) i_LO_makeReady_54 rfl hb4 (by omega) (xs_n rfl ?_)
            refine xs_aload_n (q := 56) i_LO_makeReady_55 rfl rfl (xs_n rfl ?_)
            refine xs_getr (q := 59) i_LO_makeReady_56 rfl fd_LO_9 hb0 rfl (xs_n rfl ?_)
            refine xs_iload_n (q := 60) i_LO_makeReady_59 rfl rfl (xs_n rfl ?_)
            refine xs_iload_n (q := 61) i_LO_makeReady_60 rfl rfl (xs_n rfl ?_)
            refine xs_aload_n (q := 62) i_LO_makeReady_61 rfl rfl (xs_n rfl ?_)
            refine xs_getr (q := 65) i_LO_makeReady_62 rfl fd_LO_24 hb0 rfl (xs_n rfl ?_)
            refine xs_getr (q := 68) i_LO_makeReady_65 rfl fd_LO_53 sg_1 rfl (xs_n rfl ?_)
            refine xs_iload_n (q := 69) i_LO_makeReady_68 rfl rfl (xs_n rfl ?_)
            refine xs_iaload (q := 70) i_LO_makeReady_69 rfl sg_2 rfl (by omega) (xs_n rfl ?_)
            refine xs_iadd (q := 71) i_LO_makeReady_70 rfl (xs_n rfl ?_)
            refine xs_iastore (q := 72) i_LO_makeReady_71 rfl hb1 (by omega) (xs_n rfl ?_)
            refine xs_aload_n (q := 73) i_LO_makeReady_72 rfl rfl (xs_n rfl ?_)
            refine xs_getr (q := 76) i_LO_makeReady_73 rfl fd_LO_15 hb0 rfl (xs_n rfl ?_)
            refine xs_iload_n (q := 77) i_LO_makeReady_76 rfl rfl (xs_n rfl ?_)
            refine xs_aload_n (q := 78) i_LO_makeReady_77 rfl rfl (xs_n rfl ?_)
            refine xs_getr (q := 81) i_LO_makeReady_78 rfl fd_LO_24 hb0 rfl (xs_n rfl ?_)
            refine xs_getr (q := 84) i_LO_makeReady_81 rfl fd_LO_37 sg_1 rfl (xs_n rfl ?_)
            refine xs_iload_n (q := 85) i_LO_makeReady_84 rfl rfl (xs_n rfl ?_)
            refine xs_iaload (q := 86) i_LO_makeReady_85 rfl sg_4 rfl (by omega) (xs_n rfl ?_)
            refine xs_iastore (q := 87) i_LO_makeReady_86 rfl hb2 (by omega) (xs_n rfl ?_)
            refine xs_iinc (q := 90) (ls2 := [_, _, _]) i_LO_makeReady_87 rfl rfl rfl (xs_n rfl ?_)
            refine xs_goto (q := 2) i_LO_makeReady_90 rfl (xs_z rfl ?_)
            rw [ec] at h20
            refine ⟨(M 1 5 - (i + 1)).toNat, by omega, Or.inr ⟨i + 1, rfl, rfl, rfl, ?_, by omega, rfl⟩⟩
            rw [show (i + 1).toNat = i.toNat + 1 by omega]
            refine am_col_s hM (fun q => ?_) (fun q j hj => ?_)
            · simp only [am_up, ec, h_LO_makeReady, and_true]
              all_goals ((repeat' split) <;> (first | rfl | omega))
            · simp only [am_up]
              all_goals ((repeat' split) <;> (first | rfl | omega))
    · exact h.elim
def P_LO_readyRank : am_P := fun av M => match av with
  | [.inr (.inl b)] => lo_at b ∧ ts_ok M ∧ ∀ j, j < 5 → am_R (M (b + 3) j)
  | _ => False
def f_LO_readyRank : am_Fr := fun av M => match av with
  | [.inr (.inl b)] => some (.inl ((am_fi (fun r => decide (0 < M (b + 3) (M 6 r).toNat)) (M 1 5).toNat 0 : Nat) : Int))
  | _ => none
abbrev g_LO_readyRank : am_Fm := g_id
def inv_LO_readyRank : List am_V → am_M → Nat → am_K := fun av M μ pc ls st M2 => match av with
  | [.inr (.inl b)] => (pc = 0 ∧ ls = am_l0 [.inr (.inl b)] 2 ∧ st = [] ∧ M = M2 ∧ μ = 100) ∨ ∃ i : Int, pc = 2 ∧ ls = [some (.inr (.inl b)), some (.inl i)] ∧ st = [] ∧ M = M2 ∧ ((0 ≤ i ∧ i ≤ M 1 5) ∧ ∀ j : Nat, (j : Int) < i → ¬ 0 < M (b + 3) (M 6 j).toNat) ∧ μ = (M 1 5 - i).toNat
  | _ => False
theorem m_LO_readyRank (l : Launch) : am_MF l y_LO_readyRank w_LO_readyRank r_LO_readyRank P_LO_readyRank f_LO_readyRank g_LO_readyRank := by
  refine am_mkL (fun pc => pc == 2) i_LO_readyRank_ok fd_LO_ok am_CC0 (plainFor_of_name (by decide +kernel)) (by decide) ?_ 40 inv_LO_readyRank ?_ ?_
  · intro av M h
    unfold P_LO_readyRank at h
    split at h
    · exact ⟨Nat.le_of_ble_eq_true rfl, rfl⟩
    · exact h.elim
  · intro av M h
    unfold P_LO_readyRank at h
    split at h
    · exact ⟨_, Or.inl ⟨rfl, rfl, rfl, rfl, rfl⟩⟩
    · exact h.elim
  · intro av M h μ pc ls st M2 hi
    unfold P_LO_readyRank at h
    split at h
    · rename_i b
      obtain ⟨⟨hb0, hb1, hb2, hb3, hb4, hbl, hbn⟩, ⟨h1, h4⟩, h3⟩ := h
      rcases hi with ⟨rfl, rfl, rfl, rfl, rfl⟩ | ⟨i, rfl, rfl, rfl, rfl, ⟨hi, hn⟩, rfl⟩
      · skip
        refine xs_iconst (q := 1) i_LO_readyRank_0 rfl (xs_n rfl ?_)
        refine xs_istore_n (q := 2) (ls2 := [_, _]) i_LO_readyRank_1 rfl rfl rfl (xs_z rfl ?_)
        exact ⟨(M 1 5).toNat, by omega, Or.inr ⟨0, rfl, rfl, rfl, rfl, ⟨by omega, fun j hj => by omega⟩, by omega⟩⟩
      · skip
        refine xs_iload_n (q := 3) i_LO_readyRank_2 rfl rfl (xs_n rfl ?_)
        refine xs_aload_n (q := 4) i_LO_readyRank_3 rfl rfl (xs_n rfl ?_)
        refine xs_getr (q := 7) i_LO_readyRank_4 rfl fd_LO_24 hb0 rfl (xs_n rfl ?_)
        refine xs_geti (q := 10) i_LO_readyRank_7 rfl fd_LO_28 sg_1 rfl (xs_n rfl ?_)
        refine xs_ic_ge (q := 38) (r := 13) i_LO_readyRank_10 rfl rfl ⟨by unfold am_R; omega, by unfold am_R; omega⟩ (fun h10 => (xs_n rfl ?_)) (fun h10 => (xs_n rfl ?_))
        · refine xs_aload_n (q := 39) i_LO_readyRank_38 rfl rfl (xs_n rfl ?_)
          refine xs_getr (q := 42) i_LO_readyRank_39 rfl fd_LO_24 hb0 rfl (xs_n rfl ?_)
          refine xs_geti (q := 45) i_LO_readyRank_42 rfl fd_LO_28 sg_1 rfl (xs_n rfl ?_)
          refine xs_iret i_LO_readyRank_45 ?_
          exact xs_fin (by simp only [f_LO_readyRank]; rw [am_fi_eq _ _ 0 (M 1 5).toNat (by omega) (by omega) (fun j _ hj => decide_eq_false (hn j (by omega))) (fun z => by omega)]; simp; omega) rfl trivial
        · have hq := (h4 i.toNat (by omega)).1
          refine xs_aload_n (q := 14) i_LO_readyRank_13 rfl rfl (xs_n rfl ?_)
          refine xs_getr (q := 17) i_LO_readyRank_14 rfl fd_LO_18 hb0 rfl (xs_n rfl ?_)
          refine xs_aload_n (q := 18) i_LO_readyRank_17 rfl rfl (xs_n rfl ?_)
          refine xs_getr (q := 21) i_LO_readyRank_18 rfl fd_LO_24 hb0 rfl (xs_n rfl ?_)
          refine xs_getr (q := 24) i_LO_readyRank_21 rfl fd_LO_56 sg_1 rfl (xs_n rfl ?_)
          refine xs_iload_n (q := 25) i_LO_readyRank_24 rfl rfl (xs_n rfl ?_)
          refine xs_iaload (q := 26) i_LO_readyRank_25 rfl sg_6 rfl (by omega) (xs_n rfl ?_)
          refine xs_iaload (q := 27) i_LO_readyRank_26 rfl hb3 (am_ns (by omega)) (by omega) (xs_n rfl ?_)
          refine xs_if_le (q := 32) (r := 30) i_LO_readyRank_27 rfl rfl (h3 _ (by omega)) (fun h27 => (xs_n rfl ?_)) (fun h27 => (xs_n rfl ?_))
          · refine xs_iinc (q := 35) (ls2 := [_, _]) i_LO_readyRank_32 rfl rfl rfl (xs_n rfl ?_)
            refine xs_goto (q := 2) i_LO_readyRank_35 rfl (xs_z rfl ?_)
            exact ⟨(M 1 5 - (i + 1)).toNat, by omega, Or.inr ⟨i + 1, rfl, rfl, rfl, rfl, ⟨by omega, am_ls hn (by omega) (by omega)⟩, rfl⟩⟩
          · refine xs_iload_n (q := 31) i_LO_readyRank_30 rfl rfl (xs_n rfl ?_)
            refine xs_iret i_LO_readyRank_31 ?_
            exact xs_fin (by simp only [f_LO_readyRank]; rw [am_fi_eq _ _ 0 i.toNat (by omega) (by omega) (fun j _ hj => decide_eq_false (hn j (by omega))) (fun _ => decide_eq_true h27)]; simp; omega) rfl trivial
    · exact h.elim
def P_LO_lateAt : am_P := fun av M => match av with
  | [.inr (.inl b), .inl m] => lo_at b ∧ (0 ≤ M 1 5 ∧ M 1 5 ≤ 5) ∧ am_R m ∧ (∀ j, j < 5 → am_R (M (b + 3) j)) ∧ ∀ j, j < 5 → am_R (M (b + 4) j)
  | _ => False
def f_LO_lateAt : am_Fr := fun av M => match av with
  | [.inr (.inl b), .inl m] => some (.inl (ma_su (fun j => if 0 < M (b + 3) j ∧ M (b + 4) j = m then 1 else 0) (M 1 5).toNat))
  | _ => none
abbrev g_LO_lateAt : am_Fm := g_id
def inv_LO_lateAt : List am_V → am_M → Nat → am_K := fun av M μ pc ls st M2 => match av with
  | [.inr (.inl b), .inl m] => (pc = 0 ∧ ls = am_l0 [.inr (.inl b), .inl m] 4 ∧ st = [] ∧ M = M2 ∧ μ = 100) ∨ ∃ i x : Int, pc = 4 ∧ ls = [some (.inr (.inl b)), some (.inl m), some (.inl x), some (.inl i)] ∧ st = [] ∧ M = M2 ∧ ((0 ≤ i ∧ i ≤ M 1 5) ∧ x = ma_su (fun j => if 0 < M (b + 3) j ∧ M (b + 4) j = m then 1 else 0) i.toNat) ∧ μ = (M 1 5 - i).toNat
  | _ => False
theorem m_LO_lateAt (l : Launch) : am_MF l y_LO_lateAt w_LO_lateAt r_LO_lateAt P_LO_lateAt f_LO_lateAt g_LO_lateAt := by
  refine am_mkL (fun pc => pc == 4) i_LO_lateAt_ok fd_LO_ok am_CC0 (plainFor_of_name (by decide +kernel)) (by decide) ?_ 40 inv_LO_lateAt ?_ ?_
  · intro av M h
    unfold P_LO_lateAt at h
    split at h
    · exact ⟨Nat.le_of_ble_eq_true rfl, rfl⟩
    · exact h.elim
  · intro av M h
    unfold P_LO_lateAt at h
    split at h
    · exact ⟨_, Or.inl ⟨rfl, rfl, rfl, rfl, rfl⟩⟩
    · exact h.elim
  · intro av M h μ pc ls st M2 hi
    unfold P_LO_lateAt at h
    split at h
    · rename_i b m
      obtain ⟨⟨hb0, hb1, hb2, hb3, hb4, hbl, hbn⟩, h1, h2, h3, h4⟩ := h
      rcases hi with ⟨rfl, rfl, rfl, rfl, rfl⟩ | ⟨i, x, rfl, rfl, rfl, rfl, ⟨hi, hx⟩, rfl⟩
      · skip
        refine xs_iconst (q := 1) i_LO_lateAt_0 rfl (xs_n rfl ?_)
        refine xs_istore_n (q := 2) (ls2 := [_, _, _, _]) i_LO_lateAt_1 rfl rfl rfl (xs_n rfl ?_)
        refine xs_iconst (q := 3) i_LO_lateAt_2 rfl (xs_n rfl ?_)
        refine xs_istore_n (q := 4) (ls2 := [_, _, _, _]) i_LO_lateAt_3 rfl rfl rfl (xs_z rfl ?_)
        exact ⟨(M 1 5).toNat, by omega, Or.inr ⟨0, 0, rfl, rfl, rfl, rfl, ⟨by omega, rfl⟩, by omega⟩⟩
      · skip
        refine xs_iload_n (q := 5) i_LO_lateAt_4 rfl rfl (xs_n rfl ?_)
        refine xs_aload_n (q := 6) i_LO_lateAt_5 rfl rfl (xs_n rfl ?_)
        refine xs_getr (q := 9) i_LO_lateAt_6 rfl fd_LO_24 hb0 rfl (xs_n rfl ?_)
        refine xs_geti (q := 12) i_LO_lateAt_9 rfl fd_LO_28 sg_1 rfl (xs_n rfl ?_)
        refine xs_ic_ge (q := 43) (r := 15) i_LO_lateAt_12 rfl rfl ⟨by unfold am_R; omega, by unfold am_R; omega⟩ (fun h12 => (xs_n rfl ?_)) (fun h12 => (xs_n rfl ?_))
        · refine xs_iload_n (q := 44) i_LO_lateAt_43 rfl rfl (xs_n rfl ?_)
          refine xs_iret i_LO_lateAt_44 ?_
          obtain rfl : i = M 1 5 := by omega
          exact xs_fin (by simp only [f_LO_lateAt]; rw [hx]) rfl trivial
        · refine xs_aload_n (q := 16) i_LO_lateAt_15 rfl rfl (xs_n rfl ?_)
          refine xs_getr (q := 19) i_LO_lateAt_16 rfl fd_LO_18 hb0 rfl (xs_n rfl ?_)
          refine xs_iload_n (q := 20) i_LO_lateAt_19 rfl rfl (xs_n rfl ?_)
          refine xs_iaload (q := 21) i_LO_lateAt_20 rfl hb3 (am_ns (by omega)) (by omega) (xs_n rfl ?_)
          refine xs_if_le (q := 37) (r := 24) i_LO_lateAt_21 rfl rfl (h3 _ (by omega)) (fun h21 => (xs_n rfl ?_)) (fun h21 => (xs_n rfl ?_))
          · refine xs_iinc (q := 40) (ls2 := [_, _, _, _]) i_LO_lateAt_37 rfl rfl rfl (xs_n rfl ?_)
            refine xs_goto (q := 4) i_LO_lateAt_40 rfl (xs_z rfl ?_)
            exact ⟨(M 1 5 - (i + 1)).toNat, by omega, Or.inr ⟨i + 1, _, rfl, rfl, rfl, rfl, ⟨by omega, by rw [hx, show (i + 1).toNat = i.toNat + 1 by omega]; simp only [ma_su]; rw [if_neg (by omega)]; omega⟩, rfl⟩⟩
          · refine xs_aload_n (q := 25) i_LO_lateAt_24 rfl rfl (xs_n rfl ?_)
            refine xs_getr (q := 28) i_LO_lateAt_25 rfl fd_LO_21 hb0 rfl (xs_n rfl ?_)
            refine xs_iload_n (q := 29) i_LO_lateAt_28 rfl rfl (xs_n rfl ?_)
            refine xs_iaload (q := 30) i_LO_lateAt_29 rfl hb4 (am_ns (by omega)) (by omega) (xs_n rfl ?_)
            refine xs_iload_n (q := 31) i_LO_lateAt_30 rfl rfl (xs_n rfl ?_)
            refine xs_ic_ne (q := 37) (r := 34) i_LO_lateAt_31 rfl rfl ⟨h4 _ (by omega), h2⟩ (fun h31 => (xs_n rfl ?_)) (fun h31 => (xs_n rfl ?_))
            · refine xs_iinc (q := 40) (ls2 := [_, _, _, _]) i_LO_lateAt_37 rfl rfl rfl (xs_n rfl ?_)
              refine xs_goto (q := 4) i_LO_lateAt_40 rfl (xs_z rfl ?_)
              exact ⟨(M 1 5 - (i + 1)).toNat, by omega, Or.inr ⟨i + 1, _, rfl, rfl, rfl, rfl, ⟨by omega, by rw [hx, show (i + 1).toNat = i.toNat + 1 by omega]; simp only [ma_su]; rw [if_neg (by omega)]; omega⟩, rfl⟩⟩
            · refine xs_iinc (q := 37) (ls2 := [_, _, _, _]) i_LO_lateAt_34 rfl rfl rfl (xs_n rfl ?_)
              refine xs_iinc (q := 40) (ls2 := [_, _, _, _]) i_LO_lateAt_37 rfl rfl rfl (xs_n rfl ?_)
              refine xs_goto (q := 4) i_LO_lateAt_40 rfl (xs_z rfl ?_)
              exact ⟨(M 1 5 - (i + 1)).toNat, by omega, Or.inr ⟨i + 1, _, rfl, rfl, rfl, rfl, ⟨by omega, by rw [hx, show (i + 1).toNat = i.toNat + 1 by omega]; simp only [ma_su]; rw [if_pos ⟨h21, h31⟩]⟩, rfl⟩⟩
    · exact h.elim
