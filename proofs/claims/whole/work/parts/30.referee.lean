/-! contracts: Referee (wip/whole/p30.py) -/
theorem sh_k {b : Nat} {t q : Int} {M : am_M} {k j : Nat} (hk : k ≠ b + 2) : g_LO_shorten [.inr (.inl b), .inl t, .inl q] M k j = M k j := by
  simp only [g_LO_shorten]
  by_cases h : 0 ≤ t ∧ t ≤ M 1 5 - 1
  · rw [if_pos h, am_up_k _ _ hk]
  · rw [if_neg h]
theorem sh_b {b : Nat} {t q : Int} {M : am_M} (hq : 0 ≤ q ∧ q ≤ 60) {j : Nat} (h : 0 ≤ M (b + 2) j ∧ M (b + 2) j ≤ 60) : 0 ≤ g_LO_shorten [.inr (.inl b), .inl t, .inl q] M (b + 2) j ∧ g_LO_shorten [.inr (.inl b), .inl t, .inl q] M (b + 2) j ≤ 60 := by
  simp only [g_LO_shorten]
  by_cases h1 : 0 ≤ t ∧ t ≤ M 1 5 - 1
  · rw [if_pos h1]
    by_cases hj : j = t.toNat
    · subst hj
      rw [am_up_s]
      by_cases h2 : q < M (b + 2) t.toNat
      · rw [if_pos h2]; omega
      · rw [if_neg h2]; omega
    · rw [am_up_j _ _ hj]; exact h
  · rw [if_neg h1]; exact h
/-- what early() told up to the moment m is told again -/
def rf_tu (m : Int) : Nat → Nat → am_M → Nat × am_M
  | 0, a, M => (a, M)
  | k + 1, a, M => if m < M 15 a then (a, M) else rf_tu m k (a + 1) (g_LO_shorten [.inr (.inl 38), .inl (M 16 a), .inl (M 17 a)] M)
def el_ok (M : am_M) : Prop := (0 ≤ M 14 3 ∧ M 14 3 ≤ 200) ∧ ∀ j, j < 200 → am_R (M 15 j) ∧ am_R (M 16 j) ∧ (0 ≤ M 17 j ∧ M 17 j ≤ 60)
def P_RF_tellUpTo : am_P := fun av M => match av with
  | [.inr (.inl i), .inl m, .inl t] => i = 48 ∧ el_ok M ∧ (0 ≤ t ∧ t ≤ M 14 3) ∧ am_R m ∧ (0 ≤ M 1 5 ∧ M 1 5 ≤ 5) ∧ ∀ j, j < 5 → 0 ≤ M 40 j ∧ M 40 j ≤ 60
  | _ => False
def f_RF_tellUpTo : am_Fr := fun av M => match av with
  | [.inr (.inl i), .inl m, .inl t] => some (.inl (((rf_tu m (M 14 3 - t).toNat t.toNat M).1 : Nat) : Int))
  | _ => none
def g_RF_tellUpTo : am_Fm := fun av M => match av with
  | [.inr (.inl i), .inl m, .inl t] => (rf_tu m (M 14 3 - t).toNat t.toNat M).2
  | _ => M
def ct_RF_tellUpTo : am_T := fun pc => if pc = 51 then some (3, am_ctV vw_S 5 P_LO_shorten (am_po f_LO_shorten g_LO_shorten)) else none
theorem e_RF_tellUpTo_51 : ct_RF_tellUpTo 51 = some (3, am_ctV vw_S 5 P_LO_shorten (am_po f_LO_shorten g_LO_shorten)) := rfl
theorem ct_RF_tellUpTo_ok (l : Launch) : am_CC b_RF_tellUpTo 4 w_RF_tellUpTo y_RF_tellUpTo.cls l r_RF_tellUpTo ct_RF_tellUpTo := by
  intro p e s m args below meth c H0 A D G ad Q S hK hN hA pc q ct h
  have hts := S.2.2.2.2
  unfold ct_RF_tellUpTo at h
  split at h
  · rename_i hpc
    subst hpc; cases h
    exact am_callV S vw_N_ok hK hN hA ⟨Nat.zero_le _, Nat.zero_le _⟩ (m_LO_shorten l) (s_RF_84 hts am_vW hN ⟨by decide, by decide⟩) (by rfl) d_RF_tellUpTo_51
  cases h
def inv_RF_tellUpTo : List am_V → am_M → Nat → am_K := fun av M μ pc ls st M2 => match av with
  | [.inr (.inl i), .inl m, .inl t] => (pc = 0 ∧ ls = am_l0 [.inr (.inl i), .inl m, .inl t] 4 ∧ st = [] ∧ M = M2 ∧ μ = 1000) ∨ ∃ x : Nat, pc = 2 ∧ ls = [some (.inr (.inl i)), some (.inl m), some (.inl t), some (.inl (x : Int))] ∧ st = [] ∧ ((t ≤ x ∧ x ≤ M 14 3) ∧ (∀ k j, k ≠ 40 → M2 k j = M k j) ∧ (∀ j, j < 5 → 0 ≤ M2 40 j ∧ M2 40 j ≤ 60) ∧ rf_tu m (M 14 3 - x).toNat x M2 = rf_tu m (M 14 3 - t).toNat t.toNat M) ∧ μ = (M 14 3 - x).toNat
  | _ => False
theorem m_RF_tellUpTo (l : Launch) : am_MF l y_RF_tellUpTo w_RF_tellUpTo r_RF_tellUpTo P_RF_tellUpTo f_RF_tellUpTo g_RF_tellUpTo := by
  refine am_mkL (fun pc => pc == 2) i_RF_tellUpTo_ok fd_RF_ok (ct_RF_tellUpTo_ok l) (plainFor_of_name (by decide +kernel)) (by decide) ?_ 60 inv_RF_tellUpTo ?_ ?_
  · intro av M h
    unfold P_RF_tellUpTo at h
    split at h
    · exact ⟨Nat.le_of_ble_eq_true rfl, rfl⟩
    · exact h.elim
  · intro av M h
    unfold P_RF_tellUpTo at h
    split at h
    · exact ⟨_, Or.inl ⟨rfl, rfl, rfl, rfl, rfl⟩⟩
    · exact h.elim
  · intro av M h μ pc ls st M2 hi
    unfold P_RF_tellUpTo at h
    split at h
    · rename_i i m t
      obtain ⟨rfl, h1, h2, h3, h4, h5⟩ := h
      have h10c := h1.1
      rcases hi with ⟨rfl, rfl, rfl, rfl, rfl⟩ | ⟨x, rfl, rfl, rfl, ⟨hx, hk2, hn, hg⟩, rfl⟩
      · skip
        refine xs_iload_n (q := 1) i_RF_tellUpTo_0 rfl rfl (xs_n rfl ?_)
        refine xs_istore_n (q := 2) (ls2 := [_, _, _, _]) i_RF_tellUpTo_1 rfl rfl rfl (xs_z rfl ?_)
        exact ⟨(M 14 3 - t).toNat, by omega, Or.inr ⟨t.toNat, rfl, by rw [Int.toNat_of_nonneg h2.1], rfl, ⟨by omega, fun k j _ => rfl, h5, by rw [Int.toNat_of_nonneg h2.1]⟩, by rw [Int.toNat_of_nonneg h2.1]⟩⟩
      · skip
        refine xs_iload_n (q := 3) i_RF_tellUpTo_2 rfl rfl (xs_n rfl ?_)
        refine xs_aload_n (q := 4) i_RF_tellUpTo_3 rfl rfl (xs_n rfl ?_)
        refine xs_getr (q := 7) i_RF_tellUpTo_4 rfl fd_RF_29 sg_48 rfl (xs_n rfl ?_)
        refine xs_geti (q := 10) i_RF_tellUpTo_7 rfl fd_RF_65 sg_14 rfl (xs_n rfl ?_)
        refine xs_ic_ge (q := 60) (r := 13) i_RF_tellUpTo_10 rfl rfl ⟨by unfold am_R; omega, by rw [hk2 14 3 (by decide)]; unfold am_R; omega⟩ (fun h10 => (xs_n rfl ?_)) (fun h10 => (xs_n rfl ?_))
        · refine xs_iload_n (q := 61) i_RF_tellUpTo_60 rfl rfl (xs_n rfl ?_)
          refine xs_iret i_RF_tellUpTo_61 ?_
          rw [hk2 14 3 (by decide)] at h10
          refine xs_fin ?_ ?_ trivial
          · simp only [f_RF_tellUpTo]
            rw [← hg]
            rw [show (M 14 3 - (x : Int)).toNat = 0 by omega, rf_tu]
          · simp only [g_RF_tellUpTo]
            rw [← hg]
            rw [show (M 14 3 - (x : Int)).toNat = 0 by omega, rf_tu]
        · have h10b := h10
          rw [hk2 14 3 (by decide)] at h10b
          have he := h1.2 x (by omega)
          refine xs_aload_n (q := 14) i_RF_tellUpTo_13 rfl rfl (xs_n rfl ?_)
          refine xs_getr (q := 17) i_RF_tellUpTo_14 rfl fd_RF_29 sg_48 rfl (xs_n rfl ?_)
          refine xs_getr (q := 20) i_RF_tellUpTo_17 rfl fd_RF_70 sg_14 rfl (xs_n rfl ?_)
          refine xs_iload_n (q := 21) i_RF_tellUpTo_20 rfl rfl (xs_n rfl ?_)
          refine xs_iaload (q := 22) i_RF_tellUpTo_21 rfl sg_15 rfl (by omega) (xs_n rfl ?_)
          refine xs_iload_n (q := 23) i_RF_tellUpTo_22 rfl rfl (xs_n rfl ?_)
          refine xs_ic_gt (q := 60) (r := 26) i_RF_tellUpTo_23 rfl rfl ⟨by rw [Int.toNat_natCast, hk2 15 x (by decide)]; exact he.1, h3⟩ (fun h23 => (xs_n rfl ?_)) (fun h23 => (xs_n rfl ?_))
          · refine xs_iload_n (q := 61) i_RF_tellUpTo_60 rfl rfl (xs_n rfl ?_)
            refine xs_iret i_RF_tellUpTo_61 ?_
            rw [hk2 14 3 (by decide)] at h10
            refine xs_fin ?_ ?_ trivial
            · simp only [f_RF_tellUpTo]
              rw [← hg]
              rw [show (M 14 3 - (x : Int)).toNat = (M 14 3 - (x + 1 : Nat)).toNat + 1 by omega, rf_tu, if_pos (by simp only [Int.toNat_natCast] at h23; exact h23)]
            · simp only [g_RF_tellUpTo]
              rw [← hg]
              rw [show (M 14 3 - (x : Int)).toNat = (M 14 3 - (x + 1 : Nat)).toNat + 1 by omega, rf_tu, if_pos (by simp only [Int.toNat_natCast] at h23; exact h23)]
          · refine xs_aload_n (q := 27) i_RF_tellUpTo_26 rfl rfl (xs_n rfl ?_)
            refine xs_getr (q := 30) i_RF_tellUpTo_27 rfl fd_RF_21 sg_48 rfl (xs_n rfl ?_)
            refine xs_getr (q := 33) i_RF_tellUpTo_30 rfl fd_RF_74 sg_37 rfl (xs_n rfl ?_)
            refine xs_aload_n (q := 34) i_RF_tellUpTo_33 rfl rfl (xs_n rfl ?_)
            refine xs_getr (q := 37) i_RF_tellUpTo_34 rfl fd_RF_29 sg_48 rfl (xs_n rfl ?_)
            refine xs_getr (q := 40) i_RF_tellUpTo_37 rfl fd_RF_78 sg_14 rfl (xs_n rfl ?_)
            refine xs_iload_n (q := 41) i_RF_tellUpTo_40 rfl rfl (xs_n rfl ?_)
            refine xs_iaload (q := 42) i_RF_tellUpTo_41 rfl sg_16 rfl (by omega) (xs_n rfl ?_)
            refine xs_aload_n (q := 43) i_RF_tellUpTo_42 rfl rfl (xs_n rfl ?_)
            refine xs_getr (q := 46) i_RF_tellUpTo_43 rfl fd_RF_29 sg_48 rfl (xs_n rfl ?_)
            refine xs_getr (q := 49) i_RF_tellUpTo_46 rfl fd_RF_81 sg_14 rfl (xs_n rfl ?_)
            refine xs_iload_n (q := 50) i_RF_tellUpTo_49 rfl rfl (xs_n rfl ?_)
            refine xs_iaload (q := 51) i_RF_tellUpTo_50 rfl sg_17 rfl (by omega) (xs_n rfl ?_)
            refine xs_cv (q := 54) (av := [_, _, _]) (rest := []) i_RF_tellUpTo_51 rfl (e_RF_tellUpTo_51) ⟨rfl, rfl⟩ rfl rfl ?_
            rw [am_V_iff]
            refine ⟨⟨_, sg_38⟩, ⟨lo_38, by rw [hk2 1 5 (by decide)]; exact h4, by rw [Int.toNat_natCast, hk2 16 x (by decide)]; exact he.2.1, by rw [Int.toNat_natCast, hk2 17 x (by decide)]; unfold am_R; omega, fun j hj => by have := hn j hj; show am_R (M2 40 j); unfold am_R; omega⟩, ?_⟩
            refine xs_r0 rfl (xs_n rfl ?_)
            refine xs_iinc (q := 57) (ls2 := [_, _, _, _]) i_RF_tellUpTo_54 rfl rfl rfl (xs_n rfl ?_)
            refine xs_goto (q := 2) i_RF_tellUpTo_57 rfl (xs_z rfl ?_)
            simp only [Int.toNat_natCast]
            refine ⟨(M 14 3 - (x + 1 : Nat)).toNat, by omega, Or.inr ⟨x + 1, rfl, rfl, rfl, ⟨by omega, fun k j hk => ?_, fun j hj => ?_, ?_⟩, rfl⟩⟩
            · rw [sh_k hk]; exact hk2 k j hk
            · exact sh_b (b := 38) (by rw [hk2 17 x (by decide)]; exact (h1.2 x (by omega)).2.2) (hn j hj)
            · rw [← hg, show (M 14 3 - (x : Int)).toNat = (M 14 3 - (x + 1 : Nat)).toNat + 1 by omega, rf_tu, if_neg (by rw [hk2 15 x (by decide)]; simp only [hk2 15 _ (show (15 : Nat) ≠ 40 by decide), Int.toNat_natCast] at h23; omega)]
    · exact h.elim
def P_RF_sumOfTimes : am_P := fun av M => match av with
  | [.inr (.inl i)] => i = 48 ∧ (0 ≤ M 43 3 ∧ M 43 3 ≤ 40) ∧ ∀ j : Nat, (j : Int) < M 43 3 → am_R (M 45 j)
  | _ => False
def f_RF_sumOfTimes : am_Fr := fun av M => match av with
  | [.inr (.inl i)] => some (.inl (ma_su (fun j => if M 45 j = -1 then 0 else M 45 j - M 11 j) (M 43 3).toNat))
  | _ => none
def g_RF_sumOfTimes : am_Fm := fun av M => match av with
  | [.inr (.inl i)] => am_up M 48 3 (M 48 3 + ma_su (fun j => if M 45 j = -1 then 0 else 1) (M 43 3).toNat)
  | _ => M
def inv_RF_sumOfTimes : List am_V → am_M → Nat → am_K := fun av M μ pc ls st M2 => match av with
  | [.inr (.inl i)] => (pc = 0 ∧ ls = am_l0 [.inr (.inl i)] 3 ∧ st = [] ∧ M = M2 ∧ μ = 1000) ∨ ∃ x t : Int, pc = 4 ∧ ls = [some (.inr (.inl i)), some (.inl x), some (.inl t)] ∧ st = [] ∧ M2 = am_up M 48 3 (M 48 3 + ma_su (fun j => if M 45 j = -1 then 0 else 1) t.toNat) ∧ ((0 ≤ t ∧ t ≤ M 43 3) ∧ x = ma_su (fun j => if M 45 j = -1 then 0 else M 45 j - M 11 j) t.toNat) ∧ μ = (M 43 3 - t).toNat
  | _ => False
theorem m_RF_sumOfTimes (l : Launch) : am_MF l y_RF_sumOfTimes w_RF_sumOfTimes r_RF_sumOfTimes P_RF_sumOfTimes f_RF_sumOfTimes g_RF_sumOfTimes := by
  refine am_mkL (fun pc => pc == 4) i_RF_sumOfTimes_ok fd_RF_ok am_CC0 (plainFor_of_name (by decide +kernel)) (by decide) ?_ 60 inv_RF_sumOfTimes ?_ ?_
  · intro av M h
    unfold P_RF_sumOfTimes at h
    split at h
    · exact ⟨Nat.le_of_ble_eq_true rfl, rfl⟩
    · exact h.elim
  · intro av M h
    unfold P_RF_sumOfTimes at h
    split at h
    · exact ⟨_, Or.inl ⟨rfl, rfl, rfl, rfl, rfl⟩⟩
    · exact h.elim
  · intro av M h μ pc ls st M2 hi
    unfold P_RF_sumOfTimes at h
    split at h
    · rename_i i
      obtain ⟨rfl, h1, h2⟩ := h
      rcases hi with ⟨rfl, rfl, rfl, rfl, rfl⟩ | ⟨x, t, rfl, rfl, rfl, hM, ⟨ht, hx⟩, rfl⟩
      · skip
        refine xs_iconst (q := 1) i_RF_sumOfTimes_0 rfl (xs_n rfl ?_)
        refine xs_istore_n (q := 2) (ls2 := [_, _, _]) i_RF_sumOfTimes_1 rfl rfl rfl (xs_n rfl ?_)
        refine xs_iconst (q := 3) i_RF_sumOfTimes_2 rfl (xs_n rfl ?_)
        refine xs_istore_n (q := 4) (ls2 := [_, _, _]) i_RF_sumOfTimes_3 rfl rfl rfl (xs_z rfl ?_)
        have u1 : am_up M 48 3 (M 48 3 + 0) = M := by funext p q; simp only [am_up]; (repeat' split) <;> (first | rfl | (rename_i h9; obtain ⟨rfl, rfl⟩ := h9; omega))
        exact ⟨(M 43 3).toNat, by omega, Or.inr ⟨0, 0, rfl, rfl, rfl, u1.symm, ⟨by omega, rfl⟩, by omega⟩⟩
      · skip
        have ek : ∀ k, k ≠ 48 → ∀ j, M2 k j = M k j := fun k hk j => by rw [hM]; exact am_up_k _ _ hk
        have e43 : M2 43 3 = M 43 3 := ek 43 (by decide) 3
        refine xs_iload_n (q := 5) i_RF_sumOfTimes_4 rfl rfl (xs_n rfl ?_)
        refine xs_aload_n (q := 6) i_RF_sumOfTimes_5 rfl rfl (xs_n rfl ?_)
        refine xs_getr (q := 9) i_RF_sumOfTimes_6 rfl fd_RF_21 sg_48 rfl (xs_n rfl ?_)
        refine xs_getr (q := 12) i_RF_sumOfTimes_9 rfl fd_RF_42 sg_37 rfl (xs_n rfl ?_)
        refine xs_geti (q := 15) i_RF_sumOfTimes_12 rfl fd_RF_90 sg_43 rfl (xs_n rfl ?_)
        refine xs_ic_ge (q := 75) (r := 18) i_RF_sumOfTimes_15 rfl rfl ⟨by unfold am_R; omega, by unfold am_R; omega⟩ (fun h15 => (xs_n rfl ?_)) (fun h15 => (xs_n rfl ?_))
        · refine xs_iload_n (q := 76) i_RF_sumOfTimes_75 rfl rfl (xs_n rfl ?_)
          refine xs_iret i_RF_sumOfTimes_76 ?_
          obtain rfl : t = M 43 3 := by omega
          exact xs_fin (by simp only [f_RF_sumOfTimes]; rw [hx]) hM.symm trivial
        · refine xs_aload_n (q := 19) i_RF_sumOfTimes_18 rfl rfl (xs_n rfl ?_)
          refine xs_getr (q := 22) i_RF_sumOfTimes_19 rfl fd_RF_21 sg_48 rfl (xs_n rfl ?_)
          refine xs_getr (q := 25) i_RF_sumOfTimes_22 rfl fd_RF_42 sg_37 rfl (xs_n rfl ?_)
          refine xs_getr (q := 28) i_RF_sumOfTimes_25 rfl fd_RF_93 sg_43 rfl (xs_n rfl ?_)
          refine xs_iload_n (q := 29) i_RF_sumOfTimes_28 rfl rfl (xs_n rfl ?_)
          refine xs_iaload (q := 30) i_RF_sumOfTimes_29 rfl sg_45 rfl (by omega) (xs_n rfl ?_)
          refine xs_iconst (q := 31) i_RF_sumOfTimes_30 rfl (xs_n rfl ?_)
          refine xs_ic_eq (q := 69) (r := 34) i_RF_sumOfTimes_31 rfl rfl ⟨by rw [ek 45 (by decide)]; exact h2 _ (by omega), by unfold am_R; omega⟩ (fun h31 => (xs_n rfl ?_)) (fun h31 => (xs_n rfl ?_))
          · try rw [ek 45 (by decide)] at h31
            refine xs_iinc (q := 72) (ls2 := [_, _, _]) i_RF_sumOfTimes_69 rfl rfl rfl (xs_n rfl ?_)
            refine xs_goto (q := 4) i_RF_sumOfTimes_72 rfl (xs_z rfl ?_)
            refine ⟨(M 43 3 - (t + 1)).toNat, by omega, Or.inr ⟨x, t + 1, rfl, rfl, rfl, ?_, ⟨by omega, ?_⟩, rfl⟩⟩
            · rw [hM, show (t + 1).toNat = t.toNat + 1 by omega]; simp only [ma_su]; rw [if_pos h31]; simp
            · rw [hx, show (t + 1).toNat = t.toNat + 1 by omega]; simp only [ma_su]; rw [if_pos h31]; simp
          · rw [ek 45 (by decide)] at h31
            refine xs_aload_n (q := 35) i_RF_sumOfTimes_34 rfl rfl (xs_n rfl ?_)
            refine xs_dupr (q := 36) i_RF_sumOfTimes_35 rfl (xs_n rfl ?_)
            refine xs_geti (q := 39) i_RF_sumOfTimes_36 rfl fd_RF_9 sg_48 rfl (xs_n rfl ?_)
            refine xs_iconst (q := 40) i_RF_sumOfTimes_39 rfl (xs_n rfl ?_)
            refine xs_iadd (q := 41) i_RF_sumOfTimes_40 rfl (xs_n rfl ?_)
            refine xs_puti (q := 44) i_RF_sumOfTimes_41 rfl fd_RF_9 sg_48 rfl (xs_n rfl ?_)
            refine xs_iload_n (q := 45) i_RF_sumOfTimes_44 rfl rfl (xs_n rfl ?_)
            refine xs_aload_n (q := 46) i_RF_sumOfTimes_45 rfl rfl (xs_n rfl ?_)
            refine xs_getr (q := 49) i_RF_sumOfTimes_46 rfl fd_RF_21 sg_48 rfl (xs_n rfl ?_)
            refine xs_getr (q := 52) i_RF_sumOfTimes_49 rfl fd_RF_42 sg_37 rfl (xs_n rfl ?_)
            refine xs_getr (q := 55) i_RF_sumOfTimes_52 rfl fd_RF_93 sg_43 rfl (xs_n rfl ?_)
            refine xs_iload_n (q := 56) i_RF_sumOfTimes_55 rfl rfl (xs_n rfl ?_)
            refine xs_iaload (q := 57) i_RF_sumOfTimes_56 rfl sg_45 rfl (by omega) (xs_n rfl ?_)
            refine xs_aload_n (q := 58) i_RF_sumOfTimes_57 rfl rfl (xs_n rfl ?_)
            refine xs_getr (q := 61) i_RF_sumOfTimes_58 rfl fd_RF_25 sg_48 rfl (xs_n rfl ?_)
            refine xs_getr (q := 64) i_RF_sumOfTimes_61 rfl fd_RF_96 sg_10 rfl (xs_n rfl ?_)
            refine xs_iload_n (q := 65) i_RF_sumOfTimes_64 rfl rfl (xs_n rfl ?_)
            refine xs_iaload (q := 66) i_RF_sumOfTimes_65 rfl sg_11 rfl (by omega) (xs_n rfl ?_)
            refine xs_isub (q := 67) i_RF_sumOfTimes_66 rfl (xs_n rfl ?_)
            refine xs_iadd (q := 68) i_RF_sumOfTimes_67 rfl (xs_n rfl ?_)
            refine xs_istore_n (q := 69) (ls2 := [_, _, _]) i_RF_sumOfTimes_68 rfl rfl rfl (xs_n rfl ?_)
            try rw [ek 45 (by decide)] at h31
            refine xs_iinc (q := 72) (ls2 := [_, _, _]) i_RF_sumOfTimes_69 rfl rfl rfl (xs_n rfl ?_)
            refine xs_goto (q := 4) i_RF_sumOfTimes_72 rfl (xs_z rfl ?_)
            refine ⟨(M 43 3 - (t + 1)).toNat, by omega, Or.inr ⟨_, t + 1, rfl, rfl, rfl, ?_, ⟨by omega, ?_⟩, rfl⟩⟩
            · rw [hM, am_up_s, show (t + 1).toNat = t.toNat + 1 by omega]
              simp only [ma_su]
              rw [if_neg h31]
              funext p q
              simp only [am_up]
              (repeat' split) <;> (first | rfl | omega)
            · rw [show (t + 1).toNat = t.toNat + 1 by omega]
              simp only [ma_su]
              rw [if_neg h31, hx, am_up_k _ _ (by decide), am_up_k _ _ (by decide), ek 45 (by decide), ek 11 (by decide)]
    · exact h.elim
