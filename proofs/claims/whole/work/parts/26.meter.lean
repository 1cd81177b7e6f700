/-! contracts: the slack meter (wip/whole/p26.py) -/
def sm_set (s a : Int) (M : am_M) : Int := if am_fi (fun r => decide (a < M 25 r ∧ M 24 r < s)) (M 1 5).toNat 0 < (M 1 5).toNat then 0 else 1
def P_SM_isSettled : am_P := fun av M => match av with
  | [.inr (.inl i), .inl s, .inl a] => i = 18 ∧ (0 ≤ M 1 5 ∧ M 1 5 ≤ 5) ∧ am_R s ∧ am_R a ∧ ∀ j, j < 5 → am_R (M 24 j) ∧ am_R (M 25 j)
  | _ => False
def f_SM_isSettled : am_Fr := fun av M => match av with
  | [.inr (.inl i), .inl s, .inl a] => some (.inl (sm_set s a M))
  | _ => none
abbrev g_SM_isSettled : am_Fm := g_id
def inv_SM_isSettled : List am_V → am_M → Nat → am_K := fun av M μ pc ls st M2 => match av with
  | [.inr (.inl i), .inl s, .inl a] => (pc = 0 ∧ ls = am_l0 [.inr (.inl i), .inl s, .inl a] 4 ∧ st = [] ∧ M = M2 ∧ μ = 100) ∨ ∃ t : Int, pc = 2 ∧ ls = [some (.inr (.inl i)), some (.inl s), some (.inl a), some (.inl t)] ∧ st = [] ∧ M = M2 ∧ ((0 ≤ t ∧ t ≤ M 1 5) ∧ ∀ j : Nat, (j : Int) < t → ¬ (a < M 25 j ∧ M 24 j < s)) ∧ μ = (M 1 5 - t).toNat
  | _ => False
theorem m_SM_isSettled (l : Launch) : am_MF l y_SM_isSettled w_SM_isSettled r_SM_isSettled P_SM_isSettled f_SM_isSettled g_SM_isSettled := by
  refine am_mkL (fun pc => pc == 2) i_SM_isSettled_ok fd_SM_ok am_CC0 (plainFor_of_name (by decide +kernel)) (by decide) ?_ 40 inv_SM_isSettled ?_ ?_
  · intro av M h
    unfold P_SM_isSettled at h
    split at h
    · exact ⟨Nat.le_of_ble_eq_true rfl, rfl⟩
    · exact h.elim
  · intro av M h
    unfold P_SM_isSettled at h
    split at h
    · exact ⟨_, Or.inl ⟨rfl, rfl, rfl, rfl, rfl⟩⟩
    · exact h.elim
  · intro av M h μ pc ls st M2 hi
    unfold P_SM_isSettled at h
    split at h
    · rename_i i s a
      obtain ⟨rfl, h1, h2, h3, h4⟩ := h
      rcases hi with ⟨rfl, rfl, rfl, rfl, rfl⟩ | ⟨t, rfl, rfl, rfl, rfl, ⟨ht, hn⟩, rfl⟩
      · skip
        refine xs_iconst (q := 1) i_SM_isSettled_0 rfl (xs_n rfl ?_)
        refine xs_istore_n (q := 2) (ls2 := [_, _, _, _]) i_SM_isSettled_1 rfl rfl rfl (xs_z rfl ?_)
        exact ⟨(M 1 5).toNat, by omega, Or.inr ⟨0, rfl, rfl, rfl, rfl, ⟨by omega, fun j hj => by omega⟩, by omega⟩⟩
      · skip
        refine xs_iload_n (q := 3) i_SM_isSettled_2 rfl rfl (xs_n rfl ?_)
        refine xs_aload_n (q := 4) i_SM_isSettled_3 rfl rfl (xs_n rfl ?_)
        refine xs_getr (q := 7) i_SM_isSettled_4 rfl fd_SM_18 sg_18 rfl (xs_n rfl ?_)
        refine xs_geti (q := 10) i_SM_isSettled_7 rfl fd_SM_50 sg_1 rfl (xs_n rfl ?_)
        refine xs_ic_ge (q := 41) (r := 13) i_SM_isSettled_10 rfl rfl ⟨by unfold am_R; omega, by unfold am_R; omega⟩ (fun h10 => (xs_n rfl ?_)) (fun h10 => (xs_n rfl ?_))
        · refine xs_iconst (q := 42) i_SM_isSettled_41 rfl (xs_n rfl ?_)
          refine xs_iret i_SM_isSettled_42 ?_
          exact xs_fin (by simp only [f_SM_isSettled, sm_set]; rw [am_fi_eq (fun r => decide (a < M 25 r ∧ M 24 r < s)) _ 0 (M 1 5).toNat (by omega) (by omega) (fun j _ hj => decide_eq_false (hn j (by omega))) (fun z => by omega), if_neg (by omega)]) rfl (Or.inr rfl)
        · refine xs_aload_n (q := 14) i_SM_isSettled_13 rfl rfl (xs_n rfl ?_)
          refine xs_getr (q := 17) i_SM_isSettled_14 rfl fd_SM_15 sg_18 rfl (xs_n rfl ?_)
          refine xs_iload_n (q := 18) i_SM_isSettled_17 rfl rfl (xs_n rfl ?_)
          refine xs_iaload (q := 19) i_SM_isSettled_18 rfl sg_25 rfl (by omega) (xs_n rfl ?_)
          refine xs_iload_n (q := 20) i_SM_isSettled_19 rfl rfl (xs_n rfl ?_)
          refine xs_ic_le (q := 35) (r := 23) i_SM_isSettled_20 rfl rfl ⟨(h4 _ (by omega)).2, h3⟩ (fun h20 => (xs_n rfl ?_)) (fun h20 => (xs_n rfl ?_))
          · refine xs_iinc (q := 38) (ls2 := [_, _, _, _]) i_SM_isSettled_35 rfl rfl rfl (xs_n rfl ?_)
            refine xs_goto (q := 2) i_SM_isSettled_38 rfl (xs_z rfl ?_)
            exact ⟨(M 1 5 - (t + 1)).toNat, by omega, Or.inr ⟨t + 1, rfl, rfl, rfl, rfl, ⟨by omega, am_ls hn (by omega) (by omega)⟩, rfl⟩⟩
          · refine xs_aload_n (q := 24) i_SM_isSettled_23 rfl rfl (xs_n rfl ?_)
            refine xs_getr (q := 27) i_SM_isSettled_24 rfl fd_SM_9 sg_18 rfl (xs_n rfl ?_)
            refine xs_iload_n (q := 28) i_SM_isSettled_27 rfl rfl (xs_n rfl ?_)
            refine xs_iaload (q := 29) i_SM_isSettled_28 rfl sg_24 rfl (by omega) (xs_n rfl ?_)
            refine xs_iload_n (q := 30) i_SM_isSettled_29 rfl rfl (xs_n rfl ?_)
            refine xs_ic_ge (q := 35) (r := 33) i_SM_isSettled_30 rfl rfl ⟨(h4 _ (by omega)).1, h2⟩ (fun h30 => (xs_n rfl ?_)) (fun h30 => (xs_n rfl ?_))
            · refine xs_iinc (q := 38) (ls2 := [_, _, _, _]) i_SM_isSettled_35 rfl rfl rfl (xs_n rfl ?_)
              refine xs_goto (q := 2) i_SM_isSettled_38 rfl (xs_z rfl ?_)
              exact ⟨(M 1 5 - (t + 1)).toNat, by omega, Or.inr ⟨t + 1, rfl, rfl, rfl, rfl, ⟨by omega, am_ls hn (by omega) (by omega)⟩, rfl⟩⟩
            · refine xs_iconst (q := 34) i_SM_isSettled_33 rfl (xs_n rfl ?_)
              refine xs_iret i_SM_isSettled_34 ?_
              exact xs_fin (by simp only [f_SM_isSettled, sm_set]; rw [am_fi_eq (fun r => decide (a < M 25 r ∧ M 24 r < s)) _ 0 t.toNat (by omega) (by omega) (fun j _ hj => decide_eq_false (hn j (by omega))) (fun _ => decide_eq_true ⟨by omega, by omega⟩), if_pos (by omega)]) rfl (Or.inl rfl)
    · exact h.elim
/-- when the instance of a task that is to be done first has to be done -/
def lo_fd (b : Nat) (M : am_M) (t : Nat) : Int := if 0 < M (b + 3) t then M (b + 4) t else M (b + 1) t + M 5 t
def sm_cp (b : Nat) (M : am_M) : am_M := am_col M (M 1 5).toNat (h_LO_copy 19 b M)
def h_SM_prepare (b : Nat) (M : am_M) : Nat → Nat → Int := fun k r => if k = 24 then 0 else if k = 25 then lo_fd b M (M 6 r).toNat else M k r
def sm_last (b : Nat) (M : am_M) (m : Int) : Nat → Int
  | 0 => m
  | r + 1 => if sm_last b M m r < lo_fd b M (M 6 r).toNat then lo_fd b M (M 6 r).toNat else sm_last b M m r
/-- a Load's numbers are small -/
def lo_sm (b : Nat) (M : am_M) (B : Int) : Prop := ∀ j, j < 5 → (0 ≤ M (b + 1) j ∧ M (b + 1) j ≤ 1000000) ∧ (0 ≤ M (b + 2) j ∧ M (b + 2) j ≤ 60) ∧ (0 ≤ M (b + 3) j ∧ M (b + 3) j ≤ B) ∧ (0 ≤ M (b + 4) j ∧ M (b + 4) j ≤ 1000000)
def P_SM_prepare : am_P := fun av M => match av with
  | [.inr (.inl i), .inr (.inl b), .inl m] => i = 18 ∧ lo_at b ∧ 25 < b ∧ ts_ok M ∧ lo_sm b M 1000000000 ∧ (0 ≤ m ∧ m ≤ 100000)
  | _ => False
def f_SM_prepare : am_Fr := fun av M => match av with
  | [.inr (.inl i), .inr (.inl b), .inl m] => some (.inl (sm_last b (sm_cp b M) m (M 1 5).toNat))
  | _ => none
def g_SM_prepare : am_Fm := fun av M => match av with
  | [.inr (.inl i), .inr (.inl b), .inl m] => am_col (sm_cp b M) (M 1 5).toNat (h_SM_prepare b (sm_cp b M))
  | _ => M
def ct_SM_prepare : am_T := fun pc => if pc = 5 then some (2, am_ctV vw_S 5 P_LO_copy (am_po f_LO_copy g_LO_copy)) else if pc = 50 then some (2, am_ctV vw_S 5 P_LO_firstDue (am_po f_LO_firstDue g_LO_firstDue)) else if pc = 62 then some (2, am_ctS P_JM_max (am_po f_JM_max g_JM_max)) else none
theorem e_SM_prepare_5 : ct_SM_prepare 5 = some (2, am_ctV vw_S 5 P_LO_copy (am_po f_LO_copy g_LO_copy)) := rfl
theorem e_SM_prepare_50 : ct_SM_prepare 50 = some (2, am_ctV vw_S 5 P_LO_firstDue (am_po f_LO_firstDue g_LO_firstDue)) := rfl
theorem e_SM_prepare_62 : ct_SM_prepare 62 = some (2, am_ctS P_JM_max (am_po f_JM_max g_JM_max)) := rfl
theorem ct_SM_prepare_ok (l : Launch) : am_CC b_SM_prepare 5 w_SM_prepare y_SM_prepare.cls l r_SM_prepare ct_SM_prepare := by
  intro p e s m args below meth c H0 A D G ad Q S hK hN hA pc q ct h
  have hts := S.2.2.2.2
  unfold ct_SM_prepare at h
  split at h
  · rename_i hpc
    subst hpc; cases h
    exact am_callV S vw_N_ok hK hN hA ⟨Nat.zero_le _, Nat.zero_le _⟩ (m_LO_copy l) (s_SM_62 hts am_vW hN ⟨by decide, by decide⟩) (by rfl) d_SM_prepare_5
  split at h
  · rename_i hpc
    subst hpc; cases h
    exact am_callV S vw_N_ok hK hN hA ⟨Nat.zero_le _, Nat.zero_le _⟩ (m_LO_firstDue l) (s_SM_69 hts am_vW hN ⟨by decide, by decide⟩) (by rfl) d_SM_prepare_50
  split at h
  · rename_i hpc
    subst hpc; cases h
    exact am_callS S vw_N_ok hK hN hA ⟨Nat.zero_le _, Nat.zero_le _⟩ (m_JM_max l) (s_SM_73 hts am_vW hN ⟨by decide, by decide⟩) d_SM_prepare_62
  cases h
theorem sm_cp_k {b : Nat} {M : am_M} {k j : Nat} (hk : k < 20 ∨ 23 < k) : sm_cp b M k j = M k j := am_col_k (by simp only [h_LO_copy]; (repeat' split) <;> (first | rfl | omega))
theorem sm_last_b {b : Nat} {M : am_M} {m B : Int} (hm : 0 ≤ m ∧ m ≤ B) : ∀ r : Nat, (∀ j, j < r → lo_fd b M (M 6 j).toNat ≤ B) → m ≤ sm_last b M m r ∧ sm_last b M m r ≤ B
  | 0, _ => by simp only [sm_last]; omega
  | r + 1, h => by
    have h1 := sm_last_b (b := b) (M := M) hm r (fun j hj => h j (by omega))
    have h2 := h r (by omega)
    rw [sm_last]
    by_cases e : sm_last b M m r < lo_fd b M (M 6 r).toNat
    · rw [if_pos e]; omega
    · rw [if_neg e]; omega
def inv_SM_prepare : List am_V → am_M → Nat → am_K := fun av M μ pc ls st M2 => match av with
  | [.inr (.inl i), .inr (.inl b), .inl m] => (pc = 0 ∧ ls = am_l0 [.inr (.inl i), .inr (.inl b), .inl m] 5 ∧ st = [] ∧ M = M2 ∧ μ = 100) ∨ ∃ t : Int, pc = 13 ∧ ls = [some (.inr (.inl i)), some (.inr (.inl b)), some (.inl m), some (.inl (sm_last b (sm_cp b M) m t.toNat)), some (.inl t)] ∧ st = [] ∧ M2 = am_col (sm_cp b M) t.toNat (h_SM_prepare b (sm_cp b M)) ∧ (0 ≤ t ∧ t ≤ M 1 5) ∧ μ = (M 1 5 - t).toNat
  | _ => False
theorem m_SM_prepare (l : Launch) : am_MF l y_SM_prepare w_SM_prepare r_SM_prepare P_SM_prepare f_SM_prepare g_SM_prepare := by
  refine am_mkL (fun pc => pc == 13) i_SM_prepare_ok fd_SM_ok (ct_SM_prepare_ok l) (plainFor_of_name (by decide +kernel)) (by decide) ?_ 60 inv_SM_prepare ?_ ?_
  · intro av M h
    unfold P_SM_prepare at h
    split at h
    · exact ⟨Nat.le_of_ble_eq_true rfl, rfl⟩
    · exact h.elim
  · intro av M h
    unfold P_SM_prepare at h
    split at h
    · exact ⟨_, Or.inl ⟨rfl, rfl, rfl, rfl, rfl⟩⟩
    · exact h.elim
  · intro av M h μ pc ls st M2 hi
    unfold P_SM_prepare at h
    split at h
    · rename_i i b m
      obtain ⟨rfl, ⟨hb0, hb1, hb2, hb3, hb4, hbl, hbn⟩, hb25, ⟨h3, h4⟩, h5, h6⟩ := h
      rcases hi with ⟨rfl, rfl, rfl, rfl, rfl⟩ | ⟨t, rfl, rfl, rfl, hM, ht, rfl⟩
      · skip
        refine xs_aload_n (q := 1) i_SM_prepare_0 rfl rfl (xs_n rfl ?_)
        refine xs_getr (q := 4) i_SM_prepare_1 rfl fd_SM_27 sg_18 rfl (xs_n rfl ?_)
        refine xs_aload_n (q := 5) i_SM_prepare_4 rfl rfl (xs_n rfl ?_)
        refine xs_cv (q := 8) (av := [_, _]) (rest := []) i_SM_prepare_5 rfl (e_SM_prepare_5) ⟨rfl, rfl⟩ rfl rfl ?_
        rw [am_V_iff]
        refine ⟨⟨_, sg_19⟩, ⟨lo_19, ⟨hb0, hb1, hb2, hb3, hb4, hbl, hbn⟩, by omega, h3⟩, ?_⟩
        rw [show g_LO_copy [.inr (.inl 19), .inr (.inl b)] M = sm_cp b M from rfl]
        refine xs_r0 rfl (xs_n rfl ?_)
        refine xs_iload_n (q := 9) i_SM_prepare_8 rfl rfl (xs_n rfl ?_)
        refine xs_istore_n (q := 10) (ls2 := [_, _, _, _, _]) i_SM_prepare_9 rfl rfl rfl (xs_n rfl ?_)
        refine xs_iconst (q := 11) i_SM_prepare_10 rfl (xs_n rfl ?_)
        refine xs_istore (q := 13) (ls2 := [_, _, _, _, _]) i_SM_prepare_11 rfl rfl rfl (xs_z rfl ?_)
        exact ⟨(M 1 5).toNat, by omega, Or.inr ⟨0, rfl, rfl, rfl, (am_col_0 _ _).symm, by omega, by omega⟩⟩
      · skip
        have ek : ∀ k j, k ≠ 24 → k ≠ 25 → M2 k j = sm_cp b M k j := fun k j hk1 hk2 => by rw [hM]; exact am_col_k (by simp only [h_SM_prepare]; rw [if_neg hk1, if_neg hk2])
        have ec : ∀ q, M2 q t.toNat = sm_cp b M q t.toNat := fun q => by rw [hM]; exact am_col_ge (Nat.le_refl _)
        have e0 : M2 1 5 = M 1 5 := by rw [ek 1 5 (by decide) (by decide)]; exact sm_cp_k (by omega)
        refine xs_iload (q := 15) i_SM_prepare_13 rfl rfl (xs_n rfl ?_)
        refine xs_aload_n (q := 16) i_SM_prepare_15 rfl rfl (xs_n rfl ?_)
        refine xs_getr (q := 19) i_SM_prepare_16 rfl fd_SM_18 sg_18 rfl (xs_n rfl ?_)
        refine xs_geti (q := 22) i_SM_prepare_19 rfl fd_SM_50 sg_1 rfl (xs_n rfl ?_)
        refine xs_ic_ge (q := 72) (r := 25) i_SM_prepare_22 rfl rfl ⟨by unfold am_R; omega, by unfold am_R; omega⟩ (fun h22 => (xs_n rfl ?_)) (fun h22 => (xs_n rfl ?_))
        · refine xs_iload_n (q := 73) i_SM_prepare_72 rfl rfl (xs_n rfl ?_)
          refine xs_iret i_SM_prepare_73 ?_
          obtain rfl : t = M 1 5 := by omega
          exact xs_fin rfl hM.symm trivial
        · have e6 : ∀ j, sm_cp b M 6 j = M 6 j := fun j => sm_cp_k (by omega)
          have hq := (h4 t.toNat (by omega)).1
          have hp := h4 (M 6 t.toNat).toNat (by omega)
          have hs := h5 (M 6 t.toNat).toNat (by omega)
          have k1 : ∀ j, sm_cp b M (b + 1) j = M (b + 1) j := fun j => sm_cp_k (by omega)
          have k3 : ∀ j, sm_cp b M (b + 3) j = M (b + 3) j := fun j => sm_cp_k (by omega)
          have k4 : ∀ j, sm_cp b M (b + 4) j = M (b + 4) j := fun j => sm_cp_k (by omega)
          have k5 : ∀ j, sm_cp b M 5 j = M 5 j := fun j => sm_cp_k (by omega)
          have hfd : 0 ≤ lo_fd b (sm_cp b M) (M 6 t.toNat).toNat ∧ lo_fd b (sm_cp b M) (M 6 t.toNat).toNat ≤ 2000000 := by
            unfold lo_fd
            rw [k1, k3, k4, k5]
            by_cases e : 0 < M (b + 3) (M 6 t.toNat).toNat
            · rw [if_pos e]; omega
            · rw [if_neg e]; omega
          refine xs_aload_n (q := 26) i_SM_prepare_25 rfl rfl (xs_n rfl ?_)
          refine xs_getr (q := 29) i_SM_prepare_26 rfl fd_SM_9 sg_18 rfl (xs_n rfl ?_)
          refine xs_iload (q := 31) i_SM_prepare_29 rfl rfl (xs_n rfl ?_)
          refine xs_iconst (q := 32) i_SM_prepare_31 rfl (xs_n rfl ?_)
          refine xs_iastore (q := 33) i_SM_prepare_32 rfl sg_24 (by omega) (xs_n rfl ?_)
          refine xs_aload_n (q := 34) i_SM_prepare_33 rfl rfl (xs_n rfl ?_)
          refine xs_getr (q := 37) i_SM_prepare_34 rfl fd_SM_15 sg_18 rfl (xs_n rfl ?_)
          refine xs_iload (q := 39) i_SM_prepare_37 rfl rfl (xs_n rfl ?_)
          refine xs_aload_n (q := 40) i_SM_prepare_39 rfl rfl (xs_n rfl ?_)
          refine xs_aload_n (q := 41) i_SM_prepare_40 rfl rfl (xs_n rfl ?_)
          refine xs_getr (q := 44) i_SM_prepare_41 rfl fd_SM_18 sg_18 rfl (xs_n rfl ?_)
          refine xs_getr (q := 47) i_SM_prepare_44 rfl fd_SM_66 sg_1 rfl (xs_n rfl ?_)
          refine xs_iload (q := 49) i_SM_prepare_47 rfl rfl (xs_n rfl ?_)
          refine xs_iaload (q := 50) i_SM_prepare_49 rfl sg_6 rfl (by omega) (xs_n rfl ?_)
          refine xs_cv (q := 53) (av := [_, _]) (rest := [_, _]) i_SM_prepare_50 rfl (e_SM_prepare_50) ⟨rfl, rfl⟩ rfl rfl ?_
          rw [am_V_iff]
          refine ⟨⟨_, hb0⟩, ⟨⟨hb0, hb1, hb2, hb3, hb4, hbl, hbn⟩, by rw [am_up_k _ _ (by decide), ec, e6]; omega, by rw [am_up_k _ _ (by omega), am_up_k _ _ (by decide), ec, e6, ek _ _ (by omega) (by omega), k3]; unfold am_R; omega⟩, ?_⟩
          dsimp only [g_LO_firstDue, g_id]
          refine xs_r1 rfl (xs_n rfl ?_)
          refine xs_iastore (q := 54) i_SM_prepare_53 rfl sg_25 (by omega) (xs_n rfl ?_)
          refine xs_iload_n (q := 55) i_SM_prepare_54 rfl rfl (xs_n rfl ?_)
          refine xs_aload_n (q := 56) i_SM_prepare_55 rfl rfl (xs_n rfl ?_)
          refine xs_getr (q := 59) i_SM_prepare_56 rfl fd_SM_15 sg_18 rfl (xs_n rfl ?_)
          refine xs_iload (q := 61) i_SM_prepare_59 rfl rfl (xs_n rfl ?_)
          refine xs_iaload (q := 62) i_SM_prepare_61 rfl sg_25 rfl (by omega) (xs_n rfl ?_)
          have efd : (if 0 < am_up M2 24 t.toNat 0 (b + 3) (am_up M2 24 t.toNat 0 6 t.toNat).toNat then am_up M2 24 t.toNat 0 (b + 4) (am_up M2 24 t.toNat 0 6 t.toNat).toNat else am_up M2 24 t.toNat 0 (b + 1) (am_up M2 24 t.toNat 0 6 t.toNat).toNat + am_up M2 24 t.toNat 0 5 (am_up M2 24 t.toNat 0 6 t.toNat).toNat) = lo_fd b (sm_cp b M) (M 6 t.toNat).toNat := by
            rw [am_up_k _ _ (show (6 : Nat) ≠ 24 by decide), ec, e6, am_up_k _ _ (show b + 3 ≠ 24 by omega), am_up_k _ _ (show b + 4 ≠ 24 by omega), am_up_k _ _ (show b + 1 ≠ 24 by omega), am_up_k _ _ (show (5 : Nat) ≠ 24 by decide), ek _ _ (by omega) (by omega), ek _ _ (by omega) (by omega), ek _ _ (by omega) (by omega), ek _ _ (by omega) (by omega)]
            rfl
          have hlb := sm_last_b (b := b) (M := sm_cp b M) (m := m) (B := 2000000) (by omega) t.toNat (fun j hj => by
              have q1 := (h4 j (by omega)).1
              have q2 := h4 (M 6 j).toNat (by omega)
              have q3 := h5 (M 6 j).toNat (by omega)
              unfold lo_fd
              rw [show sm_cp b M (b + 1) = M (b + 1) from funext fun j => sm_cp_k (by omega), show sm_cp b M (b + 3) = M (b + 3) from funext fun j => sm_cp_k (by omega), show sm_cp b M (b + 4) = M (b + 4) from funext fun j => sm_cp_k (by omega), show sm_cp b M 5 = M 5 from funext fun j => sm_cp_k (by omega), show sm_cp b M 6 = M 6 from funext fun j => sm_cp_k (by omega)]
              by_cases e : 0 < M (b + 3) (M 6 j).toNat
              · rw [if_pos e]; omega
              · rw [if_neg e]; omega)
          refine xs_cs (q := 65) (av := [_, _]) (rest := []) i_SM_prepare_62 rfl (e_SM_prepare_62) ⟨rfl, rfl⟩ rfl rfl ?_
          rw [am_S_iff]
          refine ⟨⟨by unfold am_R; omega, by rw [am_up_s, efd]; unfold am_R; omega⟩, ?_⟩
          dsimp only [g_JM_max, g_id]
          refine xs_r1 rfl (xs_n rfl ?_)
          refine xs_istore_n (q := 66) (ls2 := [_, _, _, _, _]) i_SM_prepare_65 rfl rfl rfl (xs_n rfl ?_)
          refine xs_iinc (q := 69) (ls2 := [_, _, _, _, _]) i_SM_prepare_66 rfl rfl rfl (xs_n rfl ?_)
          refine xs_goto (q := 13) i_SM_prepare_69 rfl (xs_z rfl ?_)
          refine ⟨(M 1 5 - (t + 1)).toNat, by omega, Or.inr ⟨t + 1, rfl, ?_, rfl, ?_, by omega, rfl⟩⟩
          · rw [show (t + 1).toNat = t.toNat + 1 by omega]
            simp only [sm_last, efd, am_up_s, e6]
          · rw [show (t + 1).toNat = t.toNat + 1 by omega]
            refine am_col_s hM (fun q => ?_) (fun q j hj => ?_)
            · rw [efd]
              simp only [am_up, h_SM_prepare, and_true, e6]
              by_cases c1 : q = 25
              · rw [if_pos c1, if_neg (by omega), if_pos c1]
              · by_cases c2 : q = 24
                · rw [if_neg c1, if_pos c2, if_pos c2]
                · rw [if_neg c1, if_neg c2, if_neg c2, if_neg c1]; exact ec q
            · rw [am_up_j _ _ hj, am_up_j _ _ hj]
    · exact h.elim
