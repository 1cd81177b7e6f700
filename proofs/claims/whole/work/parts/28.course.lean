/-! contracts: Course (wip/whole/p28.py) -/
def P_CO_begin : am_P := fun av M => match av with
  | [.inr (.inl d), .inr (.inl i), .inl k] => co_at d ∧ i = 7 ∧ (0 ≤ k ∧ k ≤ 3) ∧ (0 ≤ M 1 5 ∧ M 1 5 ≤ 5)
  | _ => False
def f_CO_begin : am_Fr := fun av M => match av with
  | [.inr (.inl d), .inr (.inl i), .inl k] => none
  | _ => none
def g_CO_begin : am_Fm := fun av M => match av with
  | [.inr (.inl d), .inr (.inl i), .inl k] => am_up (am_up (g_BU_begin [.inr (.inl (d + 9)), .inr (.inl 7), .inl k] (g_QU_begin [.inr (.inl (d + 6))] (g_LO_begin [.inr (.inl (d + 1))] M))) d 5 k) d 6 0
  | _ => M
def ct_CO_begin : am_T := fun pc => if pc = 4 then some (1, am_ctV vw_S 5 P_LO_begin (am_po f_LO_begin g_LO_begin)) else if pc = 11 then some (1, am_ctV vw_S 8 P_QU_begin (am_po f_QU_begin g_QU_begin)) else if pc = 20 then some (3, am_ctV vw_S 7 P_BU_begin (am_po f_BU_begin g_BU_begin)) else none
theorem e_CO_begin_4 : ct_CO_begin 4 = some (1, am_ctV vw_S 5 P_LO_begin (am_po f_LO_begin g_LO_begin)) := rfl
theorem e_CO_begin_11 : ct_CO_begin 11 = some (1, am_ctV vw_S 8 P_QU_begin (am_po f_QU_begin g_QU_begin)) := rfl
theorem e_CO_begin_20 : ct_CO_begin 20 = some (3, am_ctV vw_S 7 P_BU_begin (am_po f_BU_begin g_BU_begin)) := rfl
theorem ct_CO_begin_ok (l : Launch) : am_CC b_CO_begin 3 w_CO_begin y_CO_begin.cls l r_CO_begin ct_CO_begin := by
  intro p e s m args below meth c H0 A D G ad Q S hK hN hA pc q ct h
  have hts := S.2.2.2.2
  unfold ct_CO_begin at h
  split at h
  · rename_i hpc
    subst hpc; cases h
    exact am_callV S vw_N_ok hK hN hA ⟨Nat.zero_le _, Nat.zero_le _⟩ (m_LO_begin l) (s_CO_51 hts am_vW hN ⟨by decide, by decide⟩) (by rfl) d_CO_begin_4
  split at h
  · rename_i hpc
    subst hpc; cases h
    exact am_callV S vw_N_ok hK hN hA ⟨Nat.zero_le _, Nat.zero_le _⟩ (m_QU_begin l) (s_CO_54 hts am_vW hN ⟨by decide, by decide⟩) (by rfl) d_CO_begin_11
  split at h
  · rename_i hpc
    subst hpc; cases h
    exact am_callV S vw_N_ok hK hN hA ⟨Nat.zero_le _, Nat.zero_le _⟩ (m_BU_begin l) (s_CO_55 hts am_vW hN ⟨by decide, by decide⟩) (by rfl) d_CO_begin_20
  cases h
theorem m_CO_begin (l : Launch) : am_MF l y_CO_begin w_CO_begin r_CO_begin P_CO_begin f_CO_begin g_CO_begin := by
  refine am_mk0 i_CO_begin_ok fd_CO_ok (ct_CO_begin_ok l) (plainFor_of_name (by decide +kernel)) (by decide) ?_ 30 ?_
  · intro av M h
    unfold P_CO_begin at h
    split at h
    · exact ⟨Nat.le_of_ble_eq_true rfl, rfl⟩
    · exact h.elim
  · intro av M Z h
    unfold P_CO_begin at h
    split at h
    · rename_i d i k
      obtain ⟨hdd, rfl, h1, h2⟩ := h
      have hd0 := hdd.1
      have hL := hdd.2.1
      have hQ := hdd.2.2.1
      have hU := hdd.2.2.2.1
      have hd26 := hdd.2.2.2.2
      have hl0 := hL.1
      have hq0 := hQ.1
      have hu0 := hU.1
      refine xs_aload_n (q := 1) i_CO_begin_0 rfl rfl (xs_n rfl ?_)
      refine xs_getr (q := 4) i_CO_begin_1 rfl fd_CO_31 hd0 rfl (xs_n rfl ?_)
      refine xs_cv (q := 7) (av := [_]) (rest := []) i_CO_begin_4 rfl (e_CO_begin_4) ⟨rfl, rfl⟩ rfl rfl ?_
      rw [am_V_iff]
      refine ⟨⟨_, hl0⟩, ⟨hL, h2⟩, ?_⟩
      refine xs_r0 rfl (xs_n rfl ?_)
      refine xs_aload_n (q := 8) i_CO_begin_7 rfl rfl (xs_n rfl ?_)
      refine xs_getr (q := 11) i_CO_begin_8 rfl fd_CO_40 hd0 rfl (xs_n rfl ?_)
      refine xs_cv (q := 14) (av := [_]) (rest := []) i_CO_begin_11 rfl (e_CO_begin_11) ⟨rfl, rfl⟩ rfl rfl ?_
      rw [am_V_iff]
      refine ⟨⟨_, hq0⟩, hQ, ?_⟩
      refine xs_r0 rfl (xs_n rfl ?_)
      refine xs_aload_n (q := 15) i_CO_begin_14 rfl rfl (xs_n rfl ?_)
      refine xs_getr (q := 18) i_CO_begin_15 rfl fd_CO_47 hd0 rfl (xs_n rfl ?_)
      refine xs_aload_n (q := 19) i_CO_begin_18 rfl rfl (xs_n rfl ?_)
      refine xs_iload_n (q := 20) i_CO_begin_19 rfl rfl (xs_n rfl ?_)
      refine xs_cv (q := 23) (av := [_, _, _]) (rest := []) i_CO_begin_20 rfl (e_CO_begin_20) ⟨rfl, rfl⟩ rfl rfl ?_
      rw [am_V_iff]
      refine ⟨⟨_, hu0⟩, ⟨hU, rfl, h1⟩, ?_⟩
      refine xs_r0 rfl (xs_n rfl ?_)
      refine xs_aload_n (q := 24) i_CO_begin_23 rfl rfl (xs_n rfl ?_)
      refine xs_iload_n (q := 25) i_CO_begin_24 rfl rfl (xs_n rfl ?_)
      refine xs_puti (q := 28) i_CO_begin_25 rfl fd_CO_9 hd0 rfl (xs_n rfl ?_)
      refine xs_aload_n (q := 29) i_CO_begin_28 rfl rfl (xs_n rfl ?_)
      refine xs_iconst (q := 30) i_CO_begin_29 rfl (xs_n rfl ?_)
      refine xs_puti (q := 33) i_CO_begin_30 rfl fd_CO_15 hd0 rfl (xs_n rfl ?_)
      refine xs_ret i_CO_begin_33 ?_
      exact xs_fin rfl rfl trivial
    · exact h.elim
theorem sm_lp_k {k j : Nat} (hk : k < 20 ∨ 25 < k) : ∀ (n : Nat) (a s : Int) (M : am_M), (sm_lp n a s M).2 k j = M k j
  | 0, a, s, M => rfl
  | n + 1, a, s, M => by
    rw [sm_lp]
    by_cases h : sm_set s a M = 0
    · rw [if_pos h, sm_lp_k hk n]
      exact sm_tk_k (by omega)
    · rw [if_neg h]
/-- the course's look for slack: its answer (at most 1) and the memory behind it -/
def co_ms (d : Nat) (m : Int) (M : am_M) : Int := (sm_lp (sm_L (d + 1) M m - m).toNat m 1 (sm_P (d + 1) M)).1
def co_mm (d : Nat) (m : Int) (M : am_M) : am_M := (sm_lp (sm_L (d + 1) M m - m).toNat m 1 (sm_P (d + 1) M)).2
theorem co_mm_k {d : Nat} {m : Int} {M : am_M} {k j : Nat} (hk : k < 20 ∨ 25 < k) : co_mm d m M k j = M k j := by
  unfold co_mm
  rw [sm_lp_k hk]
  exact sm_P_k hk
def co_rk (d : Nat) (M : am_M) : Nat := am_fi (fun r => decide (0 < M (d + 1 + 3) (M 6 r).toNat)) (M 1 5).toNat 0
theorem co_rk_le (d : Nat) (M : am_M) : co_rk d M ≤ (M 1 5).toNat := by
  have := (am_fi_sp (fun r => decide (0 < M (d + 1 + 3) (M 6 r).toNat)) (M 1 5).toNat 0).2.1
  unfold co_rk
  omega
/-- a job has the tick; a task has it -/
def co_sv (d : Nat) (m nb : Int) (M : am_M) : am_M := g_QU_serve [.inr (.inl (d + 6)), .inl nb, .inl m] (g_BU_take [.inr (.inl (d + 9)), .inl m] M)
def co_rn (d rk : Nat) (M : am_M) : am_M := g_LO_run [.inr (.inl (d + 1)), .inl (rk : Int)] M
/-- the queue and the budget as they must lie -/
def co_ok (d : Nat) (M : am_M) : Prop := (0 ≤ M (d + 6) 3 ∧ M (d + 6) 3 ≤ 40) ∧ (0 ≤ M (d + 6) 4 ∧ M (d + 6) 4 ≤ 1000) ∧ (∀ j, j < 40 → (-100 ≤ M (d + 6 + 1) j ∧ M (d + 6 + 1) j ≤ 1000) ∧ (M 13 j = 0 ∨ M 13 j = 1)) ∧ (1 ≤ M (d + 9) 3 ∧ M (d + 9) 3 ≤ 60) ∧ (-100000 ≤ M (d + 9) 4 ∧ M (d + 9) 4 ≤ 100000) ∧ (0 ≤ M d 5 ∧ M d 5 ≤ 3)
theorem qu_fst_b {c : Nat} {M : am_M} (h : 0 ≤ M c 3) : -1 ≤ qu_fst c M ∧ (qu_fst c M = -1 ∨ (0 ≤ qu_fst c M ∧ qu_fst c M < M c 3)) := by
  unfold qu_fst
  by_cases h1 : M c 4 ≤ 0
  · rw [if_pos h1]; omega
  · rw [if_neg h1]
    by_cases h2 : am_fi (fun j => decide (0 < M (c + 1) j ∧ M 13 j ≠ 0)) (M c 3).toNat 0 < (M c 3).toNat
    · rw [if_pos h2]; omega
    · rw [if_neg h2]
      by_cases h3 : am_fi (fun j => decide (0 < M (c + 1) j)) (M c 3).toNat 0 < (M c 3).toNat
      · rw [if_pos h3]; omega
      · rw [if_neg h3]; omega
def P_CO_runOne : am_P := fun av M => match av with
  | [.inr (.inl d), .inl m] => co_at d ∧ ts_ok M ∧ lo_in (d + 1) M ∧ sm_x M ∧ (0 ≤ m ∧ m ≤ 100000) ∧ co_ok d M
  | _ => False
def f_CO_runOne : am_Fr := fun av M => match av with
  | [.inr (.inl d), .inl m] => some (.inl (if qu_fst (d + 6) M = -1 then (if M 1 5 ≤ co_rk d M then 0 else M 6 (co_rk d M) + 1) else if M 1 5 ≤ co_rk d M ∨ 0 < M (d + 9) 4 then -1 - qu_fst (d + 6) M else if M d 5 = 3 ∧ 0 < co_ms d m M then -1 - qu_fst (d + 6) M else M 6 (co_rk d M) + 1))
  | _ => none
def g_CO_runOne : am_Fm := fun av M => match av with
  | [.inr (.inl d), .inl m] => (if qu_fst (d + 6) M = -1 then (if M 1 5 ≤ co_rk d M then M else co_rn d (co_rk d M) M) else if M 1 5 ≤ co_rk d M ∨ 0 < M (d + 9) 4 then co_sv d m (qu_fst (d + 6) M) M else if M d 5 = 3 then (if 0 < co_ms d m M then co_sv d m (qu_fst (d + 6) M) (co_mm d m M) else co_rn d (co_rk d M) (co_mm d m M)) else co_rn d (co_rk d M) M)
  | _ => M
def ct_CO_runOne : am_T := fun pc => if pc = 4 then some (1, am_ctV vw_S 5 P_LO_readyRank (am_po f_LO_readyRank g_LO_readyRank)) else if pc = 29 then some (1, am_ctV vw_S 8 P_QU_first (am_po f_QU_first g_QU_first)) else if pc = 72 then some (4, am_ctV vw_S 6 P_SM_measure (am_po f_SM_measure g_SM_measure)) else if pc = 83 then some (2, am_ctV vw_S 7 P_BU_take (am_po f_BU_take g_BU_take)) else if pc = 93 then some (3, am_ctV vw_S 8 P_QU_serve (am_po f_QU_serve g_QU_serve)) else if pc = 112 then some (2, am_ctV vw_S 5 P_LO_run (am_po f_LO_run g_LO_run)) else none
theorem e_CO_runOne_4 : ct_CO_runOne 4 = some (1, am_ctV vw_S 5 P_LO_readyRank (am_po f_LO_readyRank g_LO_readyRank)) := rfl
theorem e_CO_runOne_29 : ct_CO_runOne 29 = some (1, am_ctV vw_S 8 P_QU_first (am_po f_QU_first g_QU_first)) := rfl
theorem e_CO_runOne_72 : ct_CO_runOne 72 = some (4, am_ctV vw_S 6 P_SM_measure (am_po f_SM_measure g_SM_measure)) := rfl
theorem e_CO_runOne_83 : ct_CO_runOne 83 = some (2, am_ctV vw_S 7 P_BU_take (am_po f_BU_take g_BU_take)) := rfl
theorem e_CO_runOne_93 : ct_CO_runOne 93 = some (3, am_ctV vw_S 8 P_QU_serve (am_po f_QU_serve g_QU_serve)) := rfl
theorem e_CO_runOne_112 : ct_CO_runOne 112 = some (2, am_ctV vw_S 5 P_LO_run (am_po f_LO_run g_LO_run)) := rfl
theorem ct_CO_runOne_ok (l : Launch) : am_CC b_CO_runOne 5 w_CO_runOne y_CO_runOne.cls l r_CO_runOne ct_CO_runOne := by
  intro p e s m args below meth c H0 A D G ad Q S hK hN hA pc q ct h
  have hts := S.2.2.2.2
  unfold ct_CO_runOne at h
  split at h
  · rename_i hpc
    subst hpc; cases h
    exact am_callV S vw_N_ok hK hN hA ⟨Nat.zero_le _, Nat.zero_le _⟩ (m_LO_readyRank l) (s_CO_72 hts am_vW hN ⟨by decide, by decide⟩) (by rfl) d_CO_runOne_4
  split at h
  · rename_i hpc
    subst hpc; cases h
    exact am_callV S vw_N_ok hK hN hA ⟨Nat.zero_le _, Nat.zero_le _⟩ (m_QU_first l) (s_CO_81 hts am_vW hN ⟨by decide, by decide⟩) (by rfl) d_CO_runOne_29
  split at h
  · rename_i hpc
    subst hpc; cases h
    exact am_callV S vw_N_ok hK hN hA ⟨Nat.zero_le _, Nat.zero_le _⟩ (m_SM_measure l) (s_CO_87 hts am_vW hN ⟨by decide, by decide⟩) (by rfl) d_CO_runOne_72
  split at h
  · rename_i hpc
    subst hpc; cases h
    exact am_callV S vw_N_ok hK hN hA ⟨Nat.zero_le _, Nat.zero_le _⟩ (m_BU_take l) (s_CO_93 hts am_vW hN ⟨by decide, by decide⟩) (by rfl) d_CO_runOne_83
  split at h
  · rename_i hpc
    subst hpc; cases h
    exact am_callV S vw_N_ok hK hN hA ⟨Nat.zero_le _, Nat.zero_le _⟩ (m_QU_serve l) (s_CO_96 hts am_vW hN ⟨by decide, by decide⟩) (by rfl) d_CO_runOne_93
  split at h
  · rename_i hpc
    subst hpc; cases h
    exact am_callV S vw_N_ok hK hN hA ⟨Nat.zero_le _, Nat.zero_le _⟩ (m_LO_run l) (s_CO_100 hts am_vW hN ⟨by decide, by decide⟩) (by rfl) d_CO_runOne_112
  cases h
theorem co_rn_k {d r : Nat} {M : am_M} {k j : Nat} (hk : k ≠ d + 1 + 3) : co_rn d r M k j = M k j := by
  simp only [co_rn, g_LO_run]
  by_cases h : (0 : Int) ≤ (r : Int) ∧ (r : Int) ≤ M 1 5 - 1
  · rw [if_pos h, am_up_k _ _ hk]
  · rw [if_neg h]
theorem bu_take_k {u : Nat} {m : Int} {M : am_M} {k j : Nat} (h1 : k ≠ u) (h2 : k ≠ u + 1) : g_BU_take [.inr (.inl u), .inl m] M k j = M k j := by
  simp only [g_BU_take]
  by_cases h : 0 < M u 4
  · rw [if_pos h, am_up_k _ _ h2, am_up_k _ _ h1]
  · rw [if_neg h]
theorem sm_mn_b {a : Int} {M : am_M} {s : Int} (hs : 0 ≤ s) : ∀ n : Nat, (∀ r, r < n → 0 ≤ M 24 r) → 0 ≤ sm_mn a M n s ∧ sm_mn a M n s ≤ s
  | 0, _ => by simp only [sm_mn]; omega
  | n + 1, h => by
    have h1 := sm_mn_b (a := a) (M := M) hs n (fun r hr => h r (by omega))
    have h2 := h n (by omega)
    rw [sm_mn]
    by_cases e : M 25 n = a + 1
    · rw [if_pos e]
      by_cases e2 : M 24 n < sm_mn a M n s
      · rw [if_pos e2]; omega
      · rw [if_neg e2]; omega
    · rw [if_neg e]; omega
theorem sm_lp_b : ∀ (n : Nat) (a s d : Int) (M : am_M), sm_B M d → 0 ≤ s → (0 ≤ a ∧ a + n ≤ 150000) → (0 ≤ d ∧ d + n ≤ 150000) → 0 ≤ (sm_lp n a s M).1 ∧ (sm_lp n a s M).1 ≤ s
  | 0, a, s, d, M, _, hs, _, _ => by simp only [sm_lp]; omega
  | n + 1, a, s, d, M, hB, hs, ha, hd => by
    rw [sm_lp]
    by_cases h : sm_set s a M = 0
    · rw [if_pos h]
      have hT := sm_tk_B (a := a) hB (by omega) (by omega)
      have hc := hB.1.1
      have h1 := sm_mn_b (a := a) (M := sm_tk a M) hs (M 1 5).toNat (fun r hr => (hT.2.1 r (by omega)).2.2.2.2.1.1)
      have h2 := sm_lp_b n (a + 1) _ (d + 1) _ hT h1.1 (by omega) (by omega)
      omega
    · rw [if_neg h]
      show 0 ≤ s ∧ s ≤ s
      omega
theorem co_ms_b {d : Nat} {m : Int} {M : am_M} (hd : 25 < d + 1) (h1 : ts_ok M) (h2 : lo_in (d + 1) M) (h3 : sm_x M) (hm : 0 ≤ m ∧ m ≤ 100000) : 0 ≤ co_ms d m M ∧ co_ms d m M ≤ 1 := by
  have hL := sm_L_b hd h1 h2 hm
  exact sm_lp_b _ m 1 0 _ (sm_P_B hd h1 h2 h3) (by omega) (by omega) (by omega)
theorem m_CO_runOne (l : Launch) : am_MF l y_CO_runOne w_CO_runOne r_CO_runOne P_CO_runOne f_CO_runOne g_CO_runOne := by
  refine am_mk0 i_CO_runOne_ok fd_CO_ok (ct_CO_runOne_ok l) (plainFor_of_name (by decide +kernel)) (by decide) ?_ 90 ?_
  · intro av M h
    unfold P_CO_runOne at h
    split at h
    · exact ⟨Nat.le_of_ble_eq_true rfl, rfl⟩
    · exact h.elim
  · intro av M Z h
    unfold P_CO_runOne at h
    split at h
    · rename_i d m
      obtain ⟨hdd, h1, h2, h3, h5, ⟨h6, h7, h8, h9, h10, h11⟩⟩ := h
      have hd0 := hdd.1
      have hL := hdd.2.1
      have hQ := hdd.2.2.1
      have hU := hdd.2.2.2.1
      have hd26 := hdd.2.2.2.2
      have hl0 := hL.1
      have hq0 := hQ.1
      have hu0 := hU.1
      have hrk := co_rk_le d M
      have hc0 := h1.1
      have hnb := qu_fst_b (c := d + 6) (M := M) h6.1
      have hms := co_ms_b (d := d) (m := m) (by omega) h1 h2 h3 h5
      have hmk : ∀ k j, (k < 20 ∨ 25 < k) → co_mm d m M k j = M k j := fun k j hk => co_mm_k hk
      refine xs_aload_n (q := 1) i_CO_runOne_0 rfl rfl (xs_n rfl ?_)
      refine xs_getr (q := 4) i_CO_runOne_1 rfl fd_CO_31 hd0 rfl (xs_n rfl ?_)
      refine xs_cv (q := 7) (av := [_]) (rest := []) i_CO_runOne_4 rfl (e_CO_runOne_4) ⟨rfl, rfl⟩ rfl rfl ?_
      rw [am_V_iff]
      refine ⟨⟨_, hl0⟩, ⟨hL, h1, fun j hj => by have := (h2 j hj).2.2.1; unfold am_R; omega⟩, ?_⟩
      dsimp only [g_LO_readyRank, g_id]
      refine xs_r1 rfl (xs_n rfl ?_)
      refine xs_istore_n (q := 8) (ls2 := [_, _, _, _, _]) i_CO_runOne_7 rfl rfl rfl (xs_n rfl ?_)
      refine xs_iload_n (q := 9) i_CO_runOne_8 rfl rfl (xs_n rfl ?_)
      refine xs_aload_n (q := 10) i_CO_runOne_9 rfl rfl (xs_n rfl ?_)
      refine xs_getr (q := 13) i_CO_runOne_10 rfl fd_CO_18 hd0 rfl (xs_n rfl ?_)
      refine xs_geti (q := 16) i_CO_runOne_13 rfl fd_CO_76 sg_1 rfl (xs_n rfl ?_)
      refine xs_ic_lt (q := 23) (r := 19) i_CO_runOne_16 rfl rfl ⟨by show am_R ((co_rk d M : Nat) : Int); unfold am_R; omega, by unfold am_R; omega⟩ (fun h16 => (xs_n rfl ?_)) (fun h16 => (xs_n rfl ?_))
      · refine xs_iconst (q := 24) i_CO_runOne_23 rfl (xs_n rfl ?_)
        refine xs_istore_n (q := 25) (ls2 := [_, _, _, _, _]) i_CO_runOne_24 rfl rfl rfl (xs_n rfl ?_)
        refine xs_aload_n (q := 26) i_CO_runOne_25 rfl rfl (xs_n rfl ?_)
        refine xs_getr (q := 29) i_CO_runOne_26 rfl fd_CO_40 hd0 rfl (xs_n rfl ?_)
        refine xs_cv (q := 32) (av := [_]) (rest := []) i_CO_runOne_29 rfl (e_CO_runOne_29) ⟨rfl, rfl⟩ rfl rfl ?_
        rw [am_V_iff]
        refine ⟨⟨_, hq0⟩, ⟨hQ, h6, by unfold am_R; omega, fun j hj => by have := (h8 j hj).1; unfold am_R; omega, fun j hj => (h8 j hj).2⟩, ?_⟩
        dsimp only [g_QU_first, g_id]
        refine xs_r1 rfl (xs_n rfl ?_)
        refine xs_istore (q := 34) (ls2 := [_, _, _, _, _]) i_CO_runOne_32 rfl rfl rfl (xs_n rfl ?_)
        refine xs_iload (q := 36) i_CO_runOne_34 rfl rfl (xs_n rfl ?_)
        refine xs_iconst (q := 37) i_CO_runOne_36 rfl (xs_n rfl ?_)
        refine xs_ic_eq (q := 101) (r := 40) i_CO_runOne_37 rfl rfl ⟨by show am_R (qu_fst (d + 6) M); unfold am_R; omega, by unfold am_R; omega⟩ (fun h37 => (xs_n rfl ?_)) (fun h37 => (xs_n rfl ?_))
        · refine xs_iload_n (q := 102) i_CO_runOne_101 rfl rfl (xs_n rfl ?_)
          refine xs_if_eq (q := 107) (r := 105) i_CO_runOne_102 rfl rfl (by unfold am_R; omega) (fun h102 => (xs_n rfl ?_)) (fun h102 => (xs_n rfl ?_))
          · refine xs_aload_n (q := 108) i_CO_runOne_107 rfl rfl (xs_n rfl ?_)
            refine xs_getr (q := 111) i_CO_runOne_108 rfl fd_CO_31 hd0 rfl (xs_n rfl ?_)
            refine xs_iload_n (q := 112) i_CO_runOne_111 rfl rfl (xs_n rfl ?_)
            refine xs_cv (q := 115) (av := [_, _]) (rest := []) i_CO_runOne_112 rfl (e_CO_runOne_112) ⟨rfl, rfl⟩ rfl rfl ?_
            rw [am_V_iff]
            refine ⟨⟨_, hl0⟩, ⟨hL, hc0, by show am_R ((co_rk d M : Nat) : Int); unfold am_R; omega, fun j hj => by have := (h1.2 j hj).1; omega⟩, ?_⟩
            refine xs_r0 rfl (xs_n rfl ?_)
            refine xs_aload_n (q := 116) i_CO_runOne_115 rfl rfl (xs_n rfl ?_)
            refine xs_getr (q := 119) i_CO_runOne_116 rfl fd_CO_18 hd0 rfl (xs_n rfl ?_)
            refine xs_getr (q := 122) i_CO_runOne_119 rfl fd_CO_103 sg_1 rfl (xs_n rfl ?_)
            refine xs_iload_n (q := 123) i_CO_runOne_122 rfl rfl (xs_n rfl ?_)
            refine xs_iaload (q := 124) i_CO_runOne_123 rfl sg_6 rfl (by show 0 ≤ ((co_rk d M : Nat) : Int) ∧ ((co_rk d M : Nat) : Int) < 5; have h16b : ((co_rk d M : Nat) : Int) < M 1 5 := h16; omega) (xs_n rfl ?_)
            refine xs_iconst (q := 125) i_CO_runOne_124 rfl (xs_n rfl ?_)
            refine xs_iadd (q := 126) i_CO_runOne_125 rfl (xs_n rfl ?_)
            refine xs_iret i_CO_runOne_126 ?_
            exact xs_fin (by simp only [f_CO_runOne]; rw [if_pos h37, if_neg (show ¬ M 1 5 ≤ (co_rk d M : Int) from fun z => absurd h16 (Int.not_lt.mpr z))]; exact congrArg (fun z => some (Sum.inl (z + 1))) (co_rn_k (k := 6) (by omega)).symm) (by simp only [g_CO_runOne]; rw [if_pos h37, if_neg (show ¬ M 1 5 ≤ (co_rk d M : Int) from fun z => absurd h16 (Int.not_lt.mpr z))]; rfl) trivial
          · first | exact absurd rfl h102 | exact absurd h102 (by decide)
        · refine xs_iload_n (q := 41) i_CO_runOne_40 rfl rfl (xs_n rfl ?_)
          refine xs_if_ne (q := 78) (r := 44) i_CO_runOne_41 rfl rfl (by unfold am_R; omega) (fun h41 => (xs_n rfl ?_)) (fun h41 => (xs_n rfl ?_))
          · first | exact absurd rfl h41 | exact absurd h41 (by decide)
          · refine xs_aload_n (q := 45) i_CO_runOne_44 rfl rfl (xs_n rfl ?_)
            refine xs_getr (q := 48) i_CO_runOne_45 rfl fd_CO_47 hd0 rfl (xs_n rfl ?_)
            refine xs_geti (q := 51) i_CO_runOne_48 rfl fd_CO_84 hu0 rfl (xs_n rfl ?_)
            refine xs_if_gt (q := 78) (r := 54) i_CO_runOne_51 rfl rfl (by unfold am_R; omega) (fun h51 => (xs_n rfl ?_)) (fun h51 => (xs_n rfl ?_))
            · refine xs_aload_n (q := 79) i_CO_runOne_78 rfl rfl (xs_n rfl ?_)
              refine xs_getr (q := 82) i_CO_runOne_79 rfl fd_CO_47 hd0 rfl (xs_n rfl ?_)
              refine xs_iload_n (q := 83) i_CO_runOne_82 rfl rfl (xs_n rfl ?_)
              refine xs_cv (q := 86) (av := [_, _]) (rest := []) i_CO_runOne_83 rfl (e_CO_runOne_83) ⟨rfl, rfl⟩ rfl rfl ?_
              rw [am_V_iff]
              refine ⟨⟨_, hu0⟩, ⟨hU, by omega, h9, by unfold am_R; omega⟩, ?_⟩
              refine xs_r0 rfl (xs_n rfl ?_)
              refine xs_aload_n (q := 87) i_CO_runOne_86 rfl rfl (xs_n rfl ?_)
              refine xs_getr (q := 90) i_CO_runOne_87 rfl fd_CO_40 hd0 rfl (xs_n rfl ?_)
              refine xs_iload (q := 92) i_CO_runOne_90 rfl rfl (xs_n rfl ?_)
              refine xs_iload_n (q := 93) i_CO_runOne_92 rfl rfl (xs_n rfl ?_)
              refine xs_cv (q := 96) (av := [_, _, _]) (rest := []) i_CO_runOne_93 rfl (e_CO_runOne_93) ⟨rfl, rfl⟩ rfl rfl ?_
              rw [am_V_iff]
              refine ⟨⟨_, hq0⟩, ⟨hQ, by show am_R (qu_fst (d + 6) M); unfold am_R; omega, by rw [bu_take_k (by omega) (by omega)]; exact h6, fun j hj => by rw [bu_take_k (by omega) (by omega)]; have := (h8 j hj).1; omega⟩, ?_⟩
              refine xs_r0 rfl (xs_n rfl ?_)
              refine xs_iconst (q := 97) i_CO_runOne_96 rfl (xs_n rfl ?_)
              refine xs_iload (q := 99) i_CO_runOne_97 rfl rfl (xs_n rfl ?_)
              refine xs_isub (q := 100) i_CO_runOne_99 rfl (xs_n rfl ?_)
              refine xs_iret i_CO_runOne_100 ?_
              exact xs_fin (by simp only [f_CO_runOne]; rw [if_neg h37, if_pos (show M 1 5 ≤ (co_rk d M : Int) ∨ 0 < M (d + 9) 4 from Or.inr h51)]) (by simp only [g_CO_runOne]; rw [if_neg h37, if_pos (show M 1 5 ≤ (co_rk d M : Int) ∨ 0 < M (d + 9) 4 from Or.inr h51)]; rfl) trivial
            · refine xs_aload_n (q := 55) i_CO_runOne_54 rfl rfl (xs_n rfl ?_)
              refine xs_geti (q := 58) i_CO_runOne_55 rfl fd_CO_9 hd0 rfl (xs_n rfl ?_)
              refine xs_iconst (q := 59) i_CO_runOne_58 rfl (xs_n rfl ?_)
              refine xs_ic_ne (q := 101) (r := 62) i_CO_runOne_59 rfl rfl ⟨by unfold am_R; omega, by unfold am_R; omega⟩ (fun h59 => (xs_n rfl ?_)) (fun h59 => (xs_n rfl ?_))
              · refine xs_iload_n (q := 102) i_CO_runOne_101 rfl rfl (xs_n rfl ?_)
                refine xs_if_eq (q := 107) (r := 105) i_CO_runOne_102 rfl rfl (by unfold am_R; omega) (fun h102 => (xs_n rfl ?_)) (fun h102 => (xs_n rfl ?_))
                · refine xs_aload_n (q := 108) i_CO_runOne_107 rfl rfl (xs_n rfl ?_)
                  refine xs_getr (q := 111) i_CO_runOne_108 rfl fd_CO_31 hd0 rfl (xs_n rfl ?_)
                  refine xs_iload_n (q := 112) i_CO_runOne_111 rfl rfl (xs_n rfl ?_)
                  refine xs_cv (q := 115) (av := [_, _]) (rest := []) i_CO_runOne_112 rfl (e_CO_runOne_112) ⟨rfl, rfl⟩ rfl rfl ?_
                  rw [am_V_iff]
                  refine ⟨⟨_, hl0⟩, ⟨hL, hc0, by show am_R ((co_rk d M : Nat) : Int); unfold am_R; omega, fun j hj => by have := (h1.2 j hj).1; omega⟩, ?_⟩
                  refine xs_r0 rfl (xs_n rfl ?_)
                  refine xs_aload_n (q := 116) i_CO_runOne_115 rfl rfl (xs_n rfl ?_)
                  refine xs_getr (q := 119) i_CO_runOne_116 rfl fd_CO_18 hd0 rfl (xs_n rfl ?_)
                  refine xs_getr (q := 122) i_CO_runOne_119 rfl fd_CO_103 sg_1 rfl (xs_n rfl ?_)
                  refine xs_iload_n (q := 123) i_CO_runOne_122 rfl rfl (xs_n rfl ?_)
                  refine xs_iaload (q := 124) i_CO_runOne_123 rfl sg_6 rfl (by show 0 ≤ ((co_rk d M : Nat) : Int) ∧ ((co_rk d M : Nat) : Int) < 5; have h16b : ((co_rk d M : Nat) : Int) < M 1 5 := h16; omega) (xs_n rfl ?_)
                  refine xs_iconst (q := 125) i_CO_runOne_124 rfl (xs_n rfl ?_)
                  refine xs_iadd (q := 126) i_CO_runOne_125 rfl (xs_n rfl ?_)
                  refine xs_iret i_CO_runOne_126 ?_
                  exact xs_fin (by simp only [f_CO_runOne]; rw [if_neg h37, if_neg (show ¬ (M 1 5 ≤ (co_rk d M : Int) ∨ 0 < M (d + 9) 4) from fun z => z.elim (fun y => absurd h16 (Int.not_lt.mpr y)) (fun y => by omega)), if_neg (fun z => absurd z.1 h59)]; exact congrArg (fun z => some (Sum.inl (z + 1))) (co_rn_k (k := 6) (by omega)).symm) (by simp only [g_CO_runOne]; rw [if_neg h37, if_neg (show ¬ (M 1 5 ≤ (co_rk d M : Int) ∨ 0 < M (d + 9) 4) from fun z => z.elim (fun y => absurd h16 (Int.not_lt.mpr y)) (fun y => by omega)), if_neg h59]; rfl) trivial
                · first | exact absurd rfl h102 | exact absurd h102 (by decide)
              · refine xs_aload_n (q := 63) i_CO_runOne_62 rfl rfl (xs_n rfl ?_)
                refine xs_getr (q := 66) i_CO_runOne_63 rfl fd_CO_22 hd0 rfl (xs_n rfl ?_)
                refine xs_aload_n (q := 67) i_CO_runOne_66 rfl rfl (xs_n rfl ?_)
                refine xs_getr (q := 70) i_CO_runOne_67 rfl fd_CO_31 hd0 rfl (xs_n rfl ?_)
                refine xs_iload_n (q := 71) i_CO_runOne_70 rfl rfl (xs_n rfl ?_)
                refine xs_iconst (q := 72) i_CO_runOne_71 rfl (xs_n rfl ?_)
                refine xs_cv (q := 75) (av := [_, _, _, _]) (rest := []) i_CO_runOne_72 rfl (e_CO_runOne_72) ⟨rfl, rfl⟩ rfl rfl ?_
                rw [am_V_iff]
                refine ⟨⟨_, sg_18⟩, ⟨rfl, hL, by omega, h1, h2, h3, h5, by omega⟩, ?_⟩
                rw [show g_SM_measure [.inr (.inl 18), .inr (.inl (d + 1)), .inl m, .inl 1] M = co_mm d m M from rfl]
                refine xs_r1 rfl (xs_n rfl ?_)
                refine xs_if_le (q := 101) (r := 78) i_CO_runOne_75 rfl rfl (by show am_R (co_ms d m M); unfold am_R; omega) (fun h75 => (xs_n rfl ?_)) (fun h75 => (xs_n rfl ?_))
                · refine xs_iload_n (q := 102) i_CO_runOne_101 rfl rfl (xs_n rfl ?_)
                  refine xs_if_eq (q := 107) (r := 105) i_CO_runOne_102 rfl rfl (by unfold am_R; omega) (fun h102 => (xs_n rfl ?_)) (fun h102 => (xs_n rfl ?_))
                  · refine xs_aload_n (q := 108) i_CO_runOne_107 rfl rfl (xs_n rfl ?_)
                    refine xs_getr (q := 111) i_CO_runOne_108 rfl fd_CO_31 hd0 rfl (xs_n rfl ?_)
                    refine xs_iload_n (q := 112) i_CO_runOne_111 rfl rfl (xs_n rfl ?_)
                    refine xs_cv (q := 115) (av := [_, _]) (rest := []) i_CO_runOne_112 rfl (e_CO_runOne_112) ⟨rfl, rfl⟩ rfl rfl ?_
                    rw [am_V_iff]
                    refine ⟨⟨_, hl0⟩, ⟨hL, by rw [hmk 1 5 (by omega)]; exact hc0, by show am_R ((co_rk d M : Nat) : Int); unfold am_R; omega, fun j hj => by rw [hmk 1 5 (by omega)] at hj; rw [hmk 6 j (by omega)]; have := (h1.2 j hj).1; omega⟩, ?_⟩
                    refine xs_r0 rfl (xs_n rfl ?_)
                    refine xs_aload_n (q := 116) i_CO_runOne_115 rfl rfl (xs_n rfl ?_)
                    refine xs_getr (q := 119) i_CO_runOne_116 rfl fd_CO_18 hd0 rfl (xs_n rfl ?_)
                    refine xs_getr (q := 122) i_CO_runOne_119 rfl fd_CO_103 sg_1 rfl (xs_n rfl ?_)
                    refine xs_iload_n (q := 123) i_CO_runOne_122 rfl rfl (xs_n rfl ?_)
                    refine xs_iaload (q := 124) i_CO_runOne_123 rfl sg_6 rfl (by show 0 ≤ ((co_rk d M : Nat) : Int) ∧ ((co_rk d M : Nat) : Int) < 5; have h16b : ((co_rk d M : Nat) : Int) < M 1 5 := h16; omega) (xs_n rfl ?_)
                    refine xs_iconst (q := 125) i_CO_runOne_124 rfl (xs_n rfl ?_)
                    refine xs_iadd (q := 126) i_CO_runOne_125 rfl (xs_n rfl ?_)
                    refine xs_iret i_CO_runOne_126 ?_
                    exact xs_fin (by simp only [f_CO_runOne]; rw [if_neg h37, if_neg (show ¬ (M 1 5 ≤ (co_rk d M : Int) ∨ 0 < M (d + 9) 4) from fun z => z.elim (fun y => absurd h16 (Int.not_lt.mpr y)) (fun y => by omega)), if_neg (fun z => absurd z.2 (Int.not_lt.mpr h75))]; exact congrArg (fun z => some (Sum.inl (z + 1))) ((co_rn_k (k := 6) (by omega)).trans (hmk 6 _ (by omega))).symm) (by simp only [g_CO_runOne]; rw [if_neg h37, if_neg (show ¬ (M 1 5 ≤ (co_rk d M : Int) ∨ 0 < M (d + 9) 4) from fun z => z.elim (fun y => absurd h16 (Int.not_lt.mpr y)) (fun y => by omega)), if_pos h59, if_neg (show ¬ 0 < co_ms d m M from Int.not_lt.mpr h75)]; rfl) trivial
                  · first | exact absurd rfl h102 | exact absurd h102 (by decide)
                · refine xs_aload_n (q := 79) i_CO_runOne_78 rfl rfl (xs_n rfl ?_)
                  refine xs_getr (q := 82) i_CO_runOne_79 rfl fd_CO_47 hd0 rfl (xs_n rfl ?_)
                  refine xs_iload_n (q := 83) i_CO_runOne_82 rfl rfl (xs_n rfl ?_)
                  refine xs_cv (q := 86) (av := [_, _]) (rest := []) i_CO_runOne_83 rfl (e_CO_runOne_83) ⟨rfl, rfl⟩ rfl rfl ?_
                  rw [am_V_iff]
                  refine ⟨⟨_, hu0⟩, ⟨hU, by omega, by rw [hmk (d + 9) 3 (by omega)]; exact h9, by rw [hmk (d + 9) 4 (by omega)]; unfold am_R; omega⟩, ?_⟩
                  refine xs_r0 rfl (xs_n rfl ?_)
                  refine xs_aload_n (q := 87) i_CO_runOne_86 rfl rfl (xs_n rfl ?_)
                  refine xs_getr (q := 90) i_CO_runOne_87 rfl fd_CO_40 hd0 rfl (xs_n rfl ?_)
                  refine xs_iload (q := 92) i_CO_runOne_90 rfl rfl (xs_n rfl ?_)
                  refine xs_iload_n (q := 93) i_CO_runOne_92 rfl rfl (xs_n rfl ?_)
                  refine xs_cv (q := 96) (av := [_, _, _]) (rest := []) i_CO_runOne_93 rfl (e_CO_runOne_93) ⟨rfl, rfl⟩ rfl rfl ?_
                  rw [am_V_iff]
                  refine ⟨⟨_, hq0⟩, ⟨hQ, by show am_R (qu_fst (d + 6) M); unfold am_R; omega, by rw [bu_take_k (by omega) (by omega), hmk (d + 6) 3 (by omega)]; exact h6, fun j hj => by rw [bu_take_k (by omega) (by omega), hmk (d + 6 + 1) j (by omega)]; have := (h8 j hj).1; omega⟩, ?_⟩
                  refine xs_r0 rfl (xs_n rfl ?_)
                  refine xs_iconst (q := 97) i_CO_runOne_96 rfl (xs_n rfl ?_)
                  refine xs_iload (q := 99) i_CO_runOne_97 rfl rfl (xs_n rfl ?_)
                  refine xs_isub (q := 100) i_CO_runOne_99 rfl (xs_n rfl ?_)
                  refine xs_iret i_CO_runOne_100 ?_
                  exact xs_fin (by simp only [f_CO_runOne]; rw [if_neg h37, if_neg (show ¬ (M 1 5 ≤ (co_rk d M : Int) ∨ 0 < M (d + 9) 4) from fun z => z.elim (fun y => absurd h16 (Int.not_lt.mpr y)) (fun y => by omega)), if_pos ⟨h59, h75⟩]) (by simp only [g_CO_runOne]; rw [if_neg h37, if_neg (show ¬ (M 1 5 ≤ (co_rk d M : Int) ∨ 0 < M (d + 9) 4) from fun z => z.elim (fun y => absurd h16 (Int.not_lt.mpr y)) (fun y => by omega)), if_pos h59, if_pos (show 0 < co_ms d m M from h75)]; rfl) trivial
      · refine xs_iconst (q := 20) i_CO_runOne_19 rfl (xs_n rfl ?_)
        refine xs_goto (q := 24) i_CO_runOne_20 rfl (xs_n rfl ?_)
        refine xs_istore_n (q := 25) (ls2 := [_, _, _, _, _]) i_CO_runOne_24 rfl rfl rfl (xs_n rfl ?_)
        refine xs_aload_n (q := 26) i_CO_runOne_25 rfl rfl (xs_n rfl ?_)
        refine xs_getr (q := 29) i_CO_runOne_26 rfl fd_CO_40 hd0 rfl (xs_n rfl ?_)
        refine xs_cv (q := 32) (av := [_]) (rest := []) i_CO_runOne_29 rfl (e_CO_runOne_29) ⟨rfl, rfl⟩ rfl rfl ?_
        rw [am_V_iff]
        refine ⟨⟨_, hq0⟩, ⟨hQ, h6, by unfold am_R; omega, fun j hj => by have := (h8 j hj).1; unfold am_R; omega, fun j hj => (h8 j hj).2⟩, ?_⟩
        dsimp only [g_QU_first, g_id]
        refine xs_r1 rfl (xs_n rfl ?_)
        refine xs_istore (q := 34) (ls2 := [_, _, _, _, _]) i_CO_runOne_32 rfl rfl rfl (xs_n rfl ?_)
        refine xs_iload (q := 36) i_CO_runOne_34 rfl rfl (xs_n rfl ?_)
        refine xs_iconst (q := 37) i_CO_runOne_36 rfl (xs_n rfl ?_)
        refine xs_ic_eq (q := 101) (r := 40) i_CO_runOne_37 rfl rfl ⟨by show am_R (qu_fst (d + 6) M); unfold am_R; omega, by unfold am_R; omega⟩ (fun h37 => (xs_n rfl ?_)) (fun h37 => (xs_n rfl ?_))
        · refine xs_iload_n (q := 102) i_CO_runOne_101 rfl rfl (xs_n rfl ?_)
          refine xs_if_eq (q := 107) (r := 105) i_CO_runOne_102 rfl rfl (by unfold am_R; omega) (fun h102 => (xs_n rfl ?_)) (fun h102 => (xs_n rfl ?_))
          · first | exact absurd rfl h102 | exact absurd h102 (by decide)
          · refine xs_iconst (q := 106) i_CO_runOne_105 rfl (xs_n rfl ?_)
            refine xs_iret i_CO_runOne_106 ?_
            exact xs_fin (by simp only [f_CO_runOne]; rw [if_pos h37, if_pos (show M 1 5 ≤ (co_rk d M : Int) from h16)]) (by simp only [g_CO_runOne]; rw [if_pos h37, if_pos (show M 1 5 ≤ (co_rk d M : Int) from h16)]) trivial
        · refine xs_iload_n (q := 41) i_CO_runOne_40 rfl rfl (xs_n rfl ?_)
          refine xs_if_ne (q := 78) (r := 44) i_CO_runOne_41 rfl rfl (by unfold am_R; omega) (fun h41 => (xs_n rfl ?_)) (fun h41 => (xs_n rfl ?_))
          · refine xs_aload_n (q := 79) i_CO_runOne_78 rfl rfl (xs_n rfl ?_)
            refine xs_getr (q := 82) i_CO_runOne_79 rfl fd_CO_47 hd0 rfl (xs_n rfl ?_)
            refine xs_iload_n (q := 83) i_CO_runOne_82 rfl rfl (xs_n rfl ?_)
            refine xs_cv (q := 86) (av := [_, _]) (rest := []) i_CO_runOne_83 rfl (e_CO_runOne_83) ⟨rfl, rfl⟩ rfl rfl ?_
            rw [am_V_iff]
            refine ⟨⟨_, hu0⟩, ⟨hU, by omega, h9, by unfold am_R; omega⟩, ?_⟩
            refine xs_r0 rfl (xs_n rfl ?_)
            refine xs_aload_n (q := 87) i_CO_runOne_86 rfl rfl (xs_n rfl ?_)
            refine xs_getr (q := 90) i_CO_runOne_87 rfl fd_CO_40 hd0 rfl (xs_n rfl ?_)
            refine xs_iload (q := 92) i_CO_runOne_90 rfl rfl (xs_n rfl ?_)
            refine xs_iload_n (q := 93) i_CO_runOne_92 rfl rfl (xs_n rfl ?_)
            refine xs_cv (q := 96) (av := [_, _, _]) (rest := []) i_CO_runOne_93 rfl (e_CO_runOne_93) ⟨rfl, rfl⟩ rfl rfl ?_
            rw [am_V_iff]
            refine ⟨⟨_, hq0⟩, ⟨hQ, by show am_R (qu_fst (d + 6) M); unfold am_R; omega, by rw [bu_take_k (by omega) (by omega)]; exact h6, fun j hj => by rw [bu_take_k (by omega) (by omega)]; have := (h8 j hj).1; omega⟩, ?_⟩
            refine xs_r0 rfl (xs_n rfl ?_)
            refine xs_iconst (q := 97) i_CO_runOne_96 rfl (xs_n rfl ?_)
            refine xs_iload (q := 99) i_CO_runOne_97 rfl rfl (xs_n rfl ?_)
            refine xs_isub (q := 100) i_CO_runOne_99 rfl (xs_n rfl ?_)
            refine xs_iret i_CO_runOne_100 ?_
            exact xs_fin (by simp only [f_CO_runOne]; rw [if_neg h37, if_pos (show M 1 5 ≤ (co_rk d M : Int) ∨ 0 < M (d + 9) 4 from Or.inl h16)]) (by simp only [g_CO_runOne]; rw [if_neg h37, if_pos (show M 1 5 ≤ (co_rk d M : Int) ∨ 0 < M (d + 9) 4 from Or.inl h16)]; rfl) trivial
          · first | exact absurd rfl h41 | exact absurd h41 (by decide)
    · exact h.elim
