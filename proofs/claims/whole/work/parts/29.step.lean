/-! contract: Course.step (wip/whole/p29.py) -/
theorem co_sv_k {d : Nat} {m nb : Int} {M : am_M} {k j : Nat} (hk : k < d + 6 ∨ d + 10 < k) : co_sv d m nb M k j = M k j := by
  have e : ∀ M2 : am_M, g_QU_serve [.inr (.inl (d + 6)), .inl nb, .inl m] M2 k j = M2 k j := by
    intro M2
    simp only [g_QU_serve]
    by_cases h : 0 ≤ nb ∧ nb ≤ M2 (d + 6) 3 - 1
    · rw [if_pos h]
      by_cases h2 : M2 (d + 6 + 1) nb.toNat - 1 = 0
      · rw [if_pos h2, am_up_k _ _ (by omega), am_up_k _ _ (by omega), am_up_k _ _ (by omega)]
      · rw [if_neg h2, am_up_k _ _ (by omega)]
    · rw [if_neg h]
  unfold co_sv
  rw [e, bu_take_k (by omega) (by omega)]
theorem co_rn_n {d r : Nat} {M : am_M} {j : Nat} : co_rn d r M (d + 1 + 3) j = M (d + 1 + 3) j ∨ co_rn d r M (d + 1 + 3) j = M (d + 1 + 3) j - 1 := by
  simp only [co_rn, g_LO_run]
  by_cases h : (0 : Int) ≤ (r : Int) ∧ (r : Int) ≤ M 1 5 - 1
  · rw [if_pos h]
    by_cases hq : j = (M 6 (r : Int).toNat).toNat
    · subst hq
      rw [am_up_s]
      exact Or.inr rfl
    · rw [am_up_j _ _ hq]
      exact Or.inl rfl
  · rw [if_neg h]
    exact Or.inl rfl
/-- what a tick's runner leaves alone -/
theorem co_ro_k {d : Nat} {m : Int} {M : am_M} {k j : Nat} (h1 : k < 20 ∨ 25 < k) (h2 : k ≠ d + 1 + 3) (h3 : k < d + 6 ∨ d + 10 < k) : g_CO_runOne [.inr (.inl d), .inl m] M k j = M k j := by
  simp only [g_CO_runOne]
  by_cases c1 : qu_fst (d + 6) M = -1
  · rw [if_pos c1]
    by_cases c2 : M 1 5 ≤ (co_rk d M : Int)
    · rw [if_pos c2]
    · rw [if_neg c2, co_rn_k h2]
  · rw [if_neg c1]
    by_cases c2 : M 1 5 ≤ (co_rk d M : Int) ∨ 0 < M (d + 9) 4
    · rw [if_pos c2, co_sv_k h3]
    · rw [if_neg c2]
      by_cases c3 : M d 5 = 3
      · rw [if_pos c3]
        by_cases c4 : 0 < co_ms d m M
        · rw [if_pos c4, co_sv_k h3, co_mm_k h1]
        · rw [if_neg c4, co_rn_k h2, co_mm_k h1]
      · rw [if_neg c3, co_rn_k h2]
theorem co_ro_n {d : Nat} {m : Int} {M : am_M} {j : Nat} (hd : d = 26 ∨ d = 37) : g_CO_runOne [.inr (.inl d), .inl m] M (d + 1 + 3) j = M (d + 1 + 3) j ∨ g_CO_runOne [.inr (.inl d), .inl m] M (d + 1 + 3) j = M (d + 1 + 3) j - 1 := by
  simp only [g_CO_runOne]
  by_cases c1 : qu_fst (d + 6) M = -1
  · rw [if_pos c1]
    by_cases c2 : M 1 5 ≤ (co_rk d M : Int)
    · rw [if_pos c2]; exact Or.inl rfl
    · rw [if_neg c2]; exact co_rn_n
  · rw [if_neg c1]
    by_cases c2 : M 1 5 ≤ (co_rk d M : Int) ∨ 0 < M (d + 9) 4
    · rw [if_pos c2, co_sv_k (by omega)]; exact Or.inl rfl
    · rw [if_neg c2]
      by_cases c3 : M d 5 = 3
      · rw [if_pos c3]
        by_cases c4 : 0 < co_ms d m M
        · rw [if_pos c4, co_sv_k (by omega), co_mm_k (by omega)]; exact Or.inl rfl
        · rw [if_neg c4]
          have h := co_rn_n (d := d) (r := co_rk d M) (M := co_mm d m M) (j := j)
          rw [co_mm_k (by omega)] at h
          exact h
      · rw [if_neg c3]; exact co_rn_n
/-- a course between two ticks: its numbers are small -/
def lo_st (d : Nat) (M : am_M) : Prop := ∀ j, j < 5 → (0 ≤ M (d + 1 + 1) j ∧ M (d + 1 + 1) j ≤ 90000) ∧ (0 ≤ M (d + 1 + 2) j ∧ M (d + 1 + 2) j ≤ 60) ∧ (0 ≤ M (d + 1 + 3) j ∧ M (d + 1 + 3) j ≤ 900) ∧ (0 ≤ M (d + 1 + 4) j ∧ M (d + 1 + 4) j ≤ 90000)
def co_st (d : Nat) (M : am_M) : Prop := (0 ≤ M (d + 6) 3 ∧ M (d + 6) 3 ≤ 40) ∧ (0 ≤ M (d + 6) 4 ∧ M (d + 6) 4 ≤ 1000) ∧ (∀ j, j < 40 → (-100 ≤ M (d + 6 + 1) j ∧ M (d + 6 + 1) j ≤ 1000) ∧ (M 13 j = 0 ∨ M 13 j = 1)) ∧ (1 ≤ M (d + 9) 3 ∧ M (d + 9) 3 ≤ 60) ∧ (-1000 ≤ M (d + 9) 4 ∧ M (d + 9) 4 ≤ 1000) ∧ (0 ≤ M d 5 ∧ M d 5 ≤ 3) ∧ (0 ≤ M (d + 9) 1 ∧ M (d + 9) 1 ≤ 3) ∧ (0 ≤ M (d + 9) 2 ∧ M (d + 9) 2 ≤ 60) ∧ ∀ j, j < 60 → 0 ≤ M (d + 9 + 1) j ∧ M (d + 9 + 1) j ≤ 10000
def co_cb (d : Nat) (m : Int) (M : am_M) : am_M := g_BU_comeBack [.inr (.inl (d + 9)), .inl m] M
def co_rd (d : Nat) (m : Int) (M : am_M) : am_M := am_col M (M 1 5).toNat (h_LO_makeReady (d + 1) m M)
theorem co_cb_k {d : Nat} {m : Int} {M : am_M} {k j : Nat} (h1 : k ≠ d + 9) (h2 : k ≠ d + 10) : co_cb d m M k j = M k j := by
  simp only [co_cb, g_BU_comeBack]
  by_cases c1 : M (d + 9) 1 = 1 ∧ m % M (d + 9) 3 = 0
  · rw [if_pos c1, am_up_k _ _ h1]
  · rw [if_neg c1]
    by_cases c2 : M (d + 9) 1 = 2
    · rw [if_pos c2, am_up_k _ _ (by omega), am_up_k _ _ h1]
    · rw [if_neg c2]
theorem co_cb_b {d : Nat} {m : Int} {M : am_M} (h : co_st d M) (hm : 0 ≤ m) : co_cb d m M (d + 9) 3 = M (d + 9) 3 ∧ (-100000 ≤ co_cb d m M (d + 9) 4 ∧ co_cb d m M (d + 9) 4 ≤ 100000) := by
  obtain ⟨-, -, -, h4, h5, -, -, h8, h9⟩ := h
  have e1 := Int.emod_nonneg m (show M (d + 9) 3 ≠ 0 by omega)
  have e2 := Int.emod_lt_of_pos m (show 0 < M (d + 9) 3 by omega)
  have e3 := h9 (m % M (d + 9) 3).toNat (by omega)
  simp only [co_cb, g_BU_comeBack]
  by_cases c1 : M (d + 9) 1 = 1 ∧ m % M (d + 9) 3 = 0
  · rw [if_pos c1, am_up_s, am_up_j _ _ (by decide)]
    exact ⟨rfl, by omega⟩
  · rw [if_neg c1]
    by_cases c2 : M (d + 9) 1 = 2
    · have hne : ¬ (d + 9 = d + 9 + 1) := by omega
      rw [if_pos c2]
      simp only [am_up, hne, false_and, if_false, and_self, if_true]
      exact ⟨by simp, by omega⟩
    · rw [if_neg c2]
      exact ⟨rfl, by omega⟩
theorem co_rd_k {d : Nat} {m : Int} {M : am_M} {k j : Nat} (hk : k < d + 2 ∨ d + 5 < k) : co_rd d m M k j = M k j := am_col_k (by simp only [h_LO_makeReady]; (repeat' split) <;> (first | rfl | omega))
theorem co_rd_in {d : Nat} {m : Int} {M : am_M} (h1 : ts_ok M) (h : lo_st d M) (hm : 0 ≤ m ∧ m ≤ 50000) : lo_in (d + 1) (co_rd d m M) := by
  intro j hj
  have x1 := h j hj
  by_cases hc : j < (M 1 5).toNat
  · have x2 := h1.2 j (by omega)
    have e : ∀ k, co_rd d m M k j = h_LO_makeReady (d + 1) m M k j := fun k => am_col_lt hc
    rw [e, e, e, e]
    simp only [h_LO_makeReady]
    by_cases he : M (d + 1 + 1) j = m
    · rw [if_pos he, if_pos he, if_pos he, if_pos he]
      simp
      omega
    · rw [if_neg he, if_neg he, if_neg he, if_neg he]
      omega
  · have e : ∀ k, co_rd d m M k j = M k j := fun k => am_col_ge (by omega)
    rw [e, e, e, e]
    omega
/-- one tick of a course: the runner, the memory -/
def co_s0 (d : Nat) (m : Int) (M : am_M) : am_M := co_rd d m (co_cb d m M)
def co_s1 (d : Nat) (m : Int) (M : am_M) : am_M := g_CO_runOne [.inr (.inl d), .inl m] (co_s0 d m M)
def co_lt (d : Nat) (m : Int) (M : am_M) : Int := ma_su (fun j => if 0 < M (d + 1 + 3) j ∧ M (d + 1 + 4) j = m then 1 else 0) (M 1 5).toNat
def co_rw (d : Nat) (m : Int) (M : am_M) : Int := if qu_fst (d + 6) M = -1 then (if M 1 5 ≤ co_rk d M then 0 else M 6 (co_rk d M) + 1) else if M 1 5 ≤ co_rk d M ∨ 0 < M (d + 9) 4 then -1 - qu_fst (d + 6) M else if M d 5 = 3 ∧ 0 < co_ms d m M then -1 - qu_fst (d + 6) M else M 6 (co_rk d M) + 1
def P_CO_step : am_P := fun av M => match av with
  | [.inr (.inl d), .inl m] => co_at d ∧ ts_ok M ∧ lo_st d M ∧ sm_x M ∧ (0 ≤ m ∧ m ≤ 50000) ∧ co_st d M
  | _ => False
def f_CO_step : am_Fr := fun av M => match av with
  | [.inr (.inl d), .inl m] => some (.inl (co_rw d m (co_s0 d m M)))
  | _ => none
def g_CO_step : am_Fm := fun av M => match av with
  | [.inr (.inl d), .inl m] => am_up (co_s1 d m M) d 6 (co_s1 d m M d 6 + co_lt d (m + 1) (co_s1 d m M))
  | _ => M
def ct_CO_step : am_T := fun pc => if pc = 5 then some (2, am_ctV vw_S 7 P_BU_comeBack (am_po f_BU_comeBack g_BU_comeBack)) else if pc = 13 then some (2, am_ctV vw_S 5 P_LO_makeReady (am_po f_LO_makeReady g_LO_makeReady)) else if pc = 18 then some (2, am_ctV vw_S 9 P_CO_runOne (am_po f_CO_runOne g_CO_runOne)) else if pc = 34 then some (2, am_ctV vw_S 5 P_LO_lateAt (am_po f_LO_lateAt g_LO_lateAt)) else none
theorem e_CO_step_5 : ct_CO_step 5 = some (2, am_ctV vw_S 7 P_BU_comeBack (am_po f_BU_comeBack g_BU_comeBack)) := rfl
theorem e_CO_step_13 : ct_CO_step 13 = some (2, am_ctV vw_S 5 P_LO_makeReady (am_po f_LO_makeReady g_LO_makeReady)) := rfl
theorem e_CO_step_18 : ct_CO_step 18 = some (2, am_ctV vw_S 9 P_CO_runOne (am_po f_CO_runOne g_CO_runOne)) := rfl
theorem e_CO_step_34 : ct_CO_step 34 = some (2, am_ctV vw_S 5 P_LO_lateAt (am_po f_LO_lateAt g_LO_lateAt)) := rfl
theorem ct_CO_step_ok (l : Launch) : am_CC b_CO_step 3 w_CO_step y_CO_step.cls l r_CO_step ct_CO_step := by
  intro p e s m args below meth c H0 A D G ad Q S hK hN hA pc q ct h
  have hts := S.2.2.2.2
  unfold ct_CO_step at h
  split at h
  · rename_i hpc
    subst hpc; cases h
    exact am_callV S vw_N_ok hK hN hA ⟨Nat.zero_le _, Nat.zero_le _⟩ (m_BU_comeBack l) (s_CO_58 hts am_vW hN ⟨by decide, by decide⟩) (by rfl) d_CO_step_5
  split at h
  · rename_i hpc
    subst hpc; cases h
    exact am_callV S vw_N_ok hK hN hA ⟨Nat.zero_le _, Nat.zero_le _⟩ (m_LO_makeReady l) (s_CO_62 hts am_vW hN ⟨by decide, by decide⟩) (by rfl) d_CO_step_13
  split at h
  · rename_i hpc
    subst hpc; cases h
    exact am_callV S vw_N_ok hK hN hA ⟨Nat.zero_le _, Nat.zero_le _⟩ (m_CO_runOne l) (s_CO_65 hts am_vW hN ⟨by decide, by decide⟩) (by rfl) d_CO_step_18
  split at h
  · rename_i hpc
    subst hpc; cases h
    exact am_callV S vw_N_ok hK hN hA ⟨Nat.zero_le _, Nat.zero_le _⟩ (m_LO_lateAt l) (s_CO_69 hts am_vW hN ⟨by decide, by decide⟩) (by rfl) d_CO_step_34
  cases h
theorem m_CO_step (l : Launch) : am_MF l y_CO_step w_CO_step r_CO_step P_CO_step f_CO_step g_CO_step := by
  refine am_mk0 i_CO_step_ok fd_CO_ok (ct_CO_step_ok l) (plainFor_of_name (by decide +kernel)) (by decide) ?_ 30 ?_
  · intro av M h
    unfold P_CO_step at h
    split at h
    · exact ⟨Nat.le_of_ble_eq_true rfl, rfl⟩
    · exact h.elim
  · intro av M Z h
    unfold P_CO_step at h
    split at h
    · rename_i d m
      obtain ⟨hdd, h1, h2, h3, h5, h6⟩ := h
      have hd0 := hdd.1
      have hL := hdd.2.1
      have hQ := hdd.2.2.1
      have hU := hdd.2.2.2.1
      have hd26 := hdd.2.2.2.2
      have hl0 := hL.1
      have hq0 := hQ.1
      have hu0 := hU.1
      have hc0 := h1.1
      have k0 : ∀ k j, (k < d + 2 ∨ d + 5 < k) → k ≠ d + 9 → k ≠ d + 10 → co_s0 d m M k j = M k j := fun k j a1 a2 a3 => by unfold co_s0; rw [co_rd_k a1, co_cb_k a2 a3]
      have ok1 : ts_ok (co_cb d m M) := ts_ok_of h1 (fun k j _ _ => co_cb_k (by omega) (by omega))
      have ok0 : ts_ok (co_s0 d m M) := ts_ok_of h1 (fun k j _ _ => k0 k j (by omega) (by omega) (by omega))
      have st1 : lo_st d (co_cb d m M) := fun j hj => by rw [co_cb_k (by omega) (by omega), co_cb_k (by omega) (by omega), co_cb_k (by omega) (by omega), co_cb_k (by omega) (by omega)]; exact h2 j hj
      have in0 : lo_in (d + 1) (co_s0 d m M) := co_rd_in ok1 st1 h5
      have sx0 : sm_x (co_s0 d m M) := fun j hj => by rw [k0 20 j (by omega) (by omega) (by omega), k0 21 j (by omega) (by omega) (by omega), k0 22 j (by omega) (by omega) (by omega), k0 23 j (by omega) (by omega) (by omega), k0 24 j (by omega) (by omega) (by omega), k0 25 j (by omega) (by omega) (by omega)]; exact h3 j hj
      have hcb := co_cb_b (m := m) h6 h5.1
      have co0 : co_ok d (co_s0 d m M) := by
        obtain ⟨q1, q2, q3, q4, q5, q6, q7, q8, q9⟩ := h6
        unfold co_ok
        rw [k0 (d + 6) 3 (by omega) (by omega) (by omega), k0 (d + 6) 4 (by omega) (by omega) (by omega), k0 d 5 (by omega) (by omega) (by omega), show co_s0 d m M (d + 9) 3 = M (d + 9) 3 by (unfold co_s0; rw [co_rd_k (by omega)]; exact hcb.1), show co_s0 d m M (d + 9) 4 = co_cb d m M (d + 9) 4 by (unfold co_s0; rw [co_rd_k (by omega)])]
        refine ⟨q1, q2, fun j hj => ?_, q4, hcb.2, q6⟩
        rw [k0 (d + 6 + 1) j (by omega) (by omega) (by omega), k0 13 j (by omega) (by omega) (by omega)]
        exact q3 j hj
      have c1 : co_s1 d m M 1 5 = M 1 5 := by unfold co_s1; rw [co_ro_k (by omega) (by omega) (by omega)]; exact k0 1 5 (by omega) (by omega) (by omega)
      refine xs_aload_n (q := 1) i_CO_step_0 rfl rfl (xs_n rfl ?_)
      refine xs_getr (q := 4) i_CO_step_1 rfl fd_CO_47 hd0 rfl (xs_n rfl ?_)
      refine xs_iload_n (q := 5) i_CO_step_4 rfl rfl (xs_n rfl ?_)
      refine xs_cv (q := 8) (av := [_, _]) (rest := []) i_CO_step_5 rfl (e_CO_step_5) ⟨rfl, rfl⟩ rfl rfl ?_
      rw [am_V_iff]
      refine ⟨⟨_, hu0⟩, ⟨hU, by omega, h6.2.2.2.1, by have := h6.2.2.2.2.2.2.1; unfold am_R; omega⟩, ?_⟩
      rw [show g_BU_comeBack [.inr (.inl (d + 9)), .inl m] M = co_cb d m M from rfl]
      refine xs_r0 rfl (xs_n rfl ?_)
      refine xs_aload_n (q := 9) i_CO_step_8 rfl rfl (xs_n rfl ?_)
      refine xs_getr (q := 12) i_CO_step_9 rfl fd_CO_31 hd0 rfl (xs_n rfl ?_)
      refine xs_iload_n (q := 13) i_CO_step_12 rfl rfl (xs_n rfl ?_)
      refine xs_cv (q := 16) (av := [_, _]) (rest := []) i_CO_step_13 rfl (e_CO_step_13) ⟨rfl, rfl⟩ rfl rfl ?_
      rw [am_V_iff]
      refine ⟨⟨_, hl0⟩, ⟨hL, ok1.1, by unfold am_R; omega, fun j hj => by have := (st1 j hj).1; unfold am_R; omega⟩, ?_⟩
      rw [show g_LO_makeReady [.inr (.inl (d + 1)), .inl m] (co_cb d m M) = co_s0 d m M from rfl]
      refine xs_r0 rfl (xs_n rfl ?_)
      refine xs_aload_n (q := 17) i_CO_step_16 rfl rfl (xs_n rfl ?_)
      refine xs_iload_n (q := 18) i_CO_step_17 rfl rfl (xs_n rfl ?_)
      refine xs_cv (q := 21) (av := [_, _]) (rest := []) i_CO_step_18 rfl (e_CO_step_18) ⟨rfl, rfl⟩ rfl rfl ?_
      rw [am_V_iff]
      refine ⟨⟨_, hd0⟩, ⟨hdd, ok0, in0, sx0, by omega, co0⟩, ?_⟩
      rw [show g_CO_runOne [.inr (.inl d), .inl m] (co_s0 d m M) = co_s1 d m M from rfl]
      refine xs_r1 rfl (xs_n rfl ?_)
      refine xs_istore_n (q := 22) (ls2 := [_, _, _]) i_CO_step_21 rfl rfl rfl (xs_n rfl ?_)
      refine xs_aload_n (q := 23) i_CO_step_22 rfl rfl (xs_n rfl ?_)
      refine xs_dupr (q := 24) i_CO_step_23 rfl (xs_n rfl ?_)
      refine xs_geti (q := 27) i_CO_step_24 rfl fd_CO_15 hd0 rfl (xs_n rfl ?_)
      refine xs_aload_n (q := 28) i_CO_step_27 rfl rfl (xs_n rfl ?_)
      refine xs_getr (q := 31) i_CO_step_28 rfl fd_CO_31 hd0 rfl (xs_n rfl ?_)
      refine xs_iload_n (q := 32) i_CO_step_31 rfl rfl (xs_n rfl ?_)
      refine xs_iconst (q := 33) i_CO_step_32 rfl (xs_n rfl ?_)
      refine xs_iadd (q := 34) i_CO_step_33 rfl (xs_n rfl ?_)
      refine xs_cv (q := 37) (av := [_, _]) (rest := [_, _]) i_CO_step_34 rfl (e_CO_step_34) ⟨rfl, rfl⟩ rfl rfl ?_
      rw [am_V_iff]
      refine ⟨⟨_, hl0⟩, ⟨hL, by rw [c1]; exact hc0, by unfold am_R; omega, fun j hj => by have q := (in0 j hj).2.2.1; rcases co_ro_n (d := d) (m := m) (M := co_s0 d m M) (j := j) hd26 with h9 | h9 <;> (show am_R (g_CO_runOne [.inr (.inl d), .inl m] (co_s0 d m M) (d + 1 + 3) j); rw [h9]; unfold am_R; omega), fun j hj => by have q := (in0 j hj).2.2.2; show am_R (g_CO_runOne [.inr (.inl d), .inl m] (co_s0 d m M) (d + 1 + 4) j); rw [co_ro_k (by omega) (by omega) (by omega)]; unfold am_R; omega⟩, ?_⟩
      dsimp only [g_LO_lateAt, g_id]
      refine xs_r1 rfl (xs_n rfl ?_)
      refine xs_iadd (q := 38) i_CO_step_37 rfl (xs_n rfl ?_)
      refine xs_puti (q := 41) i_CO_step_38 rfl fd_CO_15 hd0 rfl (xs_n rfl ?_)
      refine xs_iload_n (q := 42) i_CO_step_41 rfl rfl (xs_n rfl ?_)
      refine xs_iret i_CO_step_42 ?_
      exact xs_fin rfl rfl trivial
    · exact h.elim
def P_SD_takeIn : am_P := fun av M => match av with
  | [.inr (.inl i), .inl c, .inl z] => i = 0 ∧ (0 ≤ M 10 3 ∧ M 10 3 < 40) ∧ (z = 0 ∨ z = 1) ∧ (0 ≤ M 32 3 ∧ M 32 3 ≤ M 10 3) ∧ am_R (M 0 9) ∧ ∀ j, j < 40 → am_R (M 11 j)
  | _ => False
def f_SD_takeIn : am_Fr := fun av M => match av with
  | [.inr (.inl i), .inl c, .inl z] => some (.inl (M 10 3))
  | _ => none
def g_SD_takeIn : am_Fm := fun av M => match av with
  | [.inr (.inl i), .inl c, .inl z] => g_QU_takeUpTo [.inr (.inl 32), .inl (M 0 9)] (g_JL_add [.inr (.inl 10), .inl (M 0 9), .inl c, .inl z] M)
  | _ => M
def ct_SD_takeIn : am_T := fun pc => if pc = 10 then some (4, am_ctV vw_S 3 P_JL_add (am_po f_JL_add g_JL_add)) else if pc = 25 then some (2, am_ctV vw_S 8 P_QU_takeUpTo (am_po f_QU_takeUpTo g_QU_takeUpTo)) else none
theorem e_SD_takeIn_10 : ct_SD_takeIn 10 = some (4, am_ctV vw_S 3 P_JL_add (am_po f_JL_add g_JL_add)) := rfl
theorem e_SD_takeIn_25 : ct_SD_takeIn 25 = some (2, am_ctV vw_S 8 P_QU_takeUpTo (am_po f_QU_takeUpTo g_QU_takeUpTo)) := rfl
theorem ct_SD_takeIn_ok (l : Launch) : am_CC b_SD_takeIn 4 w_SD_takeIn y_SD_takeIn.cls l r_SD_takeIn ct_SD_takeIn := by
  intro p e s m args below meth c H0 A D G ad Q S hK hN hA pc q ct h
  have hts := S.2.2.2.2
  unfold ct_SD_takeIn at h
  split at h
  · rename_i hpc
    subst hpc; cases h
    exact am_callV S vw_N_ok hK hN hA ⟨Nat.zero_le _, Nat.zero_le _⟩ (m_JL_add l) (s_SD_250 hts am_vW hN ⟨by decide, by decide⟩) (by rfl) d_SD_takeIn_10
  split at h
  · rename_i hpc
    subst hpc; cases h
    exact am_callV S vw_N_ok hK hN hA ⟨Nat.zero_le _, Nat.zero_le _⟩ (m_QU_takeUpTo l) (s_SD_253 hts am_vW hN ⟨by decide, by decide⟩) (by rfl) d_SD_takeIn_25
  cases h
theorem m_SD_takeIn (l : Launch) : am_MF l y_SD_takeIn w_SD_takeIn r_SD_takeIn P_SD_takeIn f_SD_takeIn g_SD_takeIn := by
  refine am_mk0 i_SD_takeIn_ok fd_SD_ok (ct_SD_takeIn_ok l) (plainFor_of_name (by decide +kernel)) (by decide) ?_ 20 ?_
  · intro av M h
    unfold P_SD_takeIn at h
    split at h
    · exact ⟨Nat.le_of_ble_eq_true rfl, rfl⟩
    · exact h.elim
  · intro av M Z h
    unfold P_SD_takeIn at h
    split at h
    · rename_i i c z
      obtain ⟨rfl, h1, h2, h3, h4, h5⟩ := h
      refine xs_aload_n (q := 1) i_SD_takeIn_0 rfl rfl (xs_n rfl ?_)
      refine xs_getr (q := 4) i_SD_takeIn_1 rfl fd_SD_26 sg_0 rfl (xs_n rfl ?_)
      refine xs_aload_n (q := 5) i_SD_takeIn_4 rfl rfl (xs_n rfl ?_)
      refine xs_geti (q := 8) i_SD_takeIn_5 rfl fd_SD_72 sg_0 rfl (xs_n rfl ?_)
      refine xs_iload_n (q := 9) i_SD_takeIn_8 rfl rfl (xs_n rfl ?_)
      refine xs_iload_n (q := 10) i_SD_takeIn_9 rfl rfl (xs_n rfl ?_)
      refine xs_cv (q := 13) (av := [_, _, _, _]) (rest := []) i_SD_takeIn_10 rfl (e_SD_takeIn_10) ⟨rfl, rfl⟩ rfl rfl ?_
      rw [am_V_iff]
      refine ⟨⟨_, sg_10⟩, ⟨rfl, h1, h2⟩, ?_⟩
      refine xs_r1 rfl (xs_n rfl ?_)
      refine xs_istore_n (q := 14) (ls2 := [_, _, _, _]) i_SD_takeIn_13 rfl rfl rfl (xs_n rfl ?_)
      refine xs_aload_n (q := 15) i_SD_takeIn_14 rfl rfl (xs_n rfl ?_)
      refine xs_getr (q := 18) i_SD_takeIn_15 rfl fd_SD_51 sg_0 rfl (xs_n rfl ?_)
      refine xs_getr (q := 21) i_SD_takeIn_18 rfl fd_SD_156 sg_26 rfl (xs_n rfl ?_)
      refine xs_aload_n (q := 22) i_SD_takeIn_21 rfl rfl (xs_n rfl ?_)
      refine xs_geti (q := 25) i_SD_takeIn_22 rfl fd_SD_72 sg_0 rfl (xs_n rfl ?_)
      refine xs_cv (q := 28) (av := [_, _]) (rest := []) i_SD_takeIn_25 rfl (e_SD_takeIn_25) ⟨rfl, rfl⟩ rfl rfl ?_
      rw [am_V_iff]
      refine ⟨⟨_, sg_32⟩, ⟨⟨rfl, rfl, rfl, by decide, by decide⟩, by simp [g_JL_add, am_up]; omega, by simp [g_JL_add, am_up]; exact h4, fun j hj => by simp only [g_JL_add, am_up]; (repeat' split) <;> (first | exact h4 | exact h5 j hj | omega)⟩, ?_⟩
      refine xs_r0 rfl (xs_n rfl ?_)
      refine xs_iload_n (q := 29) i_SD_takeIn_28 rfl rfl (xs_n rfl ?_)
      refine xs_iret i_SD_takeIn_29 ?_
      exact xs_fin rfl rfl trivial
    · exact h.elim
