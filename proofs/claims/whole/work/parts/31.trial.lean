/-! contracts: Referee.hardTicks, runAgain (wip/whole/p31.py) -/
theorem sm_lp_x : ∀ (n : Nat) (a s d : Int) (M : am_M), sm_B M d → (0 ≤ a ∧ a + n ≤ 150000) → (0 ≤ d ∧ d + n ≤ 150000) → sm_x (sm_lp n a s M).2
  | 0, a, s, d, M, hB, _, _ => hB.2.1
  | n + 1, a, s, d, M, hB, ha, hd => by
    rw [sm_lp]
    by_cases h : sm_set s a M = 0
    · rw [if_pos h]
      exact sm_lp_x n (a + 1) _ (d + 1) _ (sm_tk_B (a := a) hB (by omega) (by omega)) (by omega) (by omega)
    · rw [if_neg h]
      exact hB.2.1
theorem co_mm_x {d : Nat} {m : Int} {M : am_M} (hd : 25 < d + 1) (h1 : ts_ok M) (h2 : lo_in (d + 1) M) (h3 : sm_x M) (hm : 0 ≤ m ∧ m ≤ 100000) : sm_x (co_mm d m M) := by
  have hL := sm_L_b hd h1 h2 hm
  exact sm_lp_x _ m 1 0 _ (sm_P_B hd h1 h2 h3) (by omega) (by omega)
theorem co_rk_pos {d : Nat} {M : am_M} (h : co_rk d M < (M 1 5).toNat) : 0 < M (d + 1 + 3) (M 6 (co_rk d M)).toNat := of_decide_eq_true ((am_fi_sp (fun r => decide (0 < M (d + 1 + 3) (M 6 r).toNat)) (M 1 5).toNat 0).2.2 (by unfold co_rk at h; omega))
/-- the referee's Load in a trial: d ticks have gone -/
def ht_B (M : am_M) (d : Int) : Prop := ts_ok M ∧ sm_x M ∧ ∀ j, j < 5 → (0 ≤ M 39 j ∧ M 39 j ≤ 95000) ∧ (0 ≤ M 40 j ∧ M 40 j ≤ 60) ∧ (0 ≤ M 41 j ∧ M 41 j ≤ 50000 + 60 * d) ∧ (0 ≤ M 42 j ∧ M 42 j ≤ 95000)
theorem ht_in {M : am_M} {d : Int} (h : ht_B M d) (hd : 0 ≤ d ∧ d ≤ 800) : lo_in 38 M := fun j hj => by
  have := h.2.2 j hj
  show (0 ≤ M 39 j ∧ M 39 j ≤ 100000) ∧ (0 ≤ M 40 j ∧ M 40 j ≤ 60) ∧ (0 ≤ M 41 j ∧ M 41 j ≤ 100000) ∧ (0 ≤ M 42 j ∧ M 42 j ≤ 100000)
  omega
theorem ht_rd {M : am_M} {d a : Int} (h : ht_B M d) (ha : 0 ≤ a ∧ a ≤ 90000) : ht_B (co_rd 37 a M) (d + 1) := by
  have k : ∀ k j, (k < 39 ∨ 42 < k) → co_rd 37 a M k j = M k j := fun k j hk => co_rd_k (by omega)
  refine ⟨ts_ok_of h.1 (fun q j _ _ => k q j (by omega)), fun j hj => ?_, fun j hj => ?_⟩
  · rw [k 20 j (by omega), k 21 j (by omega), k 22 j (by omega), k 23 j (by omega), k 24 j (by omega), k 25 j (by omega)]
    exact h.2.1 j hj
  · have x1 := h.2.2 j hj
    by_cases hc : j < (M 1 5).toNat
    · have x2 := h.1.2 j (by omega)
      have e : ∀ q, co_rd 37 a M q j = h_LO_makeReady (37 + 1) a M q j := fun q => am_col_lt hc
      rw [e, e, e, e]
      simp only [h_LO_makeReady]
      by_cases he : M (37 + 1 + 1) j = a
      · rw [if_pos he, if_pos he, if_pos he, if_pos he]
        simp
        omega
      · rw [if_neg he, if_neg he, if_neg he, if_neg he]
        omega
    · have e : ∀ q, co_rd 37 a M q j = M q j := fun q => am_col_ge (by omega)
      rw [e, e, e, e]
      omega
theorem ht_mm {M : am_M} {d a : Int} (h : ht_B M d) (hd : 0 ≤ d ∧ d ≤ 800) (ha : 0 ≤ a ∧ a ≤ 90000) : ht_B (co_mm 37 a M) d := by
  refine ⟨ts_ok_of h.1 (fun q j _ _ => co_mm_k (by omega)), co_mm_x (d := 37) (by omega) h.1 (ht_in h hd) h.2.1 (by omega), fun j hj => ?_⟩
  rw [co_mm_k (by omega), co_mm_k (by omega), co_mm_k (by omega), co_mm_k (by omega)]
  exact h.2.2 j hj
theorem ht_rn {M : am_M} {d a : Int} (h : ht_B M d) (hd : 0 ≤ d ∧ d ≤ 800) (ha : 0 ≤ a ∧ a ≤ 90000) (hr : co_rk 37 M < (M 1 5).toNat) : ht_B (co_rn 37 (co_rk 37 M) (co_mm 37 a M)) d := by
  have hm := ht_mm h hd ha
  have k : ∀ q j, q ≠ 41 → co_rn 37 (co_rk 37 M) (co_mm 37 a M) q j = co_mm 37 a M q j := fun q j hq => co_rn_k (by omega)
  refine ⟨ts_ok_of hm.1 (fun q j _ _ => k q j (by omega)), fun j hj => ?_, fun j hj => ?_⟩
  · rw [k 20 j (by omega), k 21 j (by omega), k 22 j (by omega), k 23 j (by omega), k 24 j (by omega), k 25 j (by omega)]
    exact hm.2.1 j hj
  · have x1 := hm.2.2 j hj
    have x2 := co_rk_pos hr
    rw [k 39 j (by omega), k 40 j (by omega), k 42 j (by omega)]
    have x3 : 0 ≤ co_rn 37 (co_rk 37 M) (co_mm 37 a M) 41 j ∧ co_rn 37 (co_rk 37 M) (co_mm 37 a M) 41 j ≤ co_mm 37 a M 41 j := by
      simp only [co_rn, g_LO_run]
      by_cases c : (0 : Int) ≤ (co_rk 37 M : Int) ∧ (co_rk 37 M : Int) ≤ co_mm 37 a M 1 5 - 1
      · rw [if_pos c]
        simp only [am_up, Int.toNat_natCast, true_and]
        by_cases c2 : j = (co_mm 37 a M 6 (co_rk 37 M)).toNat
        · rw [if_pos c2]
          have e6 : co_mm 37 a M 6 (co_rk 37 M) = M 6 (co_rk 37 M) := co_mm_k (by omega)
          have e41 : ∀ j, co_mm 37 a M (37 + 1 + 3) j = M (37 + 1 + 3) j := fun j => co_mm_k (by omega)
          have e42 : co_mm 37 a M 41 j = M 41 j := co_mm_k (by omega)
          rw [e42, c2, e6, e41]
          show 0 ≤ M (37 + 1 + 3) _ - 1 ∧ M (37 + 1 + 3) _ - 1 ≤ M (37 + 1 + 3) _
          omega
        · rw [if_neg c2]
          omega
      · rw [if_neg c]
        omega
    omega
/-- the trial's ticks -/
def ht_lp : Nat → Int → Int → am_M → Int × am_M
  | 0, _, k, M => (k, M)
  | n + 1, a, k, M => if co_rd 37 a M 1 5 ≤ (co_rk 37 (co_rd 37 a M) : Int) then ht_lp n (a + 1) (k + 1) (co_rd 37 a M) else if 0 < co_ms 37 a (co_rd 37 a M) then ht_lp n (a + 1) (k + 1) (co_mm 37 a (co_rd 37 a M)) else ht_lp n (a + 1) k (co_rn 37 (co_rk 37 (co_rd 37 a M)) (co_mm 37 a (co_rd 37 a M)))
def ht_cp (M : am_M) : am_M := am_col M (M 1 5).toNat (h_LO_copy 38 27 M)
theorem ht_cp_B {M : am_M} (h : ht_B M 0) (h2 : lo_st 26 M) : ht_B (ht_cp M) 0 := by
  have k : ∀ k j, (k < 39 ∨ 42 < k) → ht_cp M k j = M k j := fun k j hk => am_col_k (by simp only [h_LO_copy]; (repeat' split) <;> (first | rfl | omega))
  refine ⟨ts_ok_of h.1 (fun q j _ _ => k q j (by omega)), fun j hj => ?_, fun j hj => ?_⟩
  · rw [k 20 j (by omega), k 21 j (by omega), k 22 j (by omega), k 23 j (by omega), k 24 j (by omega), k 25 j (by omega)]
    exact h.2.1 j hj
  · have x1 := h.2.2 j hj
    have x2 : (0 ≤ M 28 j ∧ M 28 j ≤ 90000) ∧ (0 ≤ M 29 j ∧ M 29 j ≤ 60) ∧ (0 ≤ M 30 j ∧ M 30 j ≤ 900) ∧ (0 ≤ M 31 j ∧ M 31 j ≤ 90000) := h2 j hj
    by_cases hc : j < (M 1 5).toNat
    · have e : ∀ q, ht_cp M q j = h_LO_copy 38 27 M q j := fun q => am_col_lt hc
      rw [e, e, e, e]
      simp only [h_LO_copy]
      simp
      omega
    · have e : ∀ q, ht_cp M q j = M q j := fun q => am_col_ge (by omega)
      rw [e, e, e, e]
      exact x1
def P_RF_hardTicks : am_P := fun av M => match av with
  | [.inr (.inl i), .inr (.inl b), .inl n, .inl q] => i = 48 ∧ b = 27 ∧ ht_B M 0 ∧ lo_st 26 M ∧ (0 ≤ n ∧ n ≤ 5000) ∧ (0 ≤ q ∧ q ≤ 500)
  | _ => False
def f_RF_hardTicks : am_Fr := fun av M => match av with
  | [.inr (.inl i), .inr (.inl b), .inl n, .inl q] => some (.inl (ht_lp q.toNat n 0 (ht_cp M)).1)
  | _ => none
def g_RF_hardTicks : am_Fm := fun av M => match av with
  | [.inr (.inl i), .inr (.inl b), .inl n, .inl q] => (ht_lp q.toNat n 0 (ht_cp M)).2
  | _ => M
def ct_RF_hardTicks : am_T := fun pc => if pc = 12 then some (2, am_ctV vw_S 5 P_LO_copy (am_po f_LO_copy g_LO_copy)) else if pc = 33 then some (2, am_ctV vw_S 5 P_LO_makeReady (am_po f_LO_makeReady g_LO_makeReady)) else if pc = 38 then some (1, am_ctV vw_S 5 P_LO_readyRank (am_po f_LO_readyRank g_LO_readyRank)) else if pc = 70 then some (4, am_ctV vw_S 6 P_SM_measure (am_po f_SM_measure g_SM_measure)) else if pc = 86 then some (2, am_ctV vw_S 5 P_LO_run (am_po f_LO_run g_LO_run)) else none
theorem e_RF_hardTicks_12 : ct_RF_hardTicks 12 = some (2, am_ctV vw_S 5 P_LO_copy (am_po f_LO_copy g_LO_copy)) := rfl
theorem e_RF_hardTicks_33 : ct_RF_hardTicks 33 = some (2, am_ctV vw_S 5 P_LO_makeReady (am_po f_LO_makeReady g_LO_makeReady)) := rfl
theorem e_RF_hardTicks_38 : ct_RF_hardTicks 38 = some (1, am_ctV vw_S 5 P_LO_readyRank (am_po f_LO_readyRank g_LO_readyRank)) := rfl
theorem e_RF_hardTicks_70 : ct_RF_hardTicks 70 = some (4, am_ctV vw_S 6 P_SM_measure (am_po f_SM_measure g_SM_measure)) := rfl
theorem e_RF_hardTicks_86 : ct_RF_hardTicks 86 = some (2, am_ctV vw_S 5 P_LO_run (am_po f_LO_run g_LO_run)) := rfl
theorem ct_RF_hardTicks_ok (l : Launch) : am_CC b_RF_hardTicks 8 w_RF_hardTicks y_RF_hardTicks.cls l r_RF_hardTicks ct_RF_hardTicks := by
  intro p e s m args below meth c H0 A D G ad Q S hK hN hA pc q ct h
  have hts := S.2.2.2.2
  unfold ct_RF_hardTicks at h
  split at h
  · rename_i hpc
    subst hpc; cases h
    exact am_callV S vw_N_ok hK hN hA ⟨Nat.zero_le _, Nat.zero_le _⟩ (m_LO_copy l) (s_RF_101 hts am_vW hN ⟨by decide, by decide⟩) (by rfl) d_RF_hardTicks_12
  split at h
  · rename_i hpc
    subst hpc; cases h
    exact am_callV S vw_N_ok hK hN hA ⟨Nat.zero_le _, Nat.zero_le _⟩ (m_LO_makeReady l) (s_RF_105 hts am_vW hN ⟨by decide, by decide⟩) (by rfl) d_RF_hardTicks_33
  split at h
  · rename_i hpc
    subst hpc; cases h
    exact am_callV S vw_N_ok hK hN hA ⟨Nat.zero_le _, Nat.zero_le _⟩ (m_LO_readyRank l) (s_RF_108 hts am_vW hN ⟨by decide, by decide⟩) (by rfl) d_RF_hardTicks_38
  split at h
  · rename_i hpc
    subst hpc; cases h
    exact am_callV S vw_N_ok hK hN hA ⟨Nat.zero_le _, Nat.zero_le _⟩ (m_SM_measure l) (s_RF_122 hts am_vW hN ⟨by decide, by decide⟩) (by rfl) d_RF_hardTicks_70
  split at h
  · rename_i hpc
    subst hpc; cases h
    exact am_callV S vw_N_ok hK hN hA ⟨Nat.zero_le _, Nat.zero_le _⟩ (m_LO_run l) (s_RF_128 hts am_vW hN ⟨by decide, by decide⟩) (by rfl) d_RF_hardTicks_86
  cases h
def inv_RF_hardTicks : List am_V → am_M → Nat → am_K := fun av M μ pc ls st M2 => match av with
  | [.inr (.inl i), .inr (.inl b), .inl n, .inl q] => (pc = 0 ∧ ls = am_l0 [.inr (.inl i), .inr (.inl b), .inl n, .inl q] 8 ∧ st = [] ∧ M = M2 ∧ μ = 1000) ∨ ∃ (a k : Int) (w : Option am_V), pc = 21 ∧ ls = [some (.inr (.inl i)), some (.inr (.inl b)), some (.inl n), some (.inl q), some (.inr (.inl 38)), some (.inl k), some (.inl a), w] ∧ st = [] ∧ ((n ≤ a ∧ a ≤ n + q) ∧ ht_B M2 (a - n) ∧ ht_lp (n + q - a).toNat a k M2 = ht_lp q.toNat n 0 (ht_cp M)) ∧ μ = (n + q - a).toNat
  | _ => False
theorem m_RF_hardTicks (l : Launch) : am_MF l y_RF_hardTicks w_RF_hardTicks r_RF_hardTicks P_RF_hardTicks f_RF_hardTicks g_RF_hardTicks := by
  refine am_mkL (fun pc => pc == 21) i_RF_hardTicks_ok fd_RF_ok (ct_RF_hardTicks_ok l) (plainFor_of_name (by decide +kernel)) (by decide) ?_ 70 inv_RF_hardTicks ?_ ?_
  · intro av M h
    unfold P_RF_hardTicks at h
    split at h
    · exact ⟨Nat.le_of_ble_eq_true rfl, rfl⟩
    · exact h.elim
  · intro av M h
    unfold P_RF_hardTicks at h
    split at h
    · exact ⟨_, Or.inl ⟨rfl, rfl, rfl, rfl, rfl⟩⟩
    · exact h.elim
  · intro av M h μ pc ls st M2 hi
    unfold P_RF_hardTicks at h
    split at h
    · rename_i i b n q
      obtain ⟨rfl, rfl, h1, h2, h3, h4⟩ := h
      rcases hi with ⟨rfl, rfl, rfl, rfl, rfl⟩ | ⟨a, k, w, rfl, rfl, rfl, ⟨ha, hB, hg⟩, rfl⟩
      · skip
        refine xs_aload_n (q := 1) i_RF_hardTicks_0 rfl rfl (xs_n rfl ?_)
        refine xs_getr (q := 4) i_RF_hardTicks_1 rfl fd_RF_21 sg_48 rfl (xs_n rfl ?_)
        refine xs_getr (q := 7) i_RF_hardTicks_4 rfl fd_RF_74 sg_37 rfl (xs_n rfl ?_)
        refine xs_astore (q := 9) (ls2 := [_, _, _, _, _, _, _, _]) i_RF_hardTicks_7 rfl rfl rfl (xs_n rfl ?_)
        refine xs_aload (q := 11) i_RF_hardTicks_9 rfl rfl (xs_n rfl ?_)
        refine xs_aload_n (q := 12) i_RF_hardTicks_11 rfl rfl (xs_n rfl ?_)
        refine xs_cv (q := 15) (av := [_, _]) (rest := []) i_RF_hardTicks_12 rfl (e_RF_hardTicks_12) ⟨rfl, rfl⟩ rfl rfl ?_
        rw [am_V_iff]
        refine ⟨⟨_, sg_38⟩, ⟨lo_38, lo_27, by omega, h1.1.1⟩, ?_⟩
        rw [show g_LO_copy [.inr (.inl 38), .inr (.inl 27)] M = ht_cp M from rfl]
        refine xs_r0 rfl (xs_n rfl ?_)
        refine xs_iconst (q := 16) i_RF_hardTicks_15 rfl (xs_n rfl ?_)
        refine xs_istore (q := 18) (ls2 := [_, _, _, _, _, _, _, _]) i_RF_hardTicks_16 rfl rfl rfl (xs_n rfl ?_)
        refine xs_iload_n (q := 19) i_RF_hardTicks_18 rfl rfl (xs_n rfl ?_)
        refine xs_istore (q := 21) (ls2 := [_, _, _, _, _, _, _, _]) i_RF_hardTicks_19 rfl rfl rfl (xs_z rfl ?_)
        refine ⟨q.toNat, by omega, Or.inr ⟨n, 0, _, rfl, rfl, rfl, ⟨by omega, ?_, ?_⟩, by omega⟩⟩
        · rw [Int.sub_self]; exact ht_cp_B h1 h2
        · rw [show n + q - n = q by omega]
      · skip
        refine xs_iload (q := 23) i_RF_hardTicks_21 rfl rfl (xs_n rfl ?_)
        refine xs_iload_n (q := 24) i_RF_hardTicks_23 rfl rfl (xs_n rfl ?_)
        refine xs_iload_n (q := 25) i_RF_hardTicks_24 rfl rfl (xs_n rfl ?_)
        refine xs_iadd (q := 26) i_RF_hardTicks_25 rfl (xs_n rfl ?_)
        refine xs_ic_ge (q := 95) (r := 29) i_RF_hardTicks_26 rfl rfl ⟨by unfold am_R; omega, by unfold am_R; omega⟩ (fun h26 => (xs_n rfl ?_)) (fun h26 => (xs_n rfl ?_))
        · refine xs_iload (q := 97) i_RF_hardTicks_95 rfl rfl (xs_n rfl ?_)
          refine xs_iret i_RF_hardTicks_97 ?_
          have e0 : (n + q - a).toNat = 0 := by omega
          rw [e0, ht_lp] at hg
          exact xs_fin (by simp only [f_RF_hardTicks]; rw [← hg]) (by simp only [g_RF_hardTicks]; rw [← hg]) trivial
        · have hR := ht_rd (a := a) hB (by omega)
          have hI := ht_in hR (by omega)
          have hrk := co_rk_le 37 (co_rd 37 a M2)
          have hc0 := hR.1.1
          have hms := co_ms_b (d := 37) (m := a) (by omega) hR.1 hI hR.2.1 (by omega)
          have hmk : ∀ k j, (k < 20 ∨ 25 < k) → co_mm 37 a (co_rd 37 a M2) k j = co_rd 37 a M2 k j := fun k j hk => co_mm_k hk
          refine xs_aload (q := 31) i_RF_hardTicks_29 rfl rfl (xs_n rfl ?_)
          refine xs_iload (q := 33) i_RF_hardTicks_31 rfl rfl (xs_n rfl ?_)
          refine xs_cv (q := 36) (av := [_, _]) (rest := []) i_RF_hardTicks_33 rfl (e_RF_hardTicks_33) ⟨rfl, rfl⟩ rfl rfl ?_
          rw [am_V_iff]
          refine ⟨⟨_, sg_38⟩, ⟨lo_38, hB.1.1, by unfold am_R; omega, fun j hj => by have := (hB.2.2 j hj).1; show am_R (M2 39 j); unfold am_R; omega⟩, ?_⟩
          rw [show g_LO_makeReady [.inr (.inl 38), .inl a] M2 = co_rd 37 a M2 from rfl]
          refine xs_r0 rfl (xs_n rfl ?_)
          refine xs_aload (q := 38) i_RF_hardTicks_36 rfl rfl (xs_n rfl ?_)
          refine xs_cv (q := 41) (av := [_]) (rest := []) i_RF_hardTicks_38 rfl (e_RF_hardTicks_38) ⟨rfl, rfl⟩ rfl rfl ?_
          rw [am_V_iff]
          refine ⟨⟨_, sg_38⟩, ⟨lo_38, hR.1, fun j hj => by have := (hI j hj).2.2.1; unfold am_R; omega⟩, ?_⟩
          dsimp only [g_LO_readyRank, g_id]
          refine xs_r1 rfl (xs_n rfl ?_)
          refine xs_istore (q := 43) (ls2 := [_, _, _, _, _, _, _, _]) i_RF_hardTicks_41 rfl rfl rfl (xs_n rfl ?_)
          refine xs_iload (q := 45) i_RF_hardTicks_43 rfl rfl (xs_n rfl ?_)
          refine xs_aload_n (q := 46) i_RF_hardTicks_45 rfl rfl (xs_n rfl ?_)
          refine xs_getr (q := 49) i_RF_hardTicks_46 rfl fd_RF_21 sg_48 rfl (xs_n rfl ?_)
          refine xs_getr (q := 52) i_RF_hardTicks_49 rfl fd_RF_111 sg_37 rfl (xs_n rfl ?_)
          refine xs_geti (q := 55) i_RF_hardTicks_52 rfl fd_RF_115 sg_1 rfl (xs_n rfl ?_)
          refine xs_ic_ge (q := 76) (r := 58) i_RF_hardTicks_55 rfl rfl ⟨by show am_R ((co_rk 37 (co_rd 37 a M2) : Nat) : Int); unfold am_R; omega, by unfold am_R; omega⟩ (fun h55 => (xs_n rfl ?_)) (fun h55 => (xs_n rfl ?_))
          · refine xs_iinc (q := 79) (ls2 := [_, _, _, _, _, _, _, _]) i_RF_hardTicks_76 rfl rfl rfl (xs_n rfl ?_)
            refine xs_goto (q := 89) i_RF_hardTicks_79 rfl (xs_n rfl ?_)
            refine xs_iinc (q := 92) (ls2 := [_, _, _, _, _, _, _, _]) i_RF_hardTicks_89 rfl rfl rfl (xs_n rfl ?_)
            refine xs_goto (q := 21) i_RF_hardTicks_92 rfl (xs_z rfl ?_)
            refine ⟨(n + q - (a + 1)).toNat, by omega, Or.inr ⟨a + 1, k + 1, _, rfl, rfl, rfl, ⟨by omega, ?_, ?_⟩, rfl⟩⟩
            · rw [show a + 1 - n = a - n + 1 by omega]; exact hR
            · rw [← hg, show (n + q - a).toNat = (n + q - (a + 1)).toNat + 1 by omega, ht_lp, if_pos (show co_rd 37 a M2 1 5 ≤ (co_rk 37 (co_rd 37 a M2) : Int) from h55)]
          · have hlt : co_rk 37 (co_rd 37 a M2) < (co_rd 37 a M2 1 5).toNat := by have h55b : ((co_rk 37 (co_rd 37 a M2) : Nat) : Int) < co_rd 37 a M2 1 5 := h55; omega
            refine xs_aload_n (q := 59) i_RF_hardTicks_58 rfl rfl (xs_n rfl ?_)
            refine xs_getr (q := 62) i_RF_hardTicks_59 rfl fd_RF_21 sg_48 rfl (xs_n rfl ?_)
            refine xs_getr (q := 65) i_RF_hardTicks_62 rfl fd_RF_118 sg_37 rfl (xs_n rfl ?_)
            refine xs_aload (q := 67) i_RF_hardTicks_65 rfl rfl (xs_n rfl ?_)
            refine xs_iload (q := 69) i_RF_hardTicks_67 rfl rfl (xs_n rfl ?_)
            refine xs_iconst (q := 70) i_RF_hardTicks_69 rfl (xs_n rfl ?_)
            refine xs_cv (q := 73) (av := [_, _, _, _]) (rest := []) i_RF_hardTicks_70 rfl (e_RF_hardTicks_70) ⟨rfl, rfl⟩ rfl rfl ?_
            rw [am_V_iff]
            refine ⟨⟨_, sg_18⟩, ⟨rfl, lo_38, by omega, hR.1, hI, hR.2.1, by omega, by omega⟩, ?_⟩
            rw [show g_SM_measure [.inr (.inl 18), .inr (.inl 38), .inl a, .inl 1] (co_rd 37 a M2) = co_mm 37 a (co_rd 37 a M2) from rfl]
            refine xs_r1 rfl (xs_n rfl ?_)
            refine xs_if_le (q := 82) (r := 76) i_RF_hardTicks_73 rfl rfl (by show am_R (co_ms 37 a (co_rd 37 a M2)); unfold am_R; omega) (fun h73 => (xs_n rfl ?_)) (fun h73 => (xs_n rfl ?_))
            · refine xs_aload (q := 84) i_RF_hardTicks_82 rfl rfl (xs_n rfl ?_)
              refine xs_iload (q := 86) i_RF_hardTicks_84 rfl rfl (xs_n rfl ?_)
              refine xs_cv (q := 89) (av := [_, _]) (rest := []) i_RF_hardTicks_86 rfl (e_RF_hardTicks_86) ⟨rfl, rfl⟩ rfl rfl ?_
              rw [am_V_iff]
              refine ⟨⟨_, sg_38⟩, ⟨lo_38, by rw [hmk 1 5 (by omega)]; exact hc0, by show am_R ((co_rk 37 (co_rd 37 a M2) : Nat) : Int); unfold am_R; omega, fun j hj => by rw [hmk 1 5 (by omega)] at hj; rw [hmk 6 j (by omega)]; have := (hR.1.2 j hj).1; omega⟩, ?_⟩
              refine xs_r0 rfl (xs_n rfl ?_)
              refine xs_iinc (q := 92) (ls2 := [_, _, _, _, _, _, _, _]) i_RF_hardTicks_89 rfl rfl rfl (xs_n rfl ?_)
              refine xs_goto (q := 21) i_RF_hardTicks_92 rfl (xs_z rfl ?_)
              refine ⟨(n + q - (a + 1)).toNat, by omega, Or.inr ⟨a + 1, k, _, rfl, rfl, rfl, ⟨by omega, ?_, ?_⟩, rfl⟩⟩
              · rw [show a + 1 - n = a - n + 1 by omega]; exact ht_rn hR (by omega) (by omega) hlt
              · rw [← hg, show (n + q - a).toNat = (n + q - (a + 1)).toNat + 1 by omega, ht_lp, if_neg (show ¬ co_rd 37 a M2 1 5 ≤ (co_rk 37 (co_rd 37 a M2) : Int) from Int.not_le.mpr h55), if_neg (show ¬ 0 < co_ms 37 a (co_rd 37 a M2) from Int.not_lt.mpr h73)]; rfl
            · refine xs_iinc (q := 79) (ls2 := [_, _, _, _, _, _, _, _]) i_RF_hardTicks_76 rfl rfl rfl (xs_n rfl ?_)
              refine xs_goto (q := 89) i_RF_hardTicks_79 rfl (xs_n rfl ?_)
              refine xs_iinc (q := 92) (ls2 := [_, _, _, _, _, _, _, _]) i_RF_hardTicks_89 rfl rfl rfl (xs_n rfl ?_)
              refine xs_goto (q := 21) i_RF_hardTicks_92 rfl (xs_z rfl ?_)
              refine ⟨(n + q - (a + 1)).toNat, by omega, Or.inr ⟨a + 1, k + 1, _, rfl, rfl, rfl, ⟨by omega, ?_, ?_⟩, rfl⟩⟩
              · rw [show a + 1 - n = a - n + 1 by omega]; exact ht_mm hR (by omega) (by omega)
              · rw [← hg, show (n + q - a).toNat = (n + q - (a + 1)).toNat + 1 by omega, ht_lp, if_neg (show ¬ co_rd 37 a M2 1 5 ≤ (co_rk 37 (co_rd 37 a M2) : Int) from Int.not_le.mpr h55), if_pos (show 0 < co_ms 37 a (co_rd 37 a M2) from h73)]
    · exact h.elim
/-- the run once more: a tick of it -/
def ra_m1 (a : Nat) (p : Nat × am_M) : am_M := g_QU_takeUpTo [.inr (.inl 43), .inl (a : Int)] p.2
def ra_q (a : Nat) (p : Nat × am_M) : Nat × am_M := rf_tu (a : Int) (ra_m1 a p 14 3 - (p.1 : Int)).toNat p.1 (ra_m1 a p)
def ra_m2 (a : Nat) (p : Nat × am_M) : am_M := g_CO_step [.inr (.inl 37), .inl (a : Int)] (ra_q a p).2
def ra_x (a : Nat) (p : Nat × am_M) : Int := co_rw 37 (a : Int) (co_s0 37 (a : Int) (ra_q a p).2)
def ra_n (a : Nat) (p : Nat × am_M) : Nat × am_M := ((ra_q a p).1, if ra_x a p = ra_m2 a p 49 a then am_up (ra_m2 a p) 48 4 (ra_m2 a p 48 4 + 1) else ra_m2 a p)
def ra_it (p : Nat × am_M) : Nat → Nat × am_M
  | 0 => p
  | n + 1 => ra_n n (ra_it p n)
def ra_0 (k : Int) (M : am_M) : Nat × am_M := (0, g_RF_clear [.inr (.inl 48)] (g_CO_begin [.inr (.inl 37), .inr (.inl 7), .inl k] M))
def ra_e (k : Int) (n : Nat) (M : am_M) : am_M := am_up (ra_it (ra_0 k M) n).2 48 5 ((ra_it (ra_0 k M) n).2 37 6)
/-- what each tick of it stands on -/
def ra_ok (a : Nat) (p : Nat × am_M) : Prop := P_QU_takeUpTo [.inr (.inl 43), .inl (a : Int)] p.2 ∧ P_RF_tellUpTo [.inr (.inl 48), .inl (a : Int), .inl (p.1 : Int)] (ra_m1 a p) ∧ P_CO_step [.inr (.inl 37), .inl (a : Int)] (ra_q a p).2 ∧ am_R (ra_x a p) ∧ am_R (ra_m2 a p 49 a)
def P_RF_runAgain : am_P := fun av M => match av with
  | [.inr (.inl i), .inr (.inl e), .inl k, .inr (.inl r), .inl n] => i = 48 ∧ e = 7 ∧ r = 49 ∧ (0 ≤ k ∧ k ≤ 3) ∧ (0 ≤ n ∧ n ≤ 2000) ∧ (0 ≤ M 1 5 ∧ M 1 5 ≤ 5) ∧ (∀ a : Nat, (a : Int) < n → ra_ok a (ra_it (ra_0 k M) a)) ∧ P_RF_sumOfTimes [.inr (.inl 48)] (ra_e k n.toNat M)
  | _ => False
def f_RF_runAgain : am_Fr := fun av M => match av with
  | [.inr (.inl i), .inr (.inl e), .inl k, .inr (.inl r), .inl n] => f_RF_sumOfTimes [.inr (.inl 48)] (ra_e k n.toNat M)
  | _ => none
def g_RF_runAgain : am_Fm := fun av M => match av with
  | [.inr (.inl i), .inr (.inl e), .inl k, .inr (.inl r), .inl n] => g_RF_sumOfTimes [.inr (.inl 48)] (ra_e k n.toNat M)
  | _ => M
def ct_RF_runAgain : am_T := fun pc => if pc = 6 then some (3, am_ctV vw_S 9 P_CO_begin (am_po f_CO_begin g_CO_begin)) else if pc = 10 then some (1, am_ctV vw_S 10 P_RF_clear (am_po f_RF_clear g_RF_clear)) else if pc = 42 then some (2, am_ctV vw_S 8 P_QU_takeUpTo (am_po f_QU_takeUpTo g_QU_takeUpTo)) else if pc = 50 then some (3, am_ctV vw_S 10 P_RF_tellUpTo (am_po f_RF_tellUpTo g_RF_tellUpTo)) else if pc = 61 then some (2, am_ctV vw_S 9 P_CO_step (am_po f_CO_step g_CO_step)) else if pc = 99 then some (1, am_ctV vw_S 10 P_RF_sumOfTimes (am_po f_RF_sumOfTimes g_RF_sumOfTimes)) else none
theorem e_RF_runAgain_6 : ct_RF_runAgain 6 = some (3, am_ctV vw_S 9 P_CO_begin (am_po f_CO_begin g_CO_begin)) := rfl
theorem e_RF_runAgain_10 : ct_RF_runAgain 10 = some (1, am_ctV vw_S 10 P_RF_clear (am_po f_RF_clear g_RF_clear)) := rfl
theorem e_RF_runAgain_42 : ct_RF_runAgain 42 = some (2, am_ctV vw_S 8 P_QU_takeUpTo (am_po f_QU_takeUpTo g_QU_takeUpTo)) := rfl
theorem e_RF_runAgain_50 : ct_RF_runAgain 50 = some (3, am_ctV vw_S 10 P_RF_tellUpTo (am_po f_RF_tellUpTo g_RF_tellUpTo)) := rfl
theorem e_RF_runAgain_61 : ct_RF_runAgain 61 = some (2, am_ctV vw_S 9 P_CO_step (am_po f_CO_step g_CO_step)) := rfl
theorem e_RF_runAgain_99 : ct_RF_runAgain 99 = some (1, am_ctV vw_S 10 P_RF_sumOfTimes (am_po f_RF_sumOfTimes g_RF_sumOfTimes)) := rfl
theorem ct_RF_runAgain_ok (l : Launch) : am_CC b_RF_runAgain 7 w_RF_runAgain y_RF_runAgain.cls l r_RF_runAgain ct_RF_runAgain := by
  intro p e s m args below meth c H0 A D G ad Q S hK hN hA pc q ct h
  have hts := S.2.2.2.2
  unfold ct_RF_runAgain at h
  split at h
  · rename_i hpc
    subst hpc; cases h
    exact am_callV S vw_N_ok hK hN hA ⟨Nat.zero_le _, Nat.zero_le _⟩ (m_CO_begin l) (s_RF_33 hts am_vW hN ⟨by decide, by decide⟩) (by rfl) d_RF_runAgain_6
  split at h
  · rename_i hpc
    subst hpc; cases h
    exact am_callV S vw_N_ok hK hN hA ⟨Nat.zero_le _, Nat.zero_le _⟩ (m_RF_clear l) (s_RF_39 hts am_vW hN ⟨by decide, by decide⟩) (by rfl) d_RF_runAgain_10
  split at h
  · rename_i hpc
    subst hpc; cases h
    exact am_callV S vw_N_ok hK hN hA ⟨Nat.zero_le _, Nat.zero_le _⟩ (m_QU_takeUpTo l) (s_RF_46 hts am_vW hN ⟨by decide, by decide⟩) (by rfl) d_RF_runAgain_42
  split at h
  · rename_i hpc
    subst hpc; cases h
    exact am_callV S vw_N_ok hK hN hA ⟨Nat.zero_le _, Nat.zero_le _⟩ (m_RF_tellUpTo l) (s_RF_52 hts am_vW hN ⟨by decide, by decide⟩) (by rfl) d_RF_runAgain_50
  split at h
  · rename_i hpc
    subst hpc; cases h
    exact am_callV S vw_N_ok hK hN hA ⟨Nat.zero_le _, Nat.zero_le _⟩ (m_CO_step l) (s_RF_56 hts am_vW hN ⟨by decide, by decide⟩) (by rfl) d_RF_runAgain_61
  split at h
  · rename_i hpc
    subst hpc; cases h
    exact am_callV S vw_N_ok hK hN hA ⟨Nat.zero_le _, Nat.zero_le _⟩ (m_RF_sumOfTimes l) (s_RF_61 hts am_vW hN ⟨by decide, by decide⟩) (by rfl) d_RF_runAgain_99
  cases h
def inv_RF_runAgain : List am_V → am_M → Nat → am_K := fun av M μ pc ls st M2 => match av with
  | [.inr (.inl i), .inr (.inl e), .inl k, .inr (.inl r), .inl n] => (pc = 0 ∧ ls = am_l0 [.inr (.inl i), .inr (.inl e), .inl k, .inr (.inl r), .inl n] 7 ∧ st = [] ∧ M = M2 ∧ μ = 10000) ∨ ∃ a : Nat, pc = 19 ∧ ls = [some (.inr (.inl i)), some (.inr (.inl e)), some (.inl k), some (.inr (.inl r)), some (.inl n), some (.inl (((ra_it (ra_0 k M) a).1 : Nat) : Int)), some (.inl (a : Int))] ∧ st = [] ∧ M2 = (ra_it (ra_0 k M) a).2 ∧ (a : Int) ≤ n ∧ μ = (n - a).toNat
  | _ => False
theorem m_RF_runAgain (l : Launch) : am_MF l y_RF_runAgain w_RF_runAgain r_RF_runAgain P_RF_runAgain f_RF_runAgain g_RF_runAgain := by
  refine am_mkL (fun pc => pc == 19) i_RF_runAgain_ok fd_RF_ok (ct_RF_runAgain_ok l) (plainFor_of_name (by decide +kernel)) (by decide) ?_ 60 inv_RF_runAgain ?_ ?_
  · intro av M h
    unfold P_RF_runAgain at h
    split at h
    · exact ⟨Nat.le_of_ble_eq_true rfl, rfl⟩
    · exact h.elim
  · intro av M h
    unfold P_RF_runAgain at h
    split at h
    · exact ⟨_, Or.inl ⟨rfl, rfl, rfl, rfl, rfl⟩⟩
    · exact h.elim
  · intro av M h μ pc ls st M2 hi
    unfold P_RF_runAgain at h
    split at h
    · rename_i i e k r n
      obtain ⟨rfl, rfl, rfl, h1, h2, h3, h4, h5⟩ := h
      rcases hi with ⟨rfl, rfl, rfl, rfl, rfl⟩ | ⟨a, rfl, rfl, rfl, rfl, ha, rfl⟩
      · skip
        refine xs_aload_n (q := 1) i_RF_runAgain_0 rfl rfl (xs_n rfl ?_)
        refine xs_getr (q := 4) i_RF_runAgain_1 rfl fd_RF_21 sg_48 rfl (xs_n rfl ?_)
        refine xs_aload_n (q := 5) i_RF_runAgain_4 rfl rfl (xs_n rfl ?_)
        refine xs_iload_n (q := 6) i_RF_runAgain_5 rfl rfl (xs_n rfl ?_)
        refine xs_cv (q := 9) (av := [_, _, _]) (rest := []) i_RF_runAgain_6 rfl (e_RF_runAgain_6) ⟨rfl, rfl⟩ rfl rfl ?_
        rw [am_V_iff]
        refine ⟨⟨_, sg_37⟩, ⟨co_37, rfl, h1, h3⟩, ?_⟩
        refine xs_r0 rfl (xs_n rfl ?_)
        refine xs_aload_n (q := 10) i_RF_runAgain_9 rfl rfl (xs_n rfl ?_)
        refine xs_cv (q := 13) (av := [_]) (rest := []) i_RF_runAgain_10 rfl (e_RF_runAgain_10) ⟨rfl, rfl⟩ rfl rfl ?_
        rw [am_V_iff]
        refine ⟨⟨_, sg_48⟩, rfl, ?_⟩
        refine xs_r0 rfl (xs_n rfl ?_)
        refine xs_iconst (q := 14) i_RF_runAgain_13 rfl (xs_n rfl ?_)
        refine xs_istore (q := 16) (ls2 := [_, _, _, _, _, _, _]) i_RF_runAgain_14 rfl rfl rfl (xs_n rfl ?_)
        refine xs_iconst (q := 17) i_RF_runAgain_16 rfl (xs_n rfl ?_)
        refine xs_istore (q := 19) (ls2 := [_, _, _, _, _, _, _]) i_RF_runAgain_17 rfl rfl rfl (xs_z rfl ?_)
        exact ⟨n.toNat, by omega, Or.inr ⟨0, rfl, rfl, rfl, rfl, by omega, by omega⟩⟩
      · skip
        refine xs_iload (q := 21) i_RF_runAgain_19 rfl rfl (xs_n rfl ?_)
        refine xs_iload (q := 23) i_RF_runAgain_21 rfl rfl (xs_n rfl ?_)
        refine xs_ic_ge (q := 87) (r := 26) i_RF_runAgain_23 rfl rfl ⟨by unfold am_R; omega, by unfold am_R; omega⟩ (fun h23 => (xs_n rfl ?_)) (fun h23 => (xs_n rfl ?_))
        · refine xs_aload_n (q := 88) i_RF_runAgain_87 rfl rfl (xs_n rfl ?_)
          refine xs_aload_n (q := 89) i_RF_runAgain_88 rfl rfl (xs_n rfl ?_)
          refine xs_getr (q := 92) i_RF_runAgain_89 rfl fd_RF_21 sg_48 rfl (xs_n rfl ?_)
          refine xs_geti (q := 95) i_RF_runAgain_92 rfl fd_RF_60 sg_37 rfl (xs_n rfl ?_)
          refine xs_puti (q := 98) i_RF_runAgain_95 rfl fd_RF_18 sg_48 rfl (xs_n rfl ?_)
          refine xs_aload_n (q := 99) i_RF_runAgain_98 rfl rfl (xs_n rfl ?_)
          refine xs_cv (q := 102) (av := [_]) (rest := []) i_RF_runAgain_99 rfl (e_RF_runAgain_99) ⟨rfl, rfl⟩ rfl rfl ?_
          rw [am_V_iff]
          refine ⟨⟨_, sg_48⟩, by (obtain rfl : a = n.toNat := by omega); exact h5, ?_⟩
          refine xs_r1 rfl (xs_n rfl ?_)
          refine xs_iret i_RF_runAgain_102 ?_
          obtain rfl : a = n.toNat := by omega
          exact xs_fin rfl rfl trivial
        · refine xs_iload (q := 28) i_RF_runAgain_26 rfl rfl (xs_n rfl ?_)
          refine xs_aload_n (q := 29) i_RF_runAgain_28 rfl rfl (xs_n rfl ?_)
          refine xs_alen (q := 30) i_RF_runAgain_29 rfl sg_49 rfl (xs_n rfl ?_)
          refine xs_ic_ge (q := 87) (r := 33) i_RF_runAgain_30 rfl rfl ⟨by unfold am_R; omega, by unfold am_R; omega⟩ (fun h30 => (xs_n rfl ?_)) (fun h30 => (xs_n rfl ?_))
          · refine xs_aload_n (q := 88) i_RF_runAgain_87 rfl rfl (xs_n rfl ?_)
            refine xs_aload_n (q := 89) i_RF_runAgain_88 rfl rfl (xs_n rfl ?_)
            refine xs_getr (q := 92) i_RF_runAgain_89 rfl fd_RF_21 sg_48 rfl (xs_n rfl ?_)
            refine xs_geti (q := 95) i_RF_runAgain_92 rfl fd_RF_60 sg_37 rfl (xs_n rfl ?_)
            refine xs_puti (q := 98) i_RF_runAgain_95 rfl fd_RF_18 sg_48 rfl (xs_n rfl ?_)
            refine xs_aload_n (q := 99) i_RF_runAgain_98 rfl rfl (xs_n rfl ?_)
            refine xs_cv (q := 102) (av := [_]) (rest := []) i_RF_runAgain_99 rfl (e_RF_runAgain_99) ⟨rfl, rfl⟩ rfl rfl ?_
            rw [am_V_iff]
            refine ⟨⟨_, sg_48⟩, by (obtain rfl : a = n.toNat := by omega); exact h5, ?_⟩
            refine xs_r1 rfl (xs_n rfl ?_)
            refine xs_iret i_RF_runAgain_102 ?_
            omega
          · obtain ⟨o1, o2, o3, o4, o5⟩ := h4 a h23
            refine xs_aload_n (q := 34) i_RF_runAgain_33 rfl rfl (xs_n rfl ?_)
            refine xs_getr (q := 37) i_RF_runAgain_34 rfl fd_RF_21 sg_48 rfl (xs_n rfl ?_)
            refine xs_getr (q := 40) i_RF_runAgain_37 rfl fd_RF_42 sg_37 rfl (xs_n rfl ?_)
            refine xs_iload (q := 42) i_RF_runAgain_40 rfl rfl (xs_n rfl ?_)
            refine xs_cv (q := 45) (av := [_, _]) (rest := []) i_RF_runAgain_42 rfl (e_RF_runAgain_42) ⟨rfl, rfl⟩ rfl rfl ?_
            rw [am_V_iff]
            refine ⟨⟨_, sg_43⟩, o1, ?_⟩
            rw [show g_QU_takeUpTo [.inr (.inl 43), .inl (a : Int)] (ra_it (ra_0 k M) a).2 = ra_m1 a (ra_it (ra_0 k M) a) from rfl]
            refine xs_r0 rfl (xs_n rfl ?_)
            refine xs_aload_n (q := 46) i_RF_runAgain_45 rfl rfl (xs_n rfl ?_)
            refine xs_iload (q := 48) i_RF_runAgain_46 rfl rfl (xs_n rfl ?_)
            refine xs_iload (q := 50) i_RF_runAgain_48 rfl rfl (xs_n rfl ?_)
            refine xs_cv (q := 53) (av := [_, _, _]) (rest := []) i_RF_runAgain_50 rfl (e_RF_runAgain_50) ⟨rfl, rfl⟩ rfl rfl ?_
            rw [am_V_iff]
            refine ⟨⟨_, sg_48⟩, o2, ?_⟩
            rw [show g_RF_tellUpTo [.inr (.inl 48), .inl (a : Int), .inl (((ra_it (ra_0 k M) a).1 : Nat) : Int)] (ra_m1 a (ra_it (ra_0 k M) a)) = (ra_q a (ra_it (ra_0 k M) a)).2 from rfl]
            refine xs_r1 rfl (xs_n rfl ?_)
            refine xs_istore (q := 55) (ls2 := [_, _, _, _, _, _, _]) i_RF_runAgain_53 rfl rfl rfl (xs_n rfl ?_)
            refine xs_aload_n (q := 56) i_RF_runAgain_55 rfl rfl (xs_n rfl ?_)
            refine xs_getr (q := 59) i_RF_runAgain_56 rfl fd_RF_21 sg_48 rfl (xs_n rfl ?_)
            refine xs_iload (q := 61) i_RF_runAgain_59 rfl rfl (xs_n rfl ?_)
            refine xs_cv (q := 64) (av := [_, _]) (rest := []) i_RF_runAgain_61 rfl (e_RF_runAgain_61) ⟨rfl, rfl⟩ rfl rfl ?_
            rw [am_V_iff]
            refine ⟨⟨_, sg_37⟩, o3, ?_⟩
            rw [show g_CO_step [.inr (.inl 37), .inl (a : Int)] (ra_q a (ra_it (ra_0 k M) a)).2 = ra_m2 a (ra_it (ra_0 k M) a) from rfl]
            refine xs_r1 rfl (xs_n rfl ?_)
            refine xs_aload_n (q := 65) i_RF_runAgain_64 rfl rfl (xs_n rfl ?_)
            refine xs_iload (q := 67) i_RF_runAgain_65 rfl rfl (xs_n rfl ?_)
            refine xs_iaload (q := 68) i_RF_runAgain_67 rfl sg_49 rfl (by omega) (xs_n rfl ?_)
            refine xs_ic_ne (q := 81) (r := 71) i_RF_runAgain_68 rfl rfl ⟨o4, o5⟩ (fun h68 => (xs_n rfl ?_)) (fun h68 => (xs_n rfl ?_))
            · refine xs_iinc (q := 84) (ls2 := [_, _, _, _, _, _, _]) i_RF_runAgain_81 rfl rfl rfl (xs_n rfl ?_)
              refine xs_goto (q := 19) i_RF_runAgain_84 rfl (xs_z rfl ?_)
              have h69 : ra_x a (ra_it (ra_0 k M) a) ≠ ra_m2 a (ra_it (ra_0 k M) a) 49 a := h68
              exact ⟨(n - (a + 1 : Nat)).toNat, by omega, Or.inr ⟨a + 1, rfl, rfl, rfl, by simp only [ra_it, ra_n]; rw [if_neg h69], by omega, rfl⟩⟩
            · refine xs_aload_n (q := 72) i_RF_runAgain_71 rfl rfl (xs_n rfl ?_)
              refine xs_dupr (q := 73) i_RF_runAgain_72 rfl (xs_n rfl ?_)
              refine xs_geti (q := 76) i_RF_runAgain_73 rfl fd_RF_15 sg_48 rfl (xs_n rfl ?_)
              refine xs_iconst (q := 77) i_RF_runAgain_76 rfl (xs_n rfl ?_)
              refine xs_iadd (q := 78) i_RF_runAgain_77 rfl (xs_n rfl ?_)
              refine xs_puti (q := 81) i_RF_runAgain_78 rfl fd_RF_15 sg_48 rfl (xs_n rfl ?_)
              refine xs_iinc (q := 84) (ls2 := [_, _, _, _, _, _, _]) i_RF_runAgain_81 rfl rfl rfl (xs_n rfl ?_)
              refine xs_goto (q := 19) i_RF_runAgain_84 rfl (xs_z rfl ?_)
              have h69 : ra_x a (ra_it (ra_0 k M) a) = ra_m2 a (ra_it (ra_0 k M) a) 49 a := h68
              exact ⟨(n - (a + 1 : Nat)).toNat, by omega, Or.inr ⟨a + 1, rfl, rfl, rfl, by simp only [ra_it, ra_n]; rw [if_pos h69], by omega, rfl⟩⟩
    · exact h.elim
