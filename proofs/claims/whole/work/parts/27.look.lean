/-! contract: SlackMeter.measure (wip/whole/p27.py) -/
theorem am_fi_sp (p : Nat → Bool) : ∀ (k i : Nat), i ≤ am_fi p k i ∧ am_fi p k i ≤ i + k ∧ (am_fi p k i < i + k → p (am_fi p k i) = true)
  | 0, i => ⟨Nat.le_refl _, Nat.le_refl _, fun h => by simp only [am_fi] at h; omega⟩
  | k + 1, i => by
    by_cases h : p i = true
    · have e : am_fi p (k + 1) i = i := by rw [am_fi, if_pos h]
      rw [e]
      exact ⟨Nat.le_refl _, by omega, fun _ => h⟩
    · have e : am_fi p (k + 1) i = am_fi p k (i + 1) := by rw [am_fi, if_neg h]
      obtain ⟨h1, h2, h3⟩ := am_fi_sp p k (i + 1)
      rw [e]
      exact ⟨by omega, by omega, fun z => h3 (by omega)⟩
def sm_rd (a : Int) (M : am_M) : am_M := am_col M (M 1 5).toNat (h_LO_makeReady 19 a M)
def sm_bz (M : am_M) : Nat := am_fi (fun r => decide (0 < M 22 (M 6 r).toNat)) (M 1 5).toNat 0
def sm_rn (M : am_M) : am_M := g_LO_run [.inr (.inl 19), .inl ((sm_bz M : Nat) : Int)] M
def sm_fr (n : Nat) (M : am_M) : am_M := fun k j => if k = 24 ∧ j < n then M 24 j + 1 else M k j
/-- a tick of the look ahead -/
def sm_tk (a : Int) (M : am_M) : am_M := sm_fr (sm_bz (sm_rd a M)) (sm_rn (sm_rd a M))
def sm_mn (a : Int) (M : am_M) : Nat → Int → Int
  | 0, s => s
  | r + 1, s => if M 25 r = a + 1 then (if M 24 r < sm_mn a M r s then M 24 r else sm_mn a M r s) else sm_mn a M r s
def sm_lp : Nat → Int → Int → am_M → Int × am_M
  | 0, _, s, M => (s, M)
  | n + 1, a, s, M => if sm_set s a M = 0 then sm_lp n (a + 1) (sm_mn a (sm_tk a M) (M 1 5).toNat s) (sm_tk a M) else (s, M)
theorem sm_fr_0 (M : am_M) : sm_fr 0 M = M := by funext k j; simp [sm_fr]
theorem sm_fr_s (n : Nat) (M : am_M) : am_up (sm_fr n M) 24 n (sm_fr n M 24 n + 1) = sm_fr (n + 1) M := by
  funext k j
  by_cases h1 : k = 24 ∧ j = n
  · obtain ⟨rfl, rfl⟩ := h1
    rw [am_up_s]
    simp [sm_fr]
  · simp only [am_up, sm_fr]
    rw [if_neg h1]
    by_cases h2 : k = 24 ∧ j < n
    · rw [if_pos h2, if_pos ⟨h2.1, by omega⟩]
    · rw [if_neg h2, if_neg (by omega)]
/-- the meter's own rows are small; a Load's are smaller -/
def sm_x (M : am_M) : Prop := ∀ j, j < 5 → (0 ≤ M 20 j ∧ M 20 j ≤ 200000) ∧ (0 ≤ M 21 j ∧ M 21 j ≤ 60) ∧ (0 ≤ M 22 j ∧ M 22 j ≤ 100000000) ∧ (0 ≤ M 23 j ∧ M 23 j ≤ 200000) ∧ (0 ≤ M 24 j ∧ M 24 j ≤ 1000000) ∧ (0 ≤ M 25 j ∧ M 25 j ≤ 200000)
def lo_in (b : Nat) (M : am_M) : Prop := ∀ j, j < 5 → (0 ≤ M (b + 1) j ∧ M (b + 1) j ≤ 100000) ∧ (0 ≤ M (b + 2) j ∧ M (b + 2) j ≤ 60) ∧ (0 ≤ M (b + 3) j ∧ M (b + 3) j ≤ 100000) ∧ (0 ≤ M (b + 4) j ∧ M (b + 4) j ≤ 100000)
def sm_B (M : am_M) (d : Int) : Prop := ts_ok M ∧ sm_x M ∧ ∀ j : Nat, (j : Int) < M 1 5 → M 22 j ≤ 100000 + 60 * d ∧ M 24 j ≤ d
theorem sm_rd_k {a : Int} {M : am_M} {k j : Nat} (hk : k < 20 ∨ 23 < k) : sm_rd a M k j = M k j := am_col_k (by simp only [h_LO_makeReady]; (repeat' split) <;> (first | rfl | omega))
theorem ts_ok_of {M M' : am_M} (h : ts_ok M) (e : ∀ k j, 1 ≤ k → k ≤ 6 → M' k j = M k j) : ts_ok M' := by
  unfold ts_ok
  rw [e 1 5 (by omega) (by omega)]
  refine ⟨h.1, fun r hr => ?_⟩
  rw [e 6 r (by omega) (by omega), e 2 r (by omega) (by omega), e 3 r (by omega) (by omega), e 4 r (by omega) (by omega), e 5 r (by omega) (by omega)]
  exact h.2 r hr
theorem sm_rd_ok {a : Int} {M : am_M} (h : ts_ok M) : ts_ok (sm_rd a M) := ts_ok_of h (fun k j _ _ => sm_rd_k (by omega))
theorem sm_rd_v {a : Int} {M : am_M} {k j : Nat} : sm_rd a M k j = if (j : Int) < M 1 5 then h_LO_makeReady 19 a M k j else M k j := by
  unfold sm_rd am_col
  by_cases h : (j : Int) < M 1 5
  · rw [if_pos h, if_pos (by omega)]
  · rw [if_neg h, if_neg (by omega)]
theorem sm_rd_B {a d : Int} {M : am_M} (h : sm_B M d) (ha : 0 ≤ a ∧ a ≤ 150000) (hd : 0 ≤ d ∧ d ≤ 150000) : ts_ok (sm_rd a M) ∧ sm_x (sm_rd a M) ∧ ∀ j : Nat, (j : Int) < M 1 5 → sm_rd a M 22 j ≤ 100000 + 60 * d + 60 ∧ sm_rd a M 24 j ≤ d := by
  obtain ⟨h1, h2, h3⟩ := h
  refine ⟨sm_rd_ok h1, fun j hj => ?_, fun j hj => ?_⟩
  · have x1 := h2 j hj
    rw [sm_rd_k (k := 24) (by omega), sm_rd_k (k := 25) (by omega), sm_rd_v, sm_rd_v, sm_rd_v, sm_rd_v]
    by_cases hc : (j : Int) < M 1 5
    · have x2 := h1.2 j hc
      have x3 := h3 j hc
      rw [if_pos hc, if_pos hc, if_pos hc, if_pos hc]
      simp only [h_LO_makeReady]
      by_cases he : M (19 + 1) j = a
      · rw [if_pos he, if_pos he, if_pos he, if_pos he]
        simp
        omega
      · rw [if_neg he, if_neg he, if_neg he, if_neg he]
        exact x1
    · rw [if_neg hc, if_neg hc, if_neg hc, if_neg hc]
      exact x1
  · have x1 := h2 j (by have := h1.1; omega)
    have x3 := h3 j hj
    rw [sm_rd_k (k := 24) (by omega), sm_rd_v, if_pos hj]
    simp only [h_LO_makeReady]
    by_cases he : M (19 + 1) j = a
    · rw [if_pos he]
      simp
      omega
    · rw [if_neg he]
      omega
theorem sm_bz_le (M : am_M) : sm_bz M ≤ (M 1 5).toNat := by
  have := (am_fi_sp (fun r => decide (0 < M 22 (M 6 r).toNat)) (M 1 5).toNat 0).2.1
  unfold sm_bz
  omega
theorem sm_bz_pos {M : am_M} (h : sm_bz M < (M 1 5).toNat) : 0 < M 22 (M 6 (sm_bz M)).toNat := of_decide_eq_true ((am_fi_sp (fun r => decide (0 < M 22 (M 6 r).toNat)) (M 1 5).toNat 0).2.2 (by unfold sm_bz at h; omega))
theorem sm_rn_v (M : am_M) : (sm_bz M < (M 1 5).toNat ∧ sm_rn M = am_up M 22 (M 6 (sm_bz M)).toNat (M 22 (M 6 (sm_bz M)).toNat - 1)) ∨ (sm_bz M = (M 1 5).toNat ∧ sm_rn M = M) := by
  have h1 := sm_bz_le M
  by_cases h : sm_bz M < (M 1 5).toNat
  · refine Or.inl ⟨h, ?_⟩
    simp only [sm_rn, g_LO_run]
    rw [if_pos (by omega)]
    simp only [Int.toNat_natCast]
  · refine Or.inr ⟨by omega, ?_⟩
    simp only [sm_rn, g_LO_run]
    rw [if_neg (by omega)]
theorem sm_rn_k {M : am_M} {k j : Nat} (hk : k ≠ 22) : sm_rn M k j = M k j := by
  rcases sm_rn_v M with ⟨-, e⟩ | ⟨-, e⟩
  · rw [e, am_up_k _ _ hk]
  · rw [e]
theorem sm_tk_k {a : Int} {M : am_M} {k j : Nat} (hk : k < 20 ∨ 24 < k) : sm_tk a M k j = M k j := by
  unfold sm_tk sm_fr
  rw [if_neg (by omega), sm_rn_k (by omega), sm_rd_k (by omega)]
theorem sm_tk_B {a d : Int} {M : am_M} (h : sm_B M d) (ha : 0 ≤ a ∧ a ≤ 150000) (hd : 0 ≤ d ∧ d ≤ 150000) : sm_B (sm_tk a M) (d + 1) := by
  obtain ⟨r1, r2, r3⟩ := sm_rd_B h ha hd
  have hc : sm_rd a M 1 5 = M 1 5 := sm_rd_k (by omega)
  have hn : ∀ j, 0 ≤ sm_rn (sm_rd a M) 22 j ∧ sm_rn (sm_rd a M) 22 j ≤ sm_rd a M 22 j ∨ ¬ j < 5 := by
    intro j
    by_cases hj : j < 5
    · have x1 := r2 j hj
      rcases sm_rn_v (sm_rd a M) with ⟨e0, e⟩ | ⟨-, e⟩
      · have hp := sm_bz_pos e0
        rw [e]
        simp only [am_up]
        by_cases hq : j = (sm_rd a M 6 (sm_bz (sm_rd a M))).toNat
        · rw [if_pos ⟨trivial, hq⟩]
          rw [← hq] at hp ⊢
          omega
        · rw [if_neg (fun z => hq z.2)]
          omega
      · rw [e]
        omega
    · exact Or.inr hj
  refine ⟨ts_ok_of h.1 (fun k j _ _ => sm_tk_k (by omega)), fun j hj => ?_, fun j hj => ?_⟩
  · have x1 := r2 j hj
    have x2 := hn j
    have q24 : 0 ≤ sm_tk a M 24 j ∧ sm_tk a M 24 j ≤ 1000000 := by
      simp only [sm_tk, sm_fr, true_and]
      by_cases hb : j < sm_bz (sm_rd a M)
      · rw [if_pos hb, sm_rn_k (by decide)]
        have b1 := sm_bz_le (sm_rd a M)
        have := (r3 j (by rw [hc] at b1; omega)).2
        omega
      · rw [if_neg hb, sm_rn_k (by decide)]
        omega
    have q : ∀ k, k ≠ 24 → sm_tk a M k j = sm_rn (sm_rd a M) k j := fun k hk => by simp only [sm_tk, sm_fr]; rw [if_neg (fun z => hk z.1)]
    rw [q 20 (by decide), q 21 (by decide), q 22 (by decide), q 23 (by decide), q 25 (by decide), sm_rn_k (k := 20) (by decide), sm_rn_k (k := 21) (by decide), sm_rn_k (k := 23) (by decide), sm_rn_k (k := 25) (by decide)]
    omega
  · have hj' : (j : Int) < M 1 5 := by rw [sm_tk_k (by omega)] at hj; exact hj
    have h5 : j < 5 := by have := h.1.1; omega
    have x2 := hn j
    have x3 := r3 j hj'
    have q22 : sm_tk a M 22 j = sm_rn (sm_rd a M) 22 j := by simp only [sm_tk, sm_fr]; rw [if_neg (by simp)]
    have q24 : sm_tk a M 24 j ≤ d + 1 := by
      simp only [sm_tk, sm_fr, true_and]
      by_cases hb : j < sm_bz (sm_rd a M)
      · rw [if_pos hb, sm_rn_k (by decide)]; omega
      · rw [if_neg hb, sm_rn_k (by decide)]; omega
    rw [q22]
    omega
def sm_P (b : Nat) (M : am_M) : am_M := am_col (sm_cp b M) (M 1 5).toNat (h_SM_prepare b (sm_cp b M))
def sm_L (b : Nat) (M : am_M) (m : Int) : Int := sm_last b (sm_cp b M) m (M 1 5).toNat
theorem sm_P_k {b : Nat} {M : am_M} {k j : Nat} (hk : k < 20 ∨ 25 < k) : sm_P b M k j = M k j := by
  unfold sm_P
  rw [am_col_k (by simp only [h_SM_prepare]; rw [if_neg (by omega), if_neg (by omega)])]
  exact sm_cp_k (by omega)
theorem lo_fd_b {b : Nat} {M : am_M} (hb : 25 < b) (h1 : ts_ok M) (h2 : lo_in b M) {j : Nat} (hj : (j : Int) < M 1 5) : 0 ≤ lo_fd b (sm_cp b M) (sm_cp b M 6 j).toNat ∧ lo_fd b (sm_cp b M) (sm_cp b M 6 j).toNat ≤ 100060 := by
  rw [sm_cp_k (k := 6) (by omega)]
  have q1 := (h1.2 j hj).1
  have q2 := h1.2 (M 6 j).toNat (by omega)
  have q3 := h2 (M 6 j).toNat (by have := h1.1; omega)
  unfold lo_fd
  rw [sm_cp_k (by omega), sm_cp_k (by omega), sm_cp_k (by omega), sm_cp_k (by omega)]
  by_cases e : 0 < M (b + 3) (M 6 j).toNat
  · rw [if_pos e]; omega
  · rw [if_neg e]; omega
theorem sm_P_B {b : Nat} {M : am_M} (hb : 25 < b) (h1 : ts_ok M) (h2 : lo_in b M) (h3 : sm_x M) : sm_B (sm_P b M) 0 := by
  refine ⟨ts_ok_of h1 (fun k j _ _ => sm_P_k (by omega)), fun j hj => ?_, fun j hj => ?_⟩
  · have x1 := h3 j hj
    have x2 := h2 j hj
    by_cases hc : j < (M 1 5).toNat
    · have x3 := lo_fd_b hb h1 h2 (j := j) (by omega)
      have e : ∀ k, sm_P b M k j = h_SM_prepare b (sm_cp b M) k j := fun k => am_col_lt hc
      have e2 : ∀ k, sm_cp b M k j = h_LO_copy 19 b M k j := fun k => am_col_lt hc
      rw [e 20, e 21, e 22, e 23, e 24, e 25]
      simp only [h_SM_prepare]
      simp
      rw [e2 20, e2 21, e2 22, e2 23]
      simp only [h_LO_copy]
      simp
      omega
    · have e : ∀ k, sm_P b M k j = M k j := fun k => by
        unfold sm_P
        rw [am_col_ge (by omega)]
        exact am_col_ge (by omega)
      rw [e 20, e 21, e 22, e 23, e 24, e 25]
      exact x1
  · have hj' : (j : Int) < M 1 5 := by rw [sm_P_k (by omega)] at hj; exact hj
    have hc : j < (M 1 5).toNat := by omega
    have x2 := h2 j (by have := h1.1; omega)
    have e : ∀ k, sm_P b M k j = h_SM_prepare b (sm_cp b M) k j := fun k => am_col_lt hc
    have e2 : ∀ k, sm_cp b M k j = h_LO_copy 19 b M k j := fun k => am_col_lt hc
    rw [e 22, e 24]
    simp only [h_SM_prepare]
    simp
    rw [e2 22]
    simp only [h_LO_copy]
    simp
    omega
theorem sm_L_b {b : Nat} {M : am_M} {m : Int} (hb : 25 < b) (h1 : ts_ok M) (h2 : lo_in b M) (hm : 0 ≤ m ∧ m ≤ 100000) : m ≤ sm_L b M m ∧ sm_L b M m ≤ 100060 :=
  sm_last_b (by omega) _ (fun j hj => (lo_fd_b hb h1 h2 (by omega)).2)
def P_SM_measure : am_P := fun av M => match av with
  | [.inr (.inl i), .inr (.inl b), .inl m, .inl s] => i = 18 ∧ lo_at b ∧ 25 < b ∧ ts_ok M ∧ lo_in b M ∧ sm_x M ∧ (0 ≤ m ∧ m ≤ 100000) ∧ (0 ≤ s ∧ s ≤ 1000000)
  | _ => False
def f_SM_measure : am_Fr := fun av M => match av with
  | [.inr (.inl i), .inr (.inl b), .inl m, .inl s] => some (.inl (sm_lp (sm_L b M m - m).toNat m s (sm_P b M)).1)
  | _ => none
def g_SM_measure : am_Fm := fun av M => match av with
  | [.inr (.inl i), .inr (.inl b), .inl m, .inl s] => (sm_lp (sm_L b M m - m).toNat m s (sm_P b M)).2
  | _ => M
def ct_SM_measure : am_T := fun pc => if pc = 3 then some (3, am_ctV vw_S 6 P_SM_prepare (am_po f_SM_prepare g_SM_prepare)) else if pc = 26 then some (3, am_ctV vw_S 6 P_SM_isSettled (am_po f_SM_isSettled g_SM_isSettled)) else if pc = 38 then some (2, am_ctV vw_S 5 P_LO_makeReady (am_po f_LO_makeReady g_LO_makeReady)) else if pc = 45 then some (1, am_ctV vw_S 5 P_LO_readyRank (am_po f_LO_readyRank g_LO_readyRank)) else if pc = 56 then some (2, am_ctV vw_S 5 P_LO_run (am_po f_LO_run g_LO_run)) else if pc = 124 then some (2, am_ctS P_JM_min (am_po f_JM_min g_JM_min)) else none
theorem e_SM_measure_3 : ct_SM_measure 3 = some (3, am_ctV vw_S 6 P_SM_prepare (am_po f_SM_prepare g_SM_prepare)) := rfl
theorem e_SM_measure_26 : ct_SM_measure 26 = some (3, am_ctV vw_S 6 P_SM_isSettled (am_po f_SM_isSettled g_SM_isSettled)) := rfl
theorem e_SM_measure_38 : ct_SM_measure 38 = some (2, am_ctV vw_S 5 P_LO_makeReady (am_po f_LO_makeReady g_LO_makeReady)) := rfl
theorem e_SM_measure_45 : ct_SM_measure 45 = some (1, am_ctV vw_S 5 P_LO_readyRank (am_po f_LO_readyRank g_LO_readyRank)) := rfl
theorem e_SM_measure_56 : ct_SM_measure 56 = some (2, am_ctV vw_S 5 P_LO_run (am_po f_LO_run g_LO_run)) := rfl
theorem e_SM_measure_124 : ct_SM_measure 124 = some (2, am_ctS P_JM_min (am_po f_JM_min g_JM_min)) := rfl
theorem ct_SM_measure_ok (l : Launch) : am_CC b_SM_measure 9 w_SM_measure y_SM_measure.cls l r_SM_measure ct_SM_measure := by
  intro p e s m args below meth c H0 A D G ad Q S hK hN hA pc q ct h
  have hts := S.2.2.2.2
  unfold ct_SM_measure at h
  split at h
  · rename_i hpc
    subst hpc; cases h
    exact am_callV S vw_N_ok hK hN hA ⟨Nat.zero_le _, Nat.zero_le _⟩ (m_SM_prepare l) (s_SM_31 hts am_vW hN ⟨by decide, by decide⟩) (by rfl) d_SM_measure_3
  split at h
  · rename_i hpc
    subst hpc; cases h
    exact am_callV S vw_N_ok hK hN hA ⟨Nat.zero_le _, Nat.zero_le _⟩ (m_SM_isSettled l) (s_SM_35 hts am_vW hN ⟨by decide, by decide⟩) (by rfl) d_SM_measure_26
  split at h
  · rename_i hpc
    subst hpc; cases h
    exact am_callV S vw_N_ok hK hN hA ⟨Nat.zero_le _, Nat.zero_le _⟩ (m_LO_makeReady l) (s_SM_39 hts am_vW hN ⟨by decide, by decide⟩) (by rfl) d_SM_measure_38
  split at h
  · rename_i hpc
    subst hpc; cases h
    exact am_callV S vw_N_ok hK hN hA ⟨Nat.zero_le _, Nat.zero_le _⟩ (m_LO_readyRank l) (s_SM_43 hts am_vW hN ⟨by decide, by decide⟩) (by rfl) d_SM_measure_45
  split at h
  · rename_i hpc
    subst hpc; cases h
    exact am_callV S vw_N_ok hK hN hA ⟨Nat.zero_le _, Nat.zero_le _⟩ (m_LO_run l) (s_SM_47 hts am_vW hN ⟨by decide, by decide⟩) (by rfl) d_SM_measure_56
  split at h
  · rename_i hpc
    subst hpc; cases h
    exact am_callS S vw_N_ok hK hN hA ⟨Nat.zero_le _, Nat.zero_le _⟩ (m_JM_min l) (s_SM_56 hts am_vW hN ⟨by decide, by decide⟩) d_SM_measure_124
  cases h
/-- between two ticks of the look ahead -/
def sm_I (b : Nat) (M : am_M) (m s a x : Int) (M0 : am_M) : Prop := (m ≤ a ∧ a ≤ sm_L b M m) ∧ (0 ≤ x ∧ x ≤ 1000000) ∧ sm_B M0 (a - m) ∧ M0 1 5 = M 1 5 ∧ sm_lp (sm_L b M m - a).toNat a x M0 = sm_lp (sm_L b M m - m).toNat m s (sm_P b M)
/-- within a tick -/
def sm_J (b : Nat) (M : am_M) (m s a x : Int) (M0 : am_M) : Prop := sm_I b M m s a x M0 ∧ a < sm_L b M m ∧ sm_set x a M0 = 0
def inv_SM_measure : List am_V → am_M → Nat → am_K := fun av M μ pc ls st M2 => match av with
  | [.inr (.inl i), .inr (.inl b), .inl m, .inl s] => (pc = 0 ∧ ls = am_l0 [.inr (.inl i), .inr (.inl b), .inl m, .inl s] 9 ∧ st = [] ∧ M = M2 ∧ μ = 100000000) ∨
    (∃ (a x : Int) (w1 w2 : Option am_V), pc = 14 ∧ ls = [some (.inr (.inl i)), some (.inr (.inl b)), some (.inl m), some (.inl s), some (.inl (sm_L b M m)), some (.inl x), some (.inl a), w1, w2] ∧ st = [] ∧ sm_I b M m s a x M2 ∧ μ = (sm_L b M m - a).toNat * 20 + 19) ∨
    (∃ (a x : Int) (t : Nat) (M0 : am_M), pc = 62 ∧ ls = [some (.inr (.inl i)), some (.inr (.inl b)), some (.inl m), some (.inl s), some (.inl (sm_L b M m)), some (.inl x), some (.inl a), some (.inl ((sm_bz (sm_rd a M0) : Nat) : Int)), some (.inl (t : Int))] ∧ st = [] ∧ M2 = sm_fr t (sm_rn (sm_rd a M0)) ∧ (sm_J b M m s a x M0 ∧ t ≤ sm_bz (sm_rd a M0)) ∧ μ = (sm_L b M m - a).toNat * 20 + 18 - t) ∨
    (∃ (a x y : Int) (t : Nat) (M0 : am_M) (w1 : Option am_V), pc = 89 ∧ ls = [some (.inr (.inl i)), some (.inr (.inl b)), some (.inl m), some (.inl s), some (.inl (sm_L b M m)), some (.inl y), some (.inl a), w1, some (.inl (t : Int))] ∧ st = [] ∧ M2 = sm_tk a M0 ∧ (sm_J b M m s a x M0 ∧ (t : Int) ≤ M 1 5 ∧ y = sm_mn a (sm_tk a M0) t x ∧ (0 ≤ y ∧ y ≤ 1000000)) ∧ μ = (sm_L b M m - a).toNat * 20 + 9 - t)
  | _ => False
theorem sm_set_01 (s a : Int) (M : am_M) : sm_set s a M = 0 ∨ sm_set s a M = 1 := by
  unfold sm_set
  by_cases h : am_fi (fun r => decide (a < M 25 r ∧ M 24 r < s)) (M 1 5).toNat 0 < (M 1 5).toNat
  · rw [if_pos h]; exact Or.inl rfl
  · rw [if_neg h]; exact Or.inr rfl
theorem lo_in_sm {b : Nat} {M : am_M} (h : lo_in b M) : lo_sm b M 1000000000 := fun j hj => by have := h j hj; omega
theorem m_SM_measure (l : Launch) : am_MF l y_SM_measure w_SM_measure r_SM_measure P_SM_measure f_SM_measure g_SM_measure := by
  refine am_mkL (fun pc => pc == 14 || pc == 62 || pc == 89) i_SM_measure_ok fd_SM_ok (ct_SM_measure_ok l) (plainFor_of_name (by decide +kernel)) (by decide) ?_ 80 inv_SM_measure ?_ ?_
  · intro av M h
    unfold P_SM_measure at h
    split at h
    · exact ⟨Nat.le_of_ble_eq_true rfl, rfl⟩
    · exact h.elim
  · intro av M h
    unfold P_SM_measure at h
    split at h
    · exact ⟨_, Or.inl ⟨rfl, rfl, rfl, rfl, rfl⟩⟩
    · exact h.elim
  · intro av M h μ pc ls st M2 hi
    unfold P_SM_measure at h
    split at h
    · rename_i i b m s
      obtain ⟨rfl, ⟨hb0, hb1, hb2, hb3, hb4, hbl, hbn⟩, hb25, h1, h2, h3, h5, h6⟩ := h
      have hLb := sm_L_b (m := m) hb25 h1 h2 h5
      have h10 := h1.1
      rcases hi with ⟨rfl, rfl, rfl, rfl, rfl⟩ | ⟨a, x, w1, w2, rfl, rfl, rfl, hI, rfl⟩ | ⟨a, x, t, M0, rfl, rfl, rfl, rfl, ⟨hJ, ht⟩, rfl⟩ | ⟨a, x, y, t, M0, w1, rfl, rfl, rfl, rfl, ⟨hJ, ht, hy, hy2⟩, rfl⟩
      · skip
        refine xs_aload_n (q := 1) i_SM_measure_0 rfl rfl (xs_n rfl ?_)
        refine xs_aload_n (q := 2) i_SM_measure_1 rfl rfl (xs_n rfl ?_)
        refine xs_iload_n (q := 3) i_SM_measure_2 rfl rfl (xs_n rfl ?_)
        refine xs_cv (q := 6) (av := [_, _, _]) (rest := []) i_SM_measure_3 rfl (e_SM_measure_3) ⟨rfl, rfl⟩ rfl rfl ?_
        rw [am_V_iff]
        refine ⟨⟨_, sg_18⟩, ⟨rfl, ⟨hb0, hb1, hb2, hb3, hb4, hbl, hbn⟩, hb25, h1, lo_in_sm h2, h5⟩, ?_⟩
        rw [show g_SM_prepare [.inr (.inl 18), .inr (.inl b), .inl m] M = sm_P b M from rfl]
        refine xs_r1 rfl (xs_n rfl ?_)
        refine xs_istore (q := 8) (ls2 := [_, _, _, _, _, _, _, _, _]) i_SM_measure_6 rfl rfl rfl (xs_n rfl ?_)
        refine xs_iload_n (q := 9) i_SM_measure_8 rfl rfl (xs_n rfl ?_)
        refine xs_istore (q := 11) (ls2 := [_, _, _, _, _, _, _, _, _]) i_SM_measure_9 rfl rfl rfl (xs_n rfl ?_)
        refine xs_iload_n (q := 12) i_SM_measure_11 rfl rfl (xs_n rfl ?_)
        refine xs_istore (q := 14) (ls2 := [_, _, _, _, _, _, _, _, _]) i_SM_measure_12 rfl rfl rfl (xs_z rfl ?_)
        refine ⟨(sm_L b M m - m).toNat * 20 + 19, by omega, Or.inr (Or.inl ⟨m, s, _, _, rfl, rfl, rfl, ⟨by omega, h6, ?_, sm_P_k (by omega), rfl⟩, rfl⟩)⟩
        rw [Int.sub_self]
        exact sm_P_B hb25 h1 h2 h3
      · skip
        have hB := hI.2.2.1
        have hx9 : ∀ j, j < 5 → am_R (M2 24 j) ∧ am_R (M2 25 j) := fun j hj => by have := hB.2.1 j hj; exact ⟨by unfold am_R; omega, by unfold am_R; omega⟩
        obtain ⟨ha, hx, -, hc, -⟩ := id hI
        refine xs_iload (q := 16) i_SM_measure_14 rfl rfl (xs_n rfl ?_)
        refine xs_iload (q := 18) i_SM_measure_16 rfl rfl (xs_n rfl ?_)
        refine xs_ic_ge (q := 141) (r := 21) i_SM_measure_18 rfl rfl ⟨by unfold am_R; omega, by unfold am_R; omega⟩ (fun h18 => (xs_n rfl ?_)) (fun h18 => (xs_n rfl ?_))
        · refine xs_iload (q := 143) i_SM_measure_141 rfl rfl (xs_n rfl ?_)
          refine xs_iret i_SM_measure_143 ?_
          refine xs_fin ?_ ?_ trivial
          · simp only [f_SM_measure]
            rw [← hI.2.2.2.2, show (sm_L b M m - a).toNat = 0 by omega, sm_lp]
          · simp only [g_SM_measure]
            rw [← hI.2.2.2.2, show (sm_L b M m - a).toNat = 0 by omega, sm_lp]
        · refine xs_aload_n (q := 22) i_SM_measure_21 rfl rfl (xs_n rfl ?_)
          refine xs_iload (q := 24) i_SM_measure_22 rfl rfl (xs_n rfl ?_)
          refine xs_iload (q := 26) i_SM_measure_24 rfl rfl (xs_n rfl ?_)
          refine xs_cv (q := 29) (av := [_, _, _]) (rest := []) i_SM_measure_26 rfl (e_SM_measure_26) ⟨rfl, rfl⟩ rfl rfl ?_
          rw [am_V_iff]
          refine ⟨⟨_, sg_18⟩, ⟨rfl, by omega, by unfold am_R; omega, by unfold am_R; omega, hx9⟩, ?_⟩
          dsimp only [g_SM_isSettled, g_id]
          refine xs_r1 rfl (xs_n rfl ?_)
          refine xs_if_ne (q := 141) (r := 32) i_SM_measure_29 rfl rfl (by rcases sm_set_01 x a M2 with h9 | h9 <;> (show am_R (sm_set x a M2); rw [h9]; unfold am_R; omega)) (fun h29 => (xs_n rfl ?_)) (fun h29 => (xs_n rfl ?_))
          · refine xs_iload (q := 143) i_SM_measure_141 rfl rfl (xs_n rfl ?_)
            refine xs_iret i_SM_measure_143 ?_
            refine xs_fin ?_ ?_ trivial
            · simp only [f_SM_measure]
              rw [← hI.2.2.2.2, show (sm_L b M m - a).toNat = (sm_L b M m - (a + 1)).toNat + 1 by omega, sm_lp, if_neg h29]
            · simp only [g_SM_measure]
              rw [← hI.2.2.2.2, show (sm_L b M m - a).toNat = (sm_L b M m - (a + 1)).toNat + 1 by omega, sm_lp, if_neg h29]
          · have hR := sm_rd_B (a := a) hB (by omega) (by omega)
            have hcr : sm_rd a M2 1 5 = M 1 5 := by rw [sm_rd_k (by omega)]; exact hc
            have hbz := sm_bz_le (sm_rd a M2)
            refine xs_aload_n (q := 33) i_SM_measure_32 rfl rfl (xs_n rfl ?_)
            refine xs_getr (q := 36) i_SM_measure_33 rfl fd_SM_27 sg_18 rfl (xs_n rfl ?_)
            refine xs_iload (q := 38) i_SM_measure_36 rfl rfl (xs_n rfl ?_)
            refine xs_cv (q := 41) (av := [_, _]) (rest := []) i_SM_measure_38 rfl (e_SM_measure_38) ⟨rfl, rfl⟩ rfl rfl ?_
            rw [am_V_iff]
            refine ⟨⟨_, sg_19⟩, ⟨lo_19, by omega, by unfold am_R; omega, fun j hj => by have := (hB.2.1 j hj).1; show am_R (M2 20 j); unfold am_R; omega⟩, ?_⟩
            rw [show g_LO_makeReady [.inr (.inl 19), .inl a] M2 = sm_rd a M2 from rfl]
            refine xs_r0 rfl (xs_n rfl ?_)
            refine xs_aload_n (q := 42) i_SM_measure_41 rfl rfl (xs_n rfl ?_)
            refine xs_getr (q := 45) i_SM_measure_42 rfl fd_SM_27 sg_18 rfl (xs_n rfl ?_)
            refine xs_cv (q := 48) (av := [_]) (rest := []) i_SM_measure_45 rfl (e_SM_measure_45) ⟨rfl, rfl⟩ rfl rfl ?_
            rw [am_V_iff]
            refine ⟨⟨_, sg_19⟩, ⟨lo_19, hR.1, fun j hj => by have := (hR.2.1 j hj).2.2.1; show am_R (sm_rd a M2 22 j); unfold am_R; omega⟩, ?_⟩
            dsimp only [g_LO_readyRank, g_id]
            refine xs_r1 rfl (xs_n rfl ?_)
            refine xs_istore (q := 50) (ls2 := [_, _, _, _, _, _, _, _, _]) i_SM_measure_48 rfl rfl rfl (xs_n rfl ?_)
            refine xs_aload_n (q := 51) i_SM_measure_50 rfl rfl (xs_n rfl ?_)
            refine xs_getr (q := 54) i_SM_measure_51 rfl fd_SM_27 sg_18 rfl (xs_n rfl ?_)
            refine xs_iload (q := 56) i_SM_measure_54 rfl rfl (xs_n rfl ?_)
            refine xs_cv (q := 59) (av := [_, _]) (rest := []) i_SM_measure_56 rfl (e_SM_measure_56) ⟨rfl, rfl⟩ rfl rfl ?_
            rw [am_V_iff]
            refine ⟨⟨_, sg_19⟩, ⟨lo_19, by rw [hcr]; omega, by show am_R ((sm_bz (sm_rd a M2) : Nat) : Int); unfold am_R; omega, fun j hj => by have q1 := (hR.1.2 j hj).1; have q2 := hR.1.1; omega⟩, ?_⟩
            rw [show g_LO_run [.inr (.inl 19), .inl ((am_fi (fun r => decide (0 < sm_rd a M2 (19 + 3) (sm_rd a M2 6 r).toNat)) (sm_rd a M2 1 5).toNat 0 : Nat) : Int)] (sm_rd a M2) = sm_rn (sm_rd a M2) from rfl]
            refine xs_r0 rfl (xs_n rfl ?_)
            refine xs_iconst (q := 60) i_SM_measure_59 rfl (xs_n rfl ?_)
            refine xs_istore (q := 62) (ls2 := [_, _, _, _, _, _, _, _, _]) i_SM_measure_60 rfl rfl rfl (xs_z rfl ?_)
            exact ⟨(sm_L b M m - a).toNat * 20 + 18, by omega, Or.inr (Or.inr (Or.inl ⟨a, x, 0, M2, rfl, rfl, rfl, (sm_fr_0 _).symm, ⟨⟨hI, h18, h29⟩, Nat.zero_le _⟩, rfl⟩))⟩
      · skip
        obtain ⟨⟨ha, hx, hB, hc, -⟩, hal, -⟩ := id hJ
        have hR := sm_rd_B (a := a) hB (by omega) (by omega)
        have hcr : sm_rd a M0 1 5 = M 1 5 := by rw [sm_rd_k (by omega)]; exact hc
        have hbz := sm_bz_le (sm_rd a M0)
        refine xs_iload (q := 64) i_SM_measure_62 rfl rfl (xs_n rfl ?_)
        refine xs_iload (q := 66) i_SM_measure_64 rfl rfl (xs_n rfl ?_)
        refine xs_ic_ge (q := 86) (r := 69) i_SM_measure_66 rfl rfl ⟨by unfold am_R; omega, by unfold am_R; omega⟩ (fun h66 => (xs_n rfl ?_)) (fun h66 => (xs_n rfl ?_))
        · refine xs_iconst (q := 87) i_SM_measure_86 rfl (xs_n rfl ?_)
          refine xs_istore (q := 89) (ls2 := [_, _, _, _, _, _, _, _, _]) i_SM_measure_87 rfl rfl rfl (xs_z rfl ?_)
          exact ⟨(sm_L b M m - a).toNat * 20 + 9, by omega, Or.inr (Or.inr (Or.inr ⟨a, x, x, 0, M0, _, rfl, rfl, rfl, by rw [show t = sm_bz (sm_rd a M0) by omega]; rfl, ⟨hJ, by omega, rfl, hJ.1.2.1⟩, rfl⟩))⟩
        · refine xs_aload_n (q := 70) i_SM_measure_69 rfl rfl (xs_n rfl ?_)
          refine xs_getr (q := 73) i_SM_measure_70 rfl fd_SM_9 sg_18 rfl (xs_n rfl ?_)
          refine xs_iload (q := 75) i_SM_measure_73 rfl rfl (xs_n rfl ?_)
          refine xs_dup2 (q := 76) i_SM_measure_75 rfl (xs_n rfl ?_)
          refine xs_iaload (q := 77) i_SM_measure_76 rfl sg_24 rfl (by omega) (xs_n rfl ?_)
          refine xs_iconst (q := 78) i_SM_measure_77 rfl (xs_n rfl ?_)
          refine xs_iadd (q := 79) i_SM_measure_78 rfl (xs_n rfl ?_)
          refine xs_iastore (q := 80) i_SM_measure_79 rfl sg_24 (by omega) (xs_n rfl ?_)
          refine xs_iinc (q := 83) (ls2 := [_, _, _, _, _, _, _, _, _]) i_SM_measure_80 rfl rfl rfl (xs_n rfl ?_)
          refine xs_goto (q := 62) i_SM_measure_83 rfl (xs_z rfl ?_)
          exact ⟨(sm_L b M m - a).toNat * 20 + 18 - (t + 1), by omega, Or.inr (Or.inr (Or.inl ⟨a, x, t + 1, M0, rfl, rfl, rfl, by rw [Int.toNat_natCast, sm_fr_s], ⟨hJ, by omega⟩, rfl⟩))⟩
      · skip
        obtain ⟨⟨ha, hx, hB, hc, -⟩, hal, -⟩ := id hJ
        have hT := sm_tk_B (a := a) hB (by omega) (by omega)
        have hct : sm_tk a M0 1 5 = M 1 5 := by rw [sm_tk_k (by omega)]; exact hc
        refine xs_iload (q := 91) i_SM_measure_89 rfl rfl (xs_n rfl ?_)
        refine xs_aload_n (q := 92) i_SM_measure_91 rfl rfl (xs_n rfl ?_)
        refine xs_getr (q := 95) i_SM_measure_92 rfl fd_SM_18 sg_18 rfl (xs_n rfl ?_)
        refine xs_geti (q := 98) i_SM_measure_95 rfl fd_SM_50 sg_1 rfl (xs_n rfl ?_)
        refine xs_ic_ge (q := 135) (r := 101) i_SM_measure_98 rfl rfl ⟨by unfold am_R; omega, by unfold am_R; omega⟩ (fun h98 => (xs_n rfl ?_)) (fun h98 => (xs_n rfl ?_))
        · refine xs_iinc (q := 138) (ls2 := [_, _, _, _, _, _, _, _, _]) i_SM_measure_135 rfl rfl rfl (xs_n rfl ?_)
          refine xs_goto (q := 14) i_SM_measure_138 rfl (xs_z rfl ?_)
          refine ⟨(sm_L b M m - (a + 1)).toNat * 20 + 19, by omega, Or.inr (Or.inl ⟨a + 1, y, _, _, rfl, rfl, rfl, ⟨by omega, hy2, ?_, ?_, ?_⟩, rfl⟩)⟩
          · have := sm_tk_B (a := a) hJ.1.2.2.1 (by omega) (by omega)
            rw [show a + 1 - m = a - m + 1 by omega]
            exact this
          · rw [sm_tk_k (by omega)]; exact hJ.1.2.2.2.1
          · rw [← hJ.1.2.2.2.2, show (sm_L b M m - a).toNat = (sm_L b M m - (a + 1)).toNat + 1 by omega, sm_lp, if_pos hJ.2.2, hJ.1.2.2.2.1, hy, show t = (M 1 5).toNat by omega]
        · refine xs_aload_n (q := 102) i_SM_measure_101 rfl rfl (xs_n rfl ?_)
          refine xs_getr (q := 105) i_SM_measure_102 rfl fd_SM_15 sg_18 rfl (xs_n rfl ?_)
          refine xs_iload (q := 107) i_SM_measure_105 rfl rfl (xs_n rfl ?_)
          refine xs_iaload (q := 108) i_SM_measure_107 rfl sg_25 rfl (by omega) (xs_n rfl ?_)
          refine xs_iload (q := 110) i_SM_measure_108 rfl rfl (xs_n rfl ?_)
          refine xs_iconst (q := 111) i_SM_measure_110 rfl (xs_n rfl ?_)
          refine xs_iadd (q := 112) i_SM_measure_111 rfl (xs_n rfl ?_)
          refine xs_ic_ne (q := 129) (r := 115) i_SM_measure_112 rfl rfl ⟨by have := (hT.2.1 t (by omega)).2.2.2.2.2; rw [Int.toNat_natCast]; unfold am_R; omega, by unfold am_R; omega⟩ (fun h112 => (xs_n rfl ?_)) (fun h112 => (xs_n rfl ?_))
          · try simp only [Int.toNat_natCast] at h112
            refine xs_iinc (q := 132) (ls2 := [_, _, _, _, _, _, _, _, _]) i_SM_measure_129 rfl rfl rfl (xs_n rfl ?_)
            refine xs_goto (q := 89) i_SM_measure_132 rfl (xs_z rfl ?_)
            exact ⟨(sm_L b M m - a).toNat * 20 + 9 - (t + 1), by omega, Or.inr (Or.inr (Or.inr ⟨a, x, y, t + 1, M0, _, rfl, rfl, rfl, rfl, ⟨hJ, by omega, by rw [sm_mn, if_neg h112]; exact hy, hy2⟩, rfl⟩))⟩
          · simp only [Int.toNat_natCast] at h112
            refine xs_iload (q := 117) i_SM_measure_115 rfl rfl (xs_n rfl ?_)
            refine xs_aload_n (q := 118) i_SM_measure_117 rfl rfl (xs_n rfl ?_)
            refine xs_getr (q := 121) i_SM_measure_118 rfl fd_SM_9 sg_18 rfl (xs_n rfl ?_)
            refine xs_iload (q := 123) i_SM_measure_121 rfl rfl (xs_n rfl ?_)
            refine xs_iaload (q := 124) i_SM_measure_123 rfl sg_24 rfl (by omega) (xs_n rfl ?_)
            refine xs_cs (q := 127) (av := [_, _]) (rest := []) i_SM_measure_124 rfl (e_SM_measure_124) ⟨rfl, rfl⟩ rfl rfl ?_
            rw [am_S_iff]
            refine ⟨⟨by unfold am_R; omega, by have := (hT.2.1 t (by omega)).2.2.2.2.1; rw [Int.toNat_natCast]; unfold am_R; omega⟩, ?_⟩
            dsimp only [g_JM_min, g_id]
            refine xs_r1 rfl (xs_n rfl ?_)
            refine xs_istore (q := 129) (ls2 := [_, _, _, _, _, _, _, _, _]) i_SM_measure_127 rfl rfl rfl (xs_n rfl ?_)
            try simp only [Int.toNat_natCast] at h112
            refine xs_iinc (q := 132) (ls2 := [_, _, _, _, _, _, _, _, _]) i_SM_measure_129 rfl rfl rfl (xs_n rfl ?_)
            refine xs_goto (q := 89) i_SM_measure_132 rfl (xs_z rfl ?_)
            refine ⟨(sm_L b M m - a).toNat * 20 + 9 - (t + 1), by omega, Or.inr (Or.inr (Or.inr ⟨a, x, _, t + 1, M0, _, rfl, rfl, rfl, rfl, ⟨hJ, by omega, by rw [sm_mn, if_pos h112, ← hy]; rfl, ?_⟩, rfl⟩))⟩
            simp only [Int.toNat_natCast]
            by_cases hz : sm_tk a M0 24 t < y
            · rw [if_pos hz]; have := (hT.2.1 t (by omega)).2.2.2.2.1; omega
            · rw [if_neg hz]; exact hy2
    · exact h.elim
