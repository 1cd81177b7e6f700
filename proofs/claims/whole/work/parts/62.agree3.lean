/-! class and reference agree: the load (wip/whole/p62.py); y: the moment from which on the next instance counts -/
def vr_L (d : Nat) (y : Int) (A B : am_M) : Prop := ∀ j : Nat, (j : Int) < A 1 5 → A (d + 1 + 1) j = ma_nx (A 3 j) (A 2 j) y ∧ A (d + 1 + 2) j = (if 0 < B 66 j then B 66 j else A 4 j) ∧ B 64 j = A (d + 1 + 3) j ∧ B 65 j = A (d + 1 + 4) j
theorem vr_T_of {A B A' B' : am_M} (h : vr_T A B) (e : ∀ k j, 1 ≤ k → k ≤ 6 → A' k j = A k j) (e1 : B' 50 1 = B 50 1) (e2 : ∀ k j, 51 ≤ k → k ≤ 55 → B' k j = B k j) : vr_T A' B' := by
  refine ⟨by rw [e1, e 1 5 (by omega) (by omega)]; exact h.1, fun j hj => ?_⟩
  rw [e 2 j (by omega) (by omega), e 3 j (by omega) (by omega), e 4 j (by omega) (by omega), e 5 j (by omega) (by omega), e 6 j (by omega) (by omega), e2 51 j (by omega) (by omega), e2 52 j (by omega) (by omega), e2 53 j (by omega) (by omega), e2 54 j (by omega) (by omega), e2 55 j (by omega) (by omega)]
  exact h.2 j hj
theorem mo_fg_e (B : am_M) : mo_fg B = mo_gr B (B 50 1).toNat := rfl
theorem mo_fg_k {B : am_M} {k j : Nat} (h : k ≠ 50) (hk : k < 64 ∨ 66 < k) : mo_fg B k j = B k j := by
  rw [mo_fg_e]
  unfold mo_gr
  rw [am_up_k _ _ h]
  refine am_col_k ?_
  simp only [h_MO_getReady]
  rw [if_neg (show ¬ k = 64 by omega), if_neg (show ¬ k = 65 by omega), if_neg (show ¬ k = 66 by omega)]
  by_cases c : B 52 j ≤ B 50 19 ∧ (B 50 19 - B 52 j) % B 51 j = 0
  · rw [if_pos c]
  · rw [if_neg c]
theorem mo_fg_50 {B : am_M} {j : Nat} (h : j ≠ 29) : mo_fg B 50 j = B 50 j := by
  rw [mo_fg_e]
  unfold mo_gr
  rw [am_up_j _ _ h]
  refine am_col_k ?_
  simp only [h_MO_getReady]
  rw [if_neg (show ¬ 50 = 64 by omega), if_neg (show ¬ 50 = 65 by omega), if_neg (show ¬ 50 = 66 by omega)]
  by_cases c : B 52 j ≤ B 50 19 ∧ (B 50 19 - B 52 j) % B 51 j = 0
  · rw [if_pos c]
  · rw [if_neg c]
/-- instances become ready on both sides -/
theorem vr_ready {d : Nat} {m : Int} {A B : am_M} (hd : 25 < d) (h : vr_T A B) (h2 : ts_ok A) (h3 : vr_L d m A B) (hm : B 50 19 = m) : vr_L d (m + 1) (co_rd d m A) (mo_fg B) := by
  have h4 := h2.1
  have kA : ∀ k j, k ≤ 6 → co_rd d m A k j = A k j := fun k j hk => co_rd_k (by omega)
  intro j hj
  rw [kA 1 5 (by omega)] at hj
  have hj2 : j < (A 1 5).toNat := by omega
  obtain ⟨x1, x2, x3, x4⟩ := h3 j hj
  obtain ⟨t1, t2, t3, t4, t5⟩ := h.2 j (by omega)
  have ok := h2.2 j hj
  have eA : ∀ k, co_rd d m A k j = h_LO_makeReady (d + 1) m A k j := fun k => am_col_lt hj2
  have eB : ∀ k, k ≠ 50 → mo_fg B k j = h_MO_getReady B k j := fun k hk => by
    rw [mo_fg_e]
    unfold mo_gr
    rw [am_up_k _ _ hk, am_col_lt (by rw [h.1]; exact hj2)]
  rw [kA 3 j (by omega), kA 2 j (by omega), kA 4 j (by omega), eA, eA, eA, eA, eB 66 (by decide), eB 64 (by decide), eB 65 (by decide)]
  simp only [h_LO_makeReady, h_MO_getReady]
  rw [hm, t1, t2, t3, t4]
  by_cases c : ma_be (A 3 j) (A 2 j) m
  · have e1 : A (d + 1 + 1) j = m := by rw [x1]; exact ma_be_nx (by omega) c
    rw [if_pos e1, if_pos e1, if_pos e1, if_pos e1]
    have c2 : A 3 j ≤ m ∧ (m - A 3 j) % A 2 j = 0 := c
    rw [if_pos c2, if_pos c2, if_pos c2]
    have e2 := ma_nx_s (o := A 3 j) (p := A 2 j) (y := m) (by omega) c
    simp
    exact ⟨e2.symm, by rw [x3, x2]⟩
  · have e1 : ¬ A (d + 1 + 1) j = m := fun q => c ((ma_be_iff (by omega)).mpr (by rw [← x1]; exact q))
    rw [if_neg e1, if_neg e1, if_neg e1, if_neg e1]
    have c2 : ¬ (A 3 j ≤ m ∧ (m - A 3 j) % A 2 j = 0) := c
    rw [if_neg c2, if_neg c2, if_neg c2]
    exact ⟨by rw [x1]; exact (ma_nx_n (by omega) c).symm, x2, x3, x4⟩
theorem vr_ready_T {d : Nat} {m : Int} {A B : am_M} (hd : 25 < d) (h : vr_T A B) : vr_T (co_rd d m A) (mo_fg B) := vr_T_of h (fun k j _ _ => co_rd_k (by omega)) (mo_fg_50 (by decide)) (fun k j _ _ => mo_fg_k (by omega) (by omega))
/-- told that an instance will take less -/
theorem vr_tell {d : Nat} {y t k : Int} {A B : am_M} (hd : 25 < d) (h2 : ts_ok A) (h3 : vr_L d y A B) (ht : 0 ≤ t ∧ t < A 1 5) (hk : 1 ≤ k ∧ k ≤ A 4 t.toNat) (hb : ∀ j, j < 5 → 0 ≤ B 66 j) : vr_L d y (g_LO_shorten [.inr (.inl (d + 1)), .inl t, .inl k] A) (g_MO_tell [.inr (.inl 50), .inl t, .inl k] B) := by
  have h4 := h2.1
  have eA : g_LO_shorten [.inr (.inl (d + 1)), .inl t, .inl k] A = am_up A (d + 1 + 2) t.toNat (if k < A (d + 1 + 2) t.toNat then k else A (d + 1 + 2) t.toNat) := by
    simp only [g_LO_shorten]
    rw [if_pos (by omega)]
  have eB : g_MO_tell [.inr (.inl 50), .inl t, .inl k] B = am_up B 66 t.toNat (if B 66 t.toNat = 0 ∨ k < B 66 t.toNat then k else B 66 t.toNat) := rfl
  rw [eA, eB]
  intro j hj
  rw [am_up_k _ _ (by omega)] at hj
  obtain ⟨x1, x2, x3, x4⟩ := h3 j hj
  rw [am_up_k _ _ (show d + 1 + 1 ≠ d + 1 + 2 by omega), am_up_k _ _ (show 3 ≠ d + 1 + 2 by omega), am_up_k _ _ (show 2 ≠ d + 1 + 2 by omega), am_up_k _ _ (show 4 ≠ d + 1 + 2 by omega), am_up_k _ _ (show d + 1 + 3 ≠ d + 1 + 2 by omega), am_up_k _ _ (show d + 1 + 4 ≠ d + 1 + 2 by omega), am_up_k _ _ (show 64 ≠ 66 by decide), am_up_k _ _ (show 65 ≠ 66 by decide)]
  refine ⟨x1, ?_, x3, x4⟩
  by_cases c : j = t.toNat
  · subst c
    rw [am_up_s, am_up_s]
    have b0 := hb t.toNat (by omega)
    by_cases c0 : 0 < B 66 t.toNat
    · rw [if_pos c0] at x2
      rw [x2]
      by_cases c1 : k < B 66 t.toNat
      · rw [if_pos c1, if_pos (Or.inr c1), if_pos (by omega)]
      · rw [if_neg c1, if_neg (show ¬ (B 66 t.toNat = 0 ∨ k < B 66 t.toNat) by omega), if_pos c0]
    · rw [if_neg c0] at x2
      rw [x2, if_pos (show B 66 t.toNat = 0 ∨ k < B 66 t.toNat by omega), if_pos (show 0 < k by omega)]
      by_cases c1 : k < A 4 t.toNat
      · rw [if_pos c1]
      · rw [if_neg c1]; omega
  · rw [am_up_j _ _ c, am_up_j _ _ c]
    exact x2
/-- a task's tick on both sides -/
theorem vr_run {d : Nat} {y : Int} {A B : am_M} (hd : 25 < d) (h : vr_T A B) (h2 : ts_ok A) (h3 : vr_L d y A B) (hr : (co_rk d A : Int) < A 1 5) (h5 : vr_N d A B) : vr_L d y (co_rn d (co_rk d A) A) (mo_rx B) := by
  have h4 := h2.1
  have eA : co_rn d (co_rk d A) A = am_up A (d + 1 + 3) (A 6 (co_rk d A)).toNat (A (d + 1 + 3) (A 6 (co_rk d A)).toNat - 1) := by
    simp only [co_rn, g_LO_run, Int.toNat_natCast]
    rw [if_pos (by omega)]
  have e6 : mo_rt B = A 6 (co_rk d A) := by rw [vr_rt h h2 h5, if_neg (by omega)]
  rw [eA]
  unfold mo_rx
  rw [e6]
  intro j hj
  rw [am_up_k _ _ (by omega)] at hj
  obtain ⟨x1, x2, x3, x4⟩ := h3 j hj
  rw [am_up_k _ _ (show d + 1 + 1 ≠ d + 1 + 3 by omega), am_up_k _ _ (show 3 ≠ d + 1 + 3 by omega), am_up_k _ _ (show 2 ≠ d + 1 + 3 by omega), am_up_k _ _ (show 4 ≠ d + 1 + 3 by omega), am_up_k _ _ (show d + 1 + 2 ≠ d + 1 + 3 by omega), am_up_k _ _ (show d + 1 + 4 ≠ d + 1 + 3 by omega), am_up_k _ _ (show 66 ≠ 64 by decide), am_up_k _ _ (show 65 ≠ 64 by decide)]
  refine ⟨x1, x2, ?_, x4⟩
  by_cases c : j = (A 6 (co_rk d A)).toNat
  · subst c
    rw [am_up_s, am_up_s, x3]
  · rw [am_up_j _ _ c, am_up_j _ _ c]
    exact x3
/-- both begin alike -/
theorem vr_begin {d : Nat} {A B : am_M} (hd : 25 < d) (h2 : ts_ok A) (hb : ∀ j, j < 5 → B 64 j = 0 ∧ B 65 j = 0 ∧ B 66 j = 0) : vr_L d 0 (g_LO_begin [.inr (.inl (d + 1))] A) B := by
  have h4 := h2.1
  have eA : g_LO_begin [.inr (.inl (d + 1))] A = am_col A (A 1 5).toNat (h_LO_begin (d + 1) A) := rfl
  rw [eA]
  have kA : ∀ k j, k ≤ 6 → am_col A (A 1 5).toNat (h_LO_begin (d + 1) A) k j = A k j := fun k j hk => am_col_k (by
    simp only [h_LO_begin]
    rw [if_neg (by omega), if_neg (by omega), if_neg (by omega), if_neg (by omega)])
  intro j hj
  rw [kA 1 5 (by omega)] at hj
  have ok := h2.2 j hj
  obtain ⟨b1, b2, b3⟩ := hb j (by omega)
  have e : ∀ k, am_col A (A 1 5).toNat (h_LO_begin (d + 1) A) k j = h_LO_begin (d + 1) A k j := fun k => am_col_lt (by omega)
  rw [kA 3 j (by omega), kA 2 j (by omega), kA 4 j (by omega), e, e, e, e, b1, b2, b3]
  simp only [h_LO_begin]
  simp
  unfold ma_nx
  rw [ma_rc_le (by omega)]
  omega
