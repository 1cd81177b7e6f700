/-! what a tick leaves as it was (wip/whole/p66.py) -/
theorem bu_cb_k {u k j : Nat} {m : Int} {M : am_M} (h : k ≠ u) (h2 : k ≠ u + 1) : g_BU_comeBack [.inr (.inl u), .inl m] M k j = M k j := by
  simp only [g_BU_comeBack]
  by_cases c : M u 1 = 1 ∧ m % M u 3 = 0
  · rw [if_pos c, am_up_k _ _ h]
  · rw [if_neg c]
    by_cases c2 : M u 1 = 2
    · rw [if_pos c2, am_up_k _ _ h2, am_up_k _ _ h]
    · rw [if_neg c2]
theorem bu_tk_k {u k j : Nat} {m : Int} {M : am_M} (h : k ≠ u) (h2 : k ≠ u + 1) : g_BU_take [.inr (.inl u), .inl m] M k j = M k j := by
  simp only [g_BU_take]
  by_cases c : 0 < M u 4
  · rw [if_pos c, am_up_k _ _ h2, am_up_k _ _ h]
  · rw [if_neg c]
theorem qu_sv_k {c k j : Nat} {r m : Int} {M : am_M} (h : k ≠ c) (h1 : k ≠ c + 1) (h2 : k ≠ c + 2) : g_QU_serve [.inr (.inl c), .inl r, .inl m] M k j = M k j := by
  simp only [g_QU_serve]
  by_cases c0 : 0 ≤ r ∧ r ≤ M c 3 - 1
  · rw [if_pos c0]
    by_cases c1 : M (c + 1) r.toNat - 1 = 0
    · rw [if_pos c1, am_up_k _ _ h, am_up_k _ _ h2, am_up_k _ _ h1]
    · rw [if_neg c1, am_up_k _ _ h1]
  · rw [if_neg c0]
theorem co_sv_k2 {d k j : Nat} {m r : Int} {M : am_M} (h : k < d + 6 ∨ d + 10 < k) : co_sv d m r M k j = M k j := by
  unfold co_sv
  rw [qu_sv_k (by omega) (by omega) (by omega), bu_tk_k (by omega) (by omega)]
theorem co_one_k {d k j : Nat} {m : Int} {M : am_M} (hd : 25 < d) (h : k < 19 ∨ (25 < k ∧ k < d) ∨ d + 10 < k) : g_CO_runOne [.inr (.inl d), .inl m] M k j = M k j := by
  simp only [g_CO_runOne]
  have r1 : ∀ (X : am_M) (n : Nat), co_rn d n X k j = X k j := fun X n => co_rn_k (by omega)
  have r2 : ∀ (X : am_M) (r : Int), co_sv d m r X k j = X k j := fun X r => co_sv_k2 (by omega)
  have r3 : co_mm d m M k j = M k j := co_mm_k (by omega)
  (repeat' split) <;> (first | rfl | (rw [r1]; done) | (rw [r2]; done) | (rw [r1, r3]) | (rw [r2, r3]))
/-- a tick of the class's course: the cells outside -/
theorem co_step_k {d k j : Nat} {m : Int} {M : am_M} (hd : 25 < d) (h : k < 19 ∨ (25 < k ∧ k < d) ∨ d + 10 < k) : g_CO_step [.inr (.inl d), .inl m] M k j = M k j := by
  have e : g_CO_step [.inr (.inl d), .inl m] M k j = co_s1 d m M k j := by
    simp only [g_CO_step]
    rw [am_up_k _ _ (by omega)]
  rw [e]
  unfold co_s1 co_s0 co_cb
  rw [co_one_k hd h, co_rd_k (by omega), bu_cb_k (by omega) (by omega)]
theorem mo_cb_k {B : am_M} {k j : Nat} (h : k ≠ 50) : g_MO_comeBack [.inr (.inl 50)] B k j = B k j := by
  simp only [g_MO_comeBack]
  by_cases c : B 50 20 = 1 ∧ B 50 19 % B 57 1 = 0
  · rw [if_pos c, am_up_k _ _ h]
  · rw [if_neg c]
    by_cases c2 : B 50 20 = 2 ∧ B 57 2 ≤ B 50 19
    · rw [if_pos c2, am_up_k _ _ h]
    · rw [if_neg c2]
theorem mo_t1_k {B : am_M} {k j : Nat} (h : k ≠ 50) (h2 : k < 64 ∨ 66 < k) : mo_t1 B k j = B k j := by
  show mo_fg (mo_t0 B) k j = B k j
  rw [mo_fg_k h h2]
  exact mo_cb_k h
theorem mo_wm_k {B : am_M} {k j : Nat} (h : k < 64 ∨ 69 < k) (h2 : k ≠ 50) : mo_wm B k j = B k j := by
  have s2 : mo_s2 B k j = B k j := mo_s2_k (by omega) (by omega)
  unfold mo_wm
  by_cases c : mo_fj B ≠ -1 ∧ (mo_ga B = 1 ∨ mo_rt B = -1)
  · rw [if_pos c]
    unfold mo_s3
    by_cases c2 : mo_ga B = 1 ∧ mo_s2 B 50 20 ≠ 3
    · rw [if_pos c2, am_up_k _ _ (by omega)]
      unfold mo_sy
      rw [am_up_k _ _ h2, s2]
    · rw [if_neg c2, s2]
  · rw [if_neg c]
    by_cases c3 : mo_rt B = -1
    · rw [if_pos c3]
    · rw [if_neg c3]
      unfold mo_rx
      rw [am_up_k _ _ (by omega)]
/-- a tick of the reference: the cells outside -/
theorem mo_one_k {B : am_M} {k j : Nat} (h : k < 64 ∨ 70 < k) (h2 : k ≠ 50) : g_MO_tickOne [.inr (.inl 50)] B k j = B k j := by
  have e : g_MO_tickOne [.inr (.inl 50)] B = mo_fi (mo_wh (mo_t1 B)) (mo_wm (mo_t1 B)) := rfl
  rw [e]
  unfold mo_fi
  rw [am_up_k _ _ h2, am_up_k _ _ (by omega), mo_wm_k (by omega) h2, mo_t1_k h2 (by omega)]
