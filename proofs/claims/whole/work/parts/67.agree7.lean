/-! class and reference agree: a tick's beginning (wip/whole/p67.py) -/
theorem vr_L_of {d : Nat} {y : Int} {A B A' B' : am_M} (h : vr_L d y A B) (e : ∀ k j, 1 ≤ k → k ≤ 6 → A' k j = A k j) (e2 : ∀ k j, d + 2 ≤ k → k ≤ d + 5 → A' k j = A k j) (e3 : ∀ k j, 64 ≤ k → k ≤ 66 → B' k j = B k j) : vr_L d y A' B' := by
  intro j hj
  rw [e 1 5 (by omega) (by omega)] at hj
  rw [e 2 j (by omega) (by omega), e 3 j (by omega) (by omega), e 4 j (by omega) (by omega), e2 (d + 1 + 1) j (by omega) (by omega), e2 (d + 1 + 2) j (by omega) (by omega), e2 (d + 1 + 3) j (by omega) (by omega), e2 (d + 1 + 4) j (by omega) (by omega), e3 64 j (by omega) (by omega), e3 65 j (by omega) (by omega), e3 66 j (by omega) (by omega)]
  exact h j hj
theorem vr_Q_of {c : Nat} {A B A' B' : am_M} (h : vr_Q c A B) (e : ∀ k j, c ≤ k → k ≤ c + 2 → A' k j = A k j) (e2 : ∀ j, A' 13 j = A 13 j) (e3 : B' 50 26 = B 50 26) (e4 : ∀ k j, k = 60 ∨ k = 68 ∨ k = 69 → B' k j = B k j) : vr_Q c A' B' := by
  obtain ⟨⟨q1, q2, q3⟩, q4, q5⟩ := h
  have a3 := e c 3 (by omega) (by omega)
  have a4 := e c 4 (by omega) (by omega)
  refine ⟨⟨by rw [e3, a3]; exact q1, by rw [a3]; exact q2, by rw [a3]; exact q3⟩, fun j hj => ?_, ?_⟩
  · rw [e (c + 1) j (by omega) (by omega), e (c + 2) j (by omega) (by omega), e2, e4 68 j (by omega), e4 69 j (by omega), e4 60 j (by omega)]
    exact q4 j hj
  · rw [a3, a4, q5]
    exact ma_su_eq (fun j _ => by rw [e (c + 1) j (by omega) (by omega)])
theorem mo_cb_50 {B : am_M} {j : Nat} (h : j ≠ 24) : g_MO_comeBack [.inr (.inl 50)] B 50 j = B 50 j := by
  simp only [g_MO_comeBack]
  by_cases c : B 50 20 = 1 ∧ B 50 19 % B 57 1 = 0
  · rw [if_pos c, am_up_j _ _ h]
  · rw [if_neg c]
    by_cases c2 : B 50 20 = 2 ∧ B 57 2 ≤ B 50 19
    · rw [if_pos c2, am_up_j _ _ h]
    · rw [if_neg c2]
theorem mo_t1_50 {B : am_M} {j : Nat} (h : j ≠ 24) (h2 : j ≠ 29) : mo_t1 B 50 j = B 50 j := by
  show mo_fg (mo_t0 B) 50 j = B 50 j
  rw [mo_fg_50 h2]
  exact mo_cb_50 h
theorem mo_t1_24 {B : am_M} : mo_t1 B 50 24 = g_MO_comeBack [.inr (.inl 50)] B 50 24 := mo_fg_50 (B := mo_t0 B) (by decide)
/-- behind comeBack and makeReady, getReady: m is the moment -/
theorem vr_top {d : Nat} {m : Int} {A B : am_M} (hd : 25 < d) (h : vr_T A B) (h2 : ts_ok A) (h3 : vr_L d m A B) (h4 : vr_Q (d + 6) A B) (hm : B 50 19 = m) : vr_T (co_s0 d m A) (mo_t1 B) ∧ ts_ok (co_s0 d m A) ∧ vr_L d (m + 1) (co_s0 d m A) (mo_t1 B) ∧ vr_Q (d + 6) (co_s0 d m A) (mo_t1 B) ∧ mo_t1 B 50 19 = m := by
  have kA : ∀ k j, k < d + 9 → co_cb d m A k j = A k j := fun k j hk => bu_cb_k (by omega) (by omega)
  have kB : ∀ k j, k ≠ 50 → mo_t0 B k j = B k j := fun k j hk => mo_cb_k hk
  have T : vr_T (co_cb d m A) (mo_t0 B) := vr_T_of h (fun k j _ _ => kA k j (by omega)) (mo_cb_50 (by decide)) (fun k j _ _ => kB k j (by omega))
  have K : ts_ok (co_cb d m A) := ts_ok_of h2 (fun k j _ _ => kA k j (by omega))
  have L : vr_L d m (co_cb d m A) (mo_t0 B) := vr_L_of h3 (fun k j _ _ => kA k j (by omega)) (fun k j _ _ => kA k j (by omega)) (fun k j _ _ => kB k j (by omega))
  have hm2 : mo_t0 B 50 19 = m := (mo_cb_50 (by decide)).trans hm
  refine ⟨vr_ready_T hd T, ts_ok_of K (fun k j _ _ => co_rd_k (by omega)), vr_ready hd T K L hm2, ?_, (mo_t1_50 (by decide) (by decide)).trans hm⟩
  refine vr_Q_of h4 (fun k j _ _ => ?_) (fun j => ?_) (mo_t1_50 (by decide) (by decide)) (fun k j hk => mo_t1_k (by omega) (by omega))
  · show co_rd d m (co_cb d m A) k j = A k j
    rw [co_rd_k (by omega), kA k j (by omega)]
  · show co_rd d m (co_cb d m A) 13 j = A 13 j
    rw [co_rd_k (by omega), kA 13 j (by omega)]
theorem vr_L_N {d : Nat} {y : Int} {A B : am_M} (h : vr_L d y A B) (h2 : ∀ j : Nat, A 1 5 ≤ (j : Int) → j < 5 → B 64 j = A (d + 1 + 3) j) : vr_N d A B := fun j hj => by
  by_cases c : (j : Int) < A 1 5
  · exact (h j c).2.2.1
  · exact h2 j (by omega) hj
