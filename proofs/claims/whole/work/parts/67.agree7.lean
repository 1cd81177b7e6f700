/-! class and reference agree: a tick's beginning (wip/whole/p67.py) -/
theorem vr_L_of {d : Nat} {y : Int} {A B A' B' : am_M} (h : vr_L d y A B) (e : ∀ k j, 1 ≤ k → k ≤ 6 → A' k j = A k j) (e2 : ∀ k j, d + 2 ≤ k → k ≤ d + 5 → A' k j = A k j) (e3 : ∀ k j, 64 ≤ k → k ≤ 66 → B' k j = B k j) : vr_L d y A' B' := by
  intro j hj
  rw [e 1 5 (by omega) (by omega)] at hj
  rw [e 2 j (by omega) (by omega), e 3 j (by omega) (by omega), e 4 j (by omega) (by omega), e2 (d + 1 + 1) j (by omega) (by omega), e2 (d + 1 + 2) j (by omega) (by omega), e2 (d + 1 + 3) j (by omega) (by omega), e2 (d + 1 + 4) j (by omega) (by omega), e3 64 j (by omega) (by omega), e3 65 j (by omega) (by omega), e3 66 j (by omega) (by omega)]
  exact h j hj
theorem vr_Q_of {c : Nat} {A B A' B' : am_M} (h : vr_Q c A B) (e : ∀ k j, c ≤ k → k ≤ c + 2 → A' k j = A k j) (e2 : ∀ j, A' 13 j = A 13 j) (e3 : B' 50 26 = B 50 26) (e4 : ∀ k j, k = 60 ∨ k = 68 ∨ k = 69 → B' k j = B k j) : vr_Q c A' B' := by
  obtain ⟨⟨q1, q2, q3⟩, q4, q5⟩ := h
  have a3 := e c 3 (by omega) (by omega)
  have a4 := e c 4 (by omega) (by omega)
  refine ⟨⟨by rw [e3, a3]; exact q1, by rw [a3]; exact q2, by rw [a3]; exact q3⟩, fun j hj => ?_, ?_⟩
  · rw [e (c + 1) j (by omega) (by omega), e (c + 2) j (by omega) (by omega), e2, e4 68 j (by omega), e4 69 j (by omega), e4 60 j (by omega)]
    exact q4 j (by rw [← a3]; exact hj)
  · rw [a3, a4, q5]
    exact ma_su_eq (fun j _ => by rw [e (c + 1) j (by omega) (by omega)])
theorem mo_cb_50 {B : am_M} {j : Nat} (h : j ≠ 24) : g_MO_comeBack [.inr (.inl 50)] B 50 j = B 50 j := by
  simp only [g_MO_comeBack]
  by_cases c : B 50 20 = 1 ∧ B 50 19 % B 57 1 = 0
  · rw [if_pos c, am_up_j _ _ h]
  · rw [if_neg c]
    by_cases c2 : B 50 20 = 2 ∧ B 57 2 ≤ B 50 19
    · rw [if_pos c2, am_up_j _ _ h]
    · rw [if_neg c2]
theorem mo_t1_50 {B : am_M} {j : Nat} (h : j ≠ 24) (h2 : j ≠ 29) : mo_t1 B 50 j = B 50 j := by
  show mo_fg (mo_t0 B) 50 j = B 50 j
  rw [mo_fg_50 h2]
  exact mo_cb_50 h
theorem mo_t1_24 {B : am_M} : mo_t1 B 50 24 = g_MO_comeBack [.inr (.inl 50)] B 50 24 := mo_fg_50 (B := mo_t0 B) (by decide)
/-- behind comeBack and makeReady, getReady: m is the moment -/
theorem vr_top {d : Nat} {m : Int} {A B : am_M} (hd : 25 < d) (h : vr_T A B) (h2 : ts_ok A) (h3 : vr_L d m A B) (h4 : vr_Q (d + 6) A B) (hm : B 50 19 = m) : vr_T (co_s0 d m A) (mo_t1 B) ∧ ts_ok (co_s0 d m A) ∧ vr_L d (m + 1) (co_s0 d m A) (mo_t1 B) ∧ vr_Q (d + 6) (co_s0 d m A) (mo_t1 B) ∧ mo_t1 B 50 19 = m := by
  have kA : ∀ k j, k < d + 9 → co_cb d m A k j = A k j := fun k j hk => bu_cb_k (by omega) (by omega)
  have kB : ∀ k j, k ≠ 50 → mo_t0 B k j = B k j := fun k j hk => mo_cb_k hk
  have T : vr_T (co_cb d m A) (mo_t0 B) := vr_T_of h (fun k j _ _ => kA k j (by omega)) (mo_cb_50 (by decide)) (fun k j _ _ => kB k j (by omega))
  have K : ts_ok (co_cb d m A) := ts_ok_of h2 (fun k j _ _ => kA k j (by omega))
  have L : vr_L d m (co_cb d m A) (mo_t0 B) := vr_L_of h3 (fun k j _ _ => kA k j (by omega)) (fun k j _ _ => kA k j (by omega)) (fun k j _ _ => kB k j (by omega))
  have hm2 : mo_t0 B 50 19 = m := (mo_cb_50 (by decide)).trans hm
  refine ⟨vr_ready_T hd T, ts_ok_of K (fun k j _ _ => co_rd_k (by omega)), vr_ready hd T K L hm2, ?_, (mo_t1_50 (by decide) (by decide)).trans hm⟩
  refine vr_Q_of h4 (fun k j _ _ => ?_) (fun j => ?_) (mo_t1_50 (by decide) (by decide)) (fun k j hk => mo_t1_k (by omega) (by omega))
  · show co_rd d m (co_cb d m A) k j = A k j
    rw [co_rd_k (by omega), kA k j (by omega)]
  · show co_rd d m (co_cb d m A) 13 j = A 13 j
    rw [co_rd_k (by omega), kA 13 j (by omega)]
theorem vr_L_N {d : Nat} {y : Int} {A B : am_M} (h : vr_L d y A B) : vr_N d A B := fun j hj => (h j hj).2.2.1
/-- the same one runs -/
theorem vr_who {d : Nat} {m : Int} {A B : am_M} (h : vr_T A B) (h2 : ts_ok A) (h3 : vr_N d A B) (h4 : vr_Q (d + 6) A B) (hk : B 50 20 = A d 5) (hl : B 50 24 = A (d + 9) 4) (h0 : A d 5 = 0 ∨ A d 5 = 3 → A (d + 9) 4 ≤ 0) (hs : A d 5 = 3 → (0 < mo_sn B 1 (B 50 1).toNat ↔ 0 < co_ms d m A)) : mo_wh B = co_rw d m A := by
  have e1 := vr_fj h4
  have e2 := vr_rt h h2 h3
  unfold mo_wh co_rw
  rw [e1]
  by_cases c1 : qu_fst (d + 6) A = -1
  · rw [if_pos c1, if_neg (fun q => q.1 c1), e2]
    by_cases c2 : A 1 5 ≤ (co_rk d A : Int)
    · rw [if_pos c2, if_pos c2, if_pos rfl]
    · rw [if_neg c2, if_neg c2]
      have h5 := (h2.2 (co_rk d A) (by omega)).1
      rw [if_neg (by omega)]
  · rw [if_neg c1]
    by_cases c2 : A 1 5 ≤ (co_rk d A : Int)
    · rw [if_pos (Or.inl c2), if_pos ⟨c1, Or.inr (by rw [e2, if_pos c2])⟩]
    · have h5 := (h2.2 (co_rk d A) (by omega)).1
      have e3 : mo_rt B = A 6 (co_rk d A) := by rw [e2, if_neg c2]
      by_cases c3 : 0 < A (d + 9) 4
      · have g1 : mo_ga B = 1 := by
          unfold mo_ga
          rw [hk, hl, if_neg (show ¬ A d 5 = 3 from fun q => by have := h0 (Or.inr q); omega), if_pos ⟨fun q => by have := h0 (Or.inl q); omega, c3⟩]
        rw [if_pos (Or.inr c3), if_pos ⟨c1, Or.inl g1⟩]
      · rw [if_neg (show ¬ (A 1 5 ≤ (co_rk d A : Int) ∨ 0 < A (d + 9) 4) from fun q => q.elim c2 c3)]
        by_cases c4 : A d 5 = 3 ∧ 0 < co_ms d m A
        · have g1 : mo_ga B = 1 := by
            unfold mo_ga
            rw [hk, if_pos c4.1, if_pos ((hs c4.1).mpr c4.2)]
          rw [if_pos c4, if_pos ⟨c1, Or.inl g1⟩]
        · have g1 : mo_ga B = 0 := by
            unfold mo_ga
            rw [hk, hl]
            by_cases c5 : A d 5 = 3
            · rw [if_pos c5, if_neg (fun q => c4 ⟨c5, (hs c5).mp q⟩)]
            · rw [if_neg c5, if_neg (fun q => c3 q.2)]
          rw [if_neg c4, if_neg (show ¬ (qu_fst (d + 6) A ≠ -1 ∧ (mo_ga B = 1 ∨ mo_rt B = -1)) by rw [g1, e3]; omega), e3, if_neg (by omega)]
