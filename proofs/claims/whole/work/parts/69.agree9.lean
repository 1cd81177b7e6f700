/-! class and reference agree: the load and the queue behind a tick (wip/whole/p69.py) -/
theorem mo_s3_k {B : am_M} {k j : Nat} (h : k ≠ 50 ∧ k ≠ 67) : mo_s3 B k j = mo_s2 B k j := by
  unfold mo_s3
  by_cases c2 : mo_ga B = 1 ∧ mo_s2 B 50 20 ≠ 3
  · rw [if_pos c2, am_up_k _ _ h.2]
    unfold mo_sy
    rw [am_up_k _ _ h.1]
  · rw [if_neg c2]
theorem mo_s3_50 {B : am_M} {j : Nat} (h : j ≠ 24) : mo_s3 B 50 j = B 50 j := by
  have e : mo_s2 B 50 j = B 50 j := mo_s2_k (by decide) (by decide)
  unfold mo_s3
  by_cases c2 : mo_ga B = 1 ∧ mo_s2 B 50 20 ≠ 3
  · rw [if_pos c2, am_up_k _ _ (by decide)]
    unfold mo_sy
    rw [am_up_j _ _ h, e]
  · rw [if_neg c2, e]
/-- X: the class's memory, the meter's cells aside -/
theorem vr_a_sv {d : Nat} {m y : Int} {X B : am_M} (hd : d = 26 ∨ d = 37) (h3 : vr_L d y X B) (h : vr_Q (d + 6) X B) (hm : B 50 19 = m) (hf : mo_fj B ≠ -1) : vr_L d y (co_sv d m (mo_fj B) X) (mo_s3 B) ∧ vr_Q (d + 6) (co_sv d m (mo_fj B) X) (mo_s3 B) := by
  refine ⟨vr_L_of h3 (fun k j _ _ => co_sv_k2 (by omega)) (fun k j _ _ => co_sv_k2 (by omega)) (fun k j _ _ => ?_), vr_Q_of (vr_sv hd h hm hf) (fun _ _ _ _ => rfl) (fun _ => rfl) ?_ (fun k j hk => mo_s3_k (by omega))⟩
  · rw [mo_s3_k (by omega)]
    exact mo_s2_k (by omega) (by omega)
  · rw [mo_s3_50 (by decide)]
    exact (mo_s2_k (by decide) (by decide)).symm
theorem vr_a_rn {d : Nat} {y : Int} {X B : am_M} (hd : 25 < d) (hT : vr_T X B) (h2 : ts_ok X) (h3 : vr_L d y X B) (h : vr_Q (d + 6) X B) (hr : (co_rk d X : Int) < X 1 5) : vr_L d y (co_rn d (co_rk d X) X) (mo_rx B) ∧ vr_Q (d + 6) (co_rn d (co_rk d X) X) (mo_rx B) := by
  refine ⟨vr_run hd hT h2 h3 hr (vr_L_N h3), vr_Q_of h (fun k j _ _ => co_rn_k (by omega)) (fun j => co_rn_k (by omega)) ?_ (fun k j hk => ?_)⟩
  · exact am_up_k _ _ (by decide)
  · exact am_up_k _ _ (by omega)
theorem vr_mm {d : Nat} {m y : Int} {A B : am_M} (hd : 25 < d) (h : vr_T A B) (h2 : ts_ok A) (h3 : vr_L d y A B) (h4 : vr_Q (d + 6) A B) : vr_T (co_mm d m A) B ∧ ts_ok (co_mm d m A) ∧ vr_L d y (co_mm d m A) B ∧ vr_Q (d + 6) (co_mm d m A) B := ⟨vr_T_of h (fun k j _ _ => co_mm_k (by omega)) rfl (fun _ _ _ _ => rfl), ts_ok_of h2 (fun k j _ _ => co_mm_k (by omega)), vr_L_of h3 (fun k j _ _ => co_mm_k (by omega)) (fun k j _ _ => co_mm_k (by omega)) (fun _ _ _ _ => rfl), vr_Q_of h4 (fun k j _ _ => co_mm_k (by omega)) (fun j => co_mm_k (by omega)) rfl (fun _ _ _ => rfl)⟩
theorem vr_after {d : Nat} {m y : Int} {A B : am_M} (hd : d = 26 ∨ d = 37) (h : vr_T A B) (h2 : ts_ok A) (h3 : vr_L d y A B) (h4 : vr_Q (d + 6) A B) (hm : B 50 19 = m) (hk : B 50 20 = A d 5) (hl : B 50 24 = A (d + 9) 4) (h0 : A d 5 = 0 ∨ A d 5 = 3 → A (d + 9) 4 ≤ 0) (hs : A d 5 = 3 → (0 < mo_sn B 1 (B 50 1).toNat ↔ 0 < co_ms d m A)) : vr_L d y (g_CO_runOne [.inr (.inl d), .inl m] A) (mo_wm B) ∧ vr_Q (d + 6) (g_CO_runOne [.inr (.inl d), .inl m] A) (mo_wm B) := by
  have e1 := vr_fj h4
  have e2 := vr_rt h h2 (vr_L_N h3)
  obtain ⟨m1, m2, m3, m4⟩ := vr_mm (m := m) (by omega) h h2 h3 h4
  have er : co_rk d (co_mm d m A) = co_rk d A := (vr_rk m1 m2 (vr_L_N m3)).symm.trans (vr_rk h h2 (vr_L_N h3))
  have e15 : co_mm d m A 1 5 = A 1 5 := co_mm_k (by omega)
  simp only [g_CO_runOne]
  unfold mo_wm
  rw [e1]
  by_cases c1 : qu_fst (d + 6) A = -1
  · rw [if_pos c1, if_neg (show ¬ (qu_fst (d + 6) A ≠ -1 ∧ (mo_ga B = 1 ∨ mo_rt B = -1)) from fun q => q.1 c1)]
    by_cases c2 : A 1 5 ≤ (co_rk d A : Int)
    · rw [if_pos c2, if_pos (show mo_rt B = -1 by rw [e2, if_pos c2])]
      exact ⟨h3, h4⟩
    · have h5 := (h2.2 (co_rk d A) (by omega)).1
      rw [if_neg c2, if_neg (show ¬ mo_rt B = -1 by rw [e2, if_neg c2]; omega)]
      exact vr_a_rn (by omega) h h2 h3 h4 (by omega)
  · rw [if_neg c1]
    have hf : mo_fj B ≠ -1 := by rw [e1]; exact c1
    by_cases c2 : A 1 5 ≤ (co_rk d A : Int)
    · rw [if_pos (Or.inl c2), if_pos ⟨c1, Or.inr (by rw [e2, if_pos c2])⟩, ← e1]
      exact vr_a_sv hd h3 h4 hm hf
    · have h5 := (h2.2 (co_rk d A) (by omega)).1
      have e3 : mo_rt B = A 6 (co_rk d A) := by rw [e2, if_neg c2]
      by_cases c3 : 0 < A (d + 9) 4
      · have g1 : mo_ga B = 1 := by
          unfold mo_ga
          rw [hk, hl, if_neg (show ¬ A d 5 = 3 from fun q => by have := h0 (Or.inr q); omega), if_pos ⟨fun q => by have := h0 (Or.inl q); omega, c3⟩]
        rw [if_pos (Or.inr c3), if_pos ⟨c1, Or.inl g1⟩, ← e1]
        exact vr_a_sv hd h3 h4 hm hf
      · rw [if_neg (show ¬ (A 1 5 ≤ (co_rk d A : Int) ∨ 0 < A (d + 9) 4) from fun q => q.elim c2 c3)]
        by_cases c4 : A d 5 = 3
        · rw [if_pos c4]
          by_cases c5 : 0 < co_ms d m A
          · have g1 : mo_ga B = 1 := by
              unfold mo_ga
              rw [hk, if_pos c4, if_pos ((hs c4).mpr c5)]
            rw [if_pos c5, if_pos ⟨c1, Or.inl g1⟩, ← e1]
            exact vr_a_sv hd m3 m4 hm hf
          · have g1 : mo_ga B = 0 := by
              unfold mo_ga
              rw [hk, if_pos c4, if_neg (fun q => c5 ((hs c4).mp q))]
            rw [if_neg c5, if_neg (show ¬ (qu_fst (d + 6) A ≠ -1 ∧ (mo_ga B = 1 ∨ mo_rt B = -1)) by rw [g1, e3]; omega), if_neg (by omega)]
            have q := vr_a_rn (by omega) m1 m2 m3 m4 (by rw [er, e15]; omega)
            rw [er] at q
            exact q
        · have g1 : mo_ga B = 0 := by
            unfold mo_ga
            rw [hk, hl, if_neg c4, if_neg (fun q => c3 q.2)]
          rw [if_neg c4, if_neg (show ¬ (qu_fst (d + 6) A ≠ -1 ∧ (mo_ga B = 1 ∨ mo_rt B = -1)) by rw [g1, e3]; omega), if_neg (by omega)]
          exact vr_a_rn (by omega) h h2 h3 h4 (by omega)
