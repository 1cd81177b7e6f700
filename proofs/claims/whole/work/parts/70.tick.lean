/-! class and reference agree: the budget behind a tick, and the tick -/
theorem co_sv_b {d : Nat} {m r : Int} {X : am_M} : (∀ j, j ≠ 4 → co_sv d m r X (d + 9) j = X (d + 9) j) ∧ co_sv d m r X (d + 9) 4 = (if 0 < X (d + 9) 4 then X (d + 9) 4 - 1 else X (d + 9) 4) ∧ ∀ j, co_sv d m r X (d + 9 + 1) j = g_BU_take [.inr (.inl (d + 9)), .inl m] X (d + 9 + 1) j := by
  unfold co_sv
  refine ⟨fun j hj => ?_, ?_, fun j => ?_⟩
  · rw [qu_sv_k (by omega) (by omega) (by omega)]
    simp only [g_BU_take]
    by_cases c : 0 < X (d + 9) 4
    · rw [if_pos c, am_up_k _ _ (by omega), am_up_j _ _ hj]
    · rw [if_neg c]
  · rw [qu_sv_k (by omega) (by omega) (by omega)]
    simp only [g_BU_take]
    by_cases c : 0 < X (d + 9) 4
    · rw [if_pos c, if_pos c, am_up_k _ _ (by omega), am_up_s]
    · rw [if_neg c, if_neg c]
  · exact qu_sv_k (by omega) (by omega) (by omega)
/-- the reference's budget behind a job's tick -/
theorem mo_s3_b {B : am_M} (h0 : B 50 20 = 0 ∨ B 50 20 = 3 → B 50 24 = 0) : mo_s3 B 50 24 = (if 0 < B 50 24 then B 50 24 - 1 else B 50 24) ∧ ∀ j, mo_s3 B 67 j = if 0 < B 50 24 ∧ j = (B 50 19).toNat then B 67 j + 1 else B 67 j := by
  have e : ∀ k j, k = 50 ∨ k = 67 → mo_s2 B k j = B k j := fun k j hk => mo_s2_k (by omega) (by omega)
  have ey : ∀ j, mo_sy B 67 j = B 67 j := fun j => by unfold mo_sy; rw [am_up_k _ _ (by decide), e 67 j (by decide)]
  have ey2 : mo_sy B 50 19 = B 50 19 := by unfold mo_sy; rw [am_up_j _ _ (by decide), e 50 19 (by decide)]
  unfold mo_s3
  rw [e 50 20 (by decide), ey2, ey]
  by_cases c : 0 < B 50 24
  · have n0 : B 50 20 ≠ 0 ∧ B 50 20 ≠ 3 := ⟨fun q => by have := h0 (Or.inl q); omega, fun q => by have := h0 (Or.inr q); omega⟩
    have g1 : mo_ga B = 1 := by
      unfold mo_ga
      rw [if_neg n0.2, if_pos ⟨n0.1, c⟩]
    rw [if_pos ⟨g1, n0.2⟩]
    refine ⟨?_, fun j => ?_⟩
    · rw [am_up_k _ _ (by decide), if_pos c]
      unfold mo_sy
      rw [am_up_s, e 50 24 (by decide)]
    · by_cases c2 : j = (B 50 19).toNat
      · rw [if_pos ⟨c, c2⟩, c2, am_up_s]
      · rw [if_neg (fun q => c2 q.2), am_up_j _ _ c2, ey]
  · have g1 : ¬ (mo_ga B = 1 ∧ B 50 20 ≠ 3) := by
      intro q
      unfold mo_ga at q
      rw [if_neg q.2, if_neg (fun q2 => c q2.2)] at q
      exact absurd q.1 (by decide)
    rw [if_neg g1, if_neg c, e 50 24 (by decide)]
    exact ⟨rfl, fun j => by rw [if_neg (fun q => c q.1), e 67 j (by decide)]⟩
/-- budgets agree at the moment y (kind k; W: only of kind 2) -/
def vr_U (d : Nat) (y : Int) (A B : am_M) : Prop := (B 50 20 = A d 5 ∧ A (d + 9) 1 = A d 5) ∧ (0 ≤ A d 5 ∧ A d 5 ≤ 3) ∧ (1 ≤ A (d + 9) 3 ∧ A (d + 9) 3 ≤ 60) ∧ B 50 24 = A (d + 9) 4 ∧ (A d 5 = 1 → B 57 1 = A (d + 9) 3 ∧ B 56 1 = A (d + 9) 2) ∧ (A d 5 = 2 → B 57 2 = A (d + 9) 3 ∧ B 56 2 = A (d + 9) 2) ∧ (A d 5 = 0 ∨ A d 5 = 3 → A (d + 9) 4 = 0) ∧ (A d 5 = 2 → vr_W (d + 9) (A (d + 9) 3) y A B)
theorem vr_W_of {u : Nat} {P y : Int} {A B A' B' : am_M} (h : vr_W u P y A B) (e : ∀ j, A' (u + 1) j = A (u + 1) j) (e2 : ∀ j, B' 67 j = B 67 j) : vr_W u P y A' B' := fun x h1 h2 => by rw [e, e2]; exact h x h1 h2
theorem vr_U_of {d : Nat} {y : Int} {A B A' B' : am_M} (h : vr_U d y A B) (e5 : A' d 5 = A d 5) (e : ∀ k j, d + 9 ≤ k → k ≤ d + 10 → A' k j = A k j) (e1 : B' 50 20 = B 50 20 ∧ B' 50 24 = B 50 24) (e2 : ∀ k j, k = 56 ∨ k = 57 ∨ k = 67 → B' k j = B k j) : vr_U d y A' B' := by
  obtain ⟨h1, h2, h3, h4, h5, h6, h7, h8⟩ := h
  have f : ∀ j, A' (d + 9) j = A (d + 9) j := fun j => e (d + 9) j (by omega) (by omega)
  refine ⟨?_, ?_, ?_, ?_, ?_, ?_, ?_, ?_⟩
  · rw [e5, e1.1, f]; exact h1
  · rw [e5]; exact h2
  · rw [f]; exact h3
  · rw [f, e1.2]; exact h4
  · rw [e5, f, f, e2 57 1 (by decide), e2 56 1 (by decide)]; exact h5
  · rw [e5, f, f, e2 57 2 (by decide), e2 56 2 (by decide)]; exact h6
  · rw [e5, f]; exact h7
  · rw [e5, f]; exact fun q => vr_W_of (h8 q) (fun j => e (d + 9 + 1) j (by omega) (by omega)) (fun j => e2 67 j (by decide))
/-- what comes back, on both sides -/
theorem vr_U_cb {d : Nat} {m : Int} {A B : am_M} (h : vr_U d m A B) (hm : B 50 19 = m ∧ 0 ≤ m) (h6 : B 67 m.toNat = 0) : vr_U d (m + 1) (co_cb d m A) (g_MO_comeBack [.inr (.inl 50)] B) := by
  have ek : ∀ j, co_cb d m A d j = A d j := fun j => bu_cb_k (by omega) (by omega)
  have ej : ∀ j, j ≠ 4 → co_cb d m A (d + 9) j = A (d + 9) j := fun j hj => by
    unfold co_cb
    simp only [g_BU_comeBack]
    by_cases c1 : A (d + 9) 1 = 1 ∧ m % A (d + 9) 3 = 0
    · rw [if_pos c1, am_up_j _ _ hj]
    · rw [if_neg c1]
      by_cases c2 : A (d + 9) 1 = 2
      · rw [if_pos c2, am_up_k _ _ (by omega), am_up_j _ _ hj]
      · rw [if_neg c2]
  have e20 : g_MO_comeBack [.inr (.inl 50)] B 50 20 = B 50 20 := mo_cb_50 (by decide)
  have eb : ∀ k j, k ≠ 50 → g_MO_comeBack [.inr (.inl 50)] B k j = B k j := fun k j hk => mo_cb_k hk
  obtain ⟨h1, h2, h3, h4, h5, h55, h7, h8⟩ := h
  have hl : g_MO_comeBack [.inr (.inl 50)] B 50 24 = co_cb d m A (d + 9) 4 ∧ (A d 5 = 0 ∨ A d 5 = 3 → co_cb d m A (d + 9) 4 = 0) ∧ (A d 5 = 2 → vr_W (d + 9) (A (d + 9) 3) (m + 1) (co_cb d m A) (g_MO_comeBack [.inr (.inl 50)] B)) := by
    by_cases c1 : A d 5 = 1
    · exact ⟨vr_cb1 (by omega) (by omega) (h5 c1).1 (h5 c1).2 h4 hm.1, fun q => by omega, fun q => by omega⟩
    · by_cases c2 : A d 5 = 2
      · have q := vr_cb2 (u := d + 9) h3 (by omega) (by omega) (h55 c2).1 h4 hm (h8 c2) h6
        exact ⟨q.1, fun q => by omega, fun _ => q.2⟩
      · have q := vr_cb0 (u := d + 9) (y := m) (A := A) (B := B) (by omega) (by omega)
        unfold co_cb
        rw [q.1, q.2]
        exact ⟨h4, h7, fun q => absurd q c2⟩
  refine ⟨?_, ?_, ?_, hl.1, ?_, ?_, ?_, ?_⟩
  · rw [ek, e20, ej 1 (by decide)]; exact h1
  · rw [ek]; exact h2
  · rw [ej 3 (by decide)]; exact h3
  · rw [ek, ej 3 (by decide), ej 2 (by decide), eb 57 1 (by decide), eb 56 1 (by decide)]; exact h5
  · rw [ek, ej 3 (by decide), ej 2 (by decide), eb 57 2 (by decide), eb 56 2 (by decide)]; exact h55
  · rw [ek]; exact hl.2.1
  · rw [ek, ej 3 (by decide)]; exact hl.2.2
theorem vr_U_top {d : Nat} {m : Int} {A B : am_M} (h : vr_U d m A B) (hm : B 50 19 = m ∧ 0 ≤ m) (h6 : B 67 m.toNat = 0) : vr_U d (m + 1) (co_s0 d m A) (mo_t1 B) := by
  refine vr_U_of (vr_U_cb h hm h6) (co_rd_k (by omega)) (fun k j _ _ => co_rd_k (by omega)) ⟨?_, mo_t1_24⟩ (fun k j hk => ?_)
  · exact mo_fg_50 (B := mo_t0 B) (by decide)
  · exact mo_fg_k (B := mo_t0 B) (by omega) (by omega)
/-- behind a job's tick -/
theorem vr_U_sv {d : Nat} {m r : Int} {X B : am_M} (h : vr_U d (m + 1) X B) (hm : B 50 19 = m ∧ 0 ≤ m) : vr_U d (m + 1) (co_sv d m r X) (mo_s3 B) := by
  obtain ⟨h1, h2, h3, h4, h5, h55, h7, h8⟩ := h
  obtain ⟨b1, b2, b3⟩ := co_sv_b (d := d) (m := m) (r := r) (X := X)
  have ek : ∀ j, co_sv d m r X d j = X d j := fun j => co_sv_k2 (by omega)
  obtain ⟨c1, c2⟩ := mo_s3_b (B := B) (fun q => by rw [h4]; exact h7 (by rw [h1.1] at q; exact q))
  have eb : ∀ k j, k = 56 ∨ k = 57 → mo_s3 B k j = B k j := fun k j hk => (mo_s3_k (by omega)).trans (mo_s2_k (by omega) (by omega))
  refine ⟨?_, ?_, ?_, ?_, ?_, ?_, ?_, ?_⟩
  · rw [ek, mo_s3_50 (by decide), b1 1 (by decide)]; exact h1
  · rw [ek]; exact h2
  · rw [b1 3 (by decide)]; exact h3
  · rw [c1, b2, h4]
  · rw [ek, b1 3 (by decide), b1 2 (by decide), eb 57 1 (by decide), eb 56 1 (by decide)]; exact h5
  · rw [ek, b1 3 (by decide), b1 2 (by decide), eb 57 2 (by decide), eb 56 2 (by decide)]; exact h55
  · rw [ek, b2]
    intro q
    have := h7 q
    rw [if_neg (by omega)]
    exact this
  · rw [ek, b1 3 (by decide)]
    intro q
    have w := h8 q
    by_cases c : 0 < X (d + 9) 4
    · refine vr_W_of (vr_take h3 c hm.2 w (B' := mo_s3 B) (fun j => ?_)) b3 (fun _ => rfl)
      rw [c2, hm.1, h4]
      by_cases c3 : j = m.toNat
      · rw [if_pos ⟨c, c3⟩, if_pos c3]
      · rw [if_neg (fun q => c3 q.2), if_neg c3]
    · refine vr_W_of w (fun j => ?_) (fun j => ?_)
      · rw [b3]
        simp only [g_BU_take]
        rw [if_neg c]
      · rw [c2, h4, if_neg (fun q => c q.1)]
theorem vr_U_rn {d rk : Nat} {y : Int} {X B : am_M} (h : vr_U d y X B) : vr_U d y (co_rn d rk X) (mo_rx B) :=
  vr_U_of h (co_rn_k (by omega)) (fun k j _ _ => co_rn_k (by omega)) ⟨am_up_k _ _ (by decide), am_up_k _ _ (by decide)⟩ (fun k j hk => am_up_k _ _ (by omega))
theorem vr_U_mm {d : Nat} {m y : Int} {X B : am_M} (hd : 25 < d) (h : vr_U d y X B) : vr_U d y (co_mm d m X) B :=
  vr_U_of h (co_mm_k (by omega)) (fun k j _ _ => co_mm_k (by omega)) ⟨rfl, rfl⟩ (fun _ _ _ => rfl)
/-- the budgets behind a run agree -/
theorem vr_U_one {d : Nat} {m : Int} {A B : am_M} (hd : d = 26 ∨ d = 37) (h : vr_T A B) (h2 : ts_ok A) (h3 : vr_L d (m + 1) A B) (h4 : vr_Q (d + 6) A B) (hu : vr_U d (m + 1) A B) (hm : B 50 19 = m ∧ 0 ≤ m) (hs : A d 5 = 3 → (0 < mo_sn B 1 (B 50 1).toNat ↔ 0 < co_ms d m A)) : vr_U d (m + 1) (g_CO_runOne [.inr (.inl d), .inl m] A) (mo_wm B) := by
  have e1 := vr_fj h4
  have e2 := vr_rt h h2 (vr_L_N h3)
  obtain ⟨u1, u2, u3, u4, u5, u6, u7, u8⟩ := hu
  have hu : vr_U d (m + 1) A B := ⟨u1, u2, u3, u4, u5, u6, u7, u8⟩
  simp only [g_CO_runOne]
  unfold mo_wm
  rw [e1]
  by_cases c1 : qu_fst (d + 6) A = -1
  · rw [if_pos c1, if_neg (show ¬ (qu_fst (d + 6) A ≠ -1 ∧ (mo_ga B = 1 ∨ mo_rt B = -1)) from fun q => q.1 c1)]
    by_cases c2 : A 1 5 ≤ (co_rk d A : Int)
    · rw [if_pos c2, if_pos (show mo_rt B = -1 by rw [e2, if_pos c2])]
      exact hu
    · have h5 := (h2.2 (co_rk d A) (by omega)).1
      rw [if_neg c2, if_neg (show ¬ mo_rt B = -1 by rw [e2, if_neg c2]; omega)]
      exact vr_U_rn hu
  · rw [if_neg c1]
    by_cases c2 : A 1 5 ≤ (co_rk d A : Int)
    · rw [if_pos (Or.inl c2), if_pos ⟨c1, Or.inr (by rw [e2, if_pos c2])⟩]
      exact vr_U_sv hu hm
    · have h5 := (h2.2 (co_rk d A) (by omega)).1
      have e3 : mo_rt B = A 6 (co_rk d A) := by rw [e2, if_neg c2]
      have n1 : mo_rt B ≠ -1 := by omega
      by_cases c3 : 0 < A (d + 9) 4
      · have g1 : mo_ga B = 1 := by
          unfold mo_ga
          rw [u1.1, u4, if_neg (show ¬ A d 5 = 3 from fun q => by have := u7 (Or.inr q); omega), if_pos ⟨fun q => by have := u7 (Or.inl q); omega, c3⟩]
        rw [if_pos (Or.inr c3), if_pos ⟨c1, Or.inl g1⟩]
        exact vr_U_sv hu hm
      · rw [if_neg (show ¬ (A 1 5 ≤ (co_rk d A : Int) ∨ 0 < A (d + 9) 4) from fun q => q.elim c2 c3)]
        by_cases c4 : A d 5 = 3
        · rw [if_pos c4]
          by_cases c5 : 0 < co_ms d m A
          · have g1 : mo_ga B = 1 := by
              unfold mo_ga
              rw [u1.1, if_pos c4, if_pos ((hs c4).2 c5)]
            rw [if_pos c5, if_pos ⟨c1, Or.inl g1⟩]
            exact vr_U_sv (vr_U_mm (by omega) hu) hm
          · have g1 : mo_ga B = 0 := by
              unfold mo_ga
              rw [u1.1, if_pos c4, if_neg (fun q => c5 ((hs c4).1 q))]
            rw [if_neg c5, if_neg (fun q => q.2.elim (fun q => by omega) (fun q => n1 q)), if_neg n1]
            exact vr_U_rn (vr_U_mm (by omega) hu)
        · have g1 : mo_ga B = 0 := by
            unfold mo_ga
            rw [u1.1, u4, if_neg c4, if_neg (fun q => c3 q.2)]
          rw [if_neg c4, if_neg (fun q => q.2.elim (fun q => by omega) (fun q => n1 q)), if_neg n1]
          exact vr_U_rn hu
/-- ONE COURSE at the moment m, class (A) and reference (B) -/
def vr_C (d : Nat) (m : Int) (A B : am_M) : Prop := vr_T A B ∧ ts_ok A ∧ vr_L d m A B ∧ vr_Q (d + 6) A B ∧ (B 50 19 = m ∧ 0 ≤ m) ∧ vr_U d m A B
theorem vr_tick {d : Nat} {m : Int} {A B : am_M} (hd : d = 26 ∨ d = 37) (h : vr_C d m A B) (h6 : B 67 m.toNat = 0) (hs : A d 5 = 3 → (0 < mo_sn (mo_t1 B) 1 (B 50 1).toNat ↔ 0 < co_ms d m (co_s0 d m A))) : mo_wh (mo_t1 B) = co_rw d m (co_s0 d m A) ∧ vr_C d (m + 1) (g_CO_step [.inr (.inl d), .inl m] A) (g_MO_tickOne [.inr (.inl 50)] B) := by
  obtain ⟨h1, h2, h3, h4, h5, hu⟩ := h
  obtain ⟨t1, t2, t3, t4, t5⟩ := vr_top (by omega) h1 h2 h3 h4 h5.1
  have tu := vr_U_top hu h5 h6
  have e5 : co_s0 d m A d 5 = A d 5 := (co_rd_k (by omega)).trans (bu_cb_k (by omega) (by omega))
  have e1 : mo_t1 B 50 1 = B 50 1 := mo_t1_50 (by decide) (by decide)
  have hs' : co_s0 d m A d 5 = 3 → (0 < mo_sn (mo_t1 B) 1 (mo_t1 B 50 1).toNat ↔ 0 < co_ms d m (co_s0 d m A)) := by rw [e5, e1]; exact hs
  obtain ⟨k1, k2, k3, k4, k5, k6, k7, k8⟩ := tu
  have tu : vr_U d (m + 1) (co_s0 d m A) (mo_t1 B) := ⟨k1, k2, k3, k4, k5, k6, k7, k8⟩
  have k7' : co_s0 d m A d 5 = 0 ∨ co_s0 d m A d 5 = 3 → co_s0 d m A (d + 9) 4 ≤ 0 := fun q => by have := k7 q; omega
  have w := vr_who t1 t2 (vr_L_N t3) t4 k1.1 k4 k7' hs'
  obtain ⟨a1, a2⟩ := vr_after hd t1 t2 t3 t4 t5 k1.1 k4 k7' hs'
  have a3 := vr_U_one hd t1 t2 t3 t4 tu ⟨t5, h5.2⟩ hs'
  refine ⟨w, ?_⟩
  have eA : ∀ k j, k < 19 → g_CO_step [.inr (.inl d), .inl m] A k j = A k j := fun k j hk => co_step_k (by omega) (by omega)
  have eS : ∀ k j, k ≠ d → g_CO_step [.inr (.inl d), .inl m] A k j = g_CO_runOne [.inr (.inl d), .inl m] (co_s0 d m A) k j := fun k j hk => by
    simp only [g_CO_step]
    rw [am_up_k _ _ hk]
    rfl
  have eS5 : g_CO_step [.inr (.inl d), .inl m] A d 5 = g_CO_runOne [.inr (.inl d), .inl m] (co_s0 d m A) d 5 := by
    simp only [g_CO_step]
    rw [am_up_j _ _ (by decide)]
    rfl
  have eB : ∀ k j, k ≠ 50 → k ≠ 70 → g_MO_tickOne [.inr (.inl 50)] B k j = mo_wm (mo_t1 B) k j := fun k j hk hk2 => by
    simp only [g_MO_tickOne]
    unfold mo_fi
    rw [am_up_k _ _ hk, am_up_k _ _ hk2]
  have eB5 : ∀ j, j ≠ 19 → g_MO_tickOne [.inr (.inl 50)] B 50 j = mo_wm (mo_t1 B) 50 j := fun j hj => by
    simp only [g_MO_tickOne]
    unfold mo_fi
    rw [am_up_j _ _ hj, am_up_k _ _ (by decide)]
  have eW : ∀ j, j ≠ 24 → mo_wm (mo_t1 B) 50 j = mo_t1 B 50 j := fun j hj => by
    unfold mo_wm
    split
    · exact mo_s3_50 hj
    · split
      · rfl
      · exact am_up_k _ _ (by decide)
  have e19 : g_MO_tickOne [.inr (.inl 50)] B 50 19 = m + 1 := by
    simp only [g_MO_tickOne]
    unfold mo_fi
    rw [am_up_s, am_up_k _ _ (by decide), eW 19 (by decide), t5]
  refine ⟨?_, ?_, ?_, ?_, ⟨e19, by omega⟩, ?_⟩
  · refine vr_T_of h1 (fun k j _ _ => eA k j (by omega)) ?_ (fun k j _ _ => ?_)
    · rw [eB5 1 (by decide), eW 1 (by decide), e1]
    · exact mo_one_k (by omega) (by omega)
  · exact ts_ok_of h2 (fun k j _ _ => eA k j (by omega))
  · refine vr_L_of a1 (fun k j _ _ => eS k j (by omega)) (fun k j _ _ => eS k j (by omega)) (fun k j _ _ => eB k j (by omega) (by omega))
  · exact vr_Q_of a2 (fun k j _ _ => eS k j (by omega)) (fun j => eS 13 j (by omega)) (eB5 26 (by decide)) (fun k j hk => eB k j (by omega) (by omega))
  · exact vr_U_of a3 eS5 (fun k j _ _ => eS k j (by omega)) ⟨eB5 20 (by decide), eB5 24 (by decide)⟩ (fun k j hk => eB k j (by omega) (by omega))
