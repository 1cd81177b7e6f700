/-! class and reference agree: behind a tick's run (wip/whole/p68.py) -/
theorem mo_fj_p {B : am_M} (h : 0 ≤ B 50 26) (h2 : mo_fj B ≠ -1) : (0 ≤ mo_fj B ∧ mo_fj B < B 50 26) ∧ 0 < B 68 (mo_fj B).toNat := by
  unfold mo_fj at *
  by_cases c1 : mo_fh B < (B 50 26).toNat
  · rw [if_pos c1]
    have q := (am_fi_sp (fun j => decide (0 < B 68 j ∧ B 60 j ≠ 0)) (B 50 26).toNat 0).2.2 (by unfold mo_fh at c1; omega)
    exact ⟨by omega, (of_decide_eq_true q).1⟩
  · rw [if_neg c1] at h2 ⊢
    by_cases c2 : mo_fs B < (B 50 26).toNat
    · rw [if_pos c2]
      have q := (am_fi_sp (fun j => decide (0 < B 68 j ∧ B 60 j = 0)) (B 50 26).toNat 0).2.2 (by unfold mo_fs at c2; omega)
      exact ⟨by omega, (of_decide_eq_true q).1⟩
    · rw [if_neg c2] at h2
      exact absurd rfl h2
/-- a job's tick: X is the class's memory, the meter's cells aside -/
theorem vr_sv {d : Nat} {m : Int} {X B : am_M} (hd : d = 26 ∨ d = 37) (h : vr_Q (d + 6) X B) (hm : B 50 19 = m) (hf : mo_fj B ≠ -1) : vr_Q (d + 6) (co_sv d m (mo_fj B) X) (mo_s2 B) := by
  have h2 : vr_Q (d + 6) (g_BU_take [.inr (.inl (d + 9)), .inl m] X) B := vr_Q_of h (fun k j _ _ => bu_tk_k (by omega) (by omega)) (fun j => bu_tk_k (by omega) (by omega)) rfl (fun _ _ _ => rfl)
  have e := vr_fj h2
  have p := mo_fj_p (B := B) (by rw [h.1.1]; exact h.1.2.1) hf
  have p2 := h2.1
  unfold co_sv
  rw [e] at p ⊢
  refine vr_Qsv (by omega) h2 (by omega) ?_ hm
  have p3 := (h2.2.1 (qu_fst (d + 6) (g_BU_take [.inr (.inl (d + 9)), .inl m] X)).toNat (by omega)).1
  rw [← p3]
  exact p.2
