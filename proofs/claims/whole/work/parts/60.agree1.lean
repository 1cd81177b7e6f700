/-! class and reference agree: admission, who is ready, who is first (wip/whole/p60.py). A: the memory where the class's cells are read, B: the reference's -/
theorem am_fi_c {p q : Nat → Bool} : ∀ (k i : Nat), (∀ j, i ≤ j → j < i + k → p j = q j) → am_fi p k i = am_fi q k i
  | 0, _, _ => rfl
  | k + 1, i, h => by
    simp only [am_fi]
    rw [h i (by omega) (by omega), am_fi_c k (i + 1) (fun j h1 h2 => h j (by omega) (by omega))]
theorem am_fi_n {p : Nat → Bool} {k i : Nat} (h : ¬ am_fi p k i < i + k) : ∀ j, i ≤ j → j < i + k → p j = false := by
  induction k generalizing i with
  | zero => intro j h1 h2; omega
  | succ k ih =>
    intro j h1 h2
    simp only [am_fi] at h
    by_cases c : p i = true
    · rw [if_pos c] at h; omega
    · rw [if_neg c] at h
      by_cases e : j = i
      · subst e; exact Bool.eq_false_iff.mpr c
      · exact ih (i := i + 1) (by omega) j (by omega) (by omega)
/-- the tasks -/
def vr_T (A B : am_M) : Prop := B 50 1 = A 1 5 ∧ ∀ j, j < 5 → B 51 j = A 2 j ∧ B 52 j = A 3 j ∧ B 53 j = A 4 j ∧ B 54 j = A 5 j ∧ B 55 j = A 6 j
/-- the rules -/
def vr_B (A B : am_M) : Prop := (B 56 1 = A 8 1 ∧ B 57 1 = A 9 1) ∧ (B 56 2 = A 8 2 ∧ B 57 2 = A 9 2)
theorem vr_ok {A B : am_M} (h : vr_T A B) (h2 : ts_ok A) : mo_ok B := by
  refine ⟨by rw [h.1]; exact h2.1, fun r hr => ?_⟩
  rw [h.1] at hr
  have h3 := h2.2 r hr
  have h4 := h2.1
  obtain ⟨e1, e2, e3, e4, e5⟩ := h.2 r (by omega)
  rw [e1, e2, e3, e4, e5, h.1]
  exact h3
theorem vr_rb {A B : am_M} (h : vr_B A B) (h2 : rb_ok A) : mo_rb B := by
  obtain ⟨⟨e1, e2⟩, e3, e4⟩ := h
  unfold mo_rb
  rw [e1, e2, e3, e4]
  exact ⟨h2.1, h2.2.1⟩
theorem vr_dem {A B : am_M} (h : vr_B A B) (k s : Int) : mo_dem B k s = rb_dem A k s := by
  obtain ⟨⟨e1, e2⟩, e3, e4⟩ := h
  unfold mo_dem rb_dem
  rw [e1, e2, e3, e4]
  by_cases c : A 8 1 < s
  · rw [if_pos c, if_pos (show 0 < s - A 8 1 by omega)]
  · rw [if_neg c, if_neg (show ¬ 0 < s - A 8 1 by omega)]
theorem vr_D {A B : am_M} (h : vr_T A B) (h2 : vr_B A B) (h3 : ts_ok A) (k : Int) {r : Nat} (hr : (r : Int) < A 1 5) : mo_D B k r = ts_D A k r := by
  have h4 := h3.1
  have k1 : ∀ j : Nat, (j : Int) < A 1 5 → B 55 j = A 6 j ∧ (A 6 j).toNat < 5 := fun j hj => by
    have q1 := (h.2 j (by omega)).2.2.2.2
    have q2 := (h3.2 j hj).1
    exact ⟨q1, by omega⟩
  funext s
  unfold mo_D ts_D ts_dem
  rw [vr_dem h2, (k1 r hr).1, (h.2 _ (k1 r hr).2).2.2.1, ma_su_eq (f := mo_tm B s) (g := fun j => ma_ru s (A 2 (A 6 j).toNat) * A 4 (A 6 j).toNat) (n := r) (fun j hj => by
    have q := k1 j (by omega)
    unfold mo_tm
    rw [q.1, (h.2 _ q.2).1, (h.2 _ q.2).2.2.1])]
  omega
theorem vr_it {A B : am_M} (h : vr_T A B) (h2 : vr_B A B) (h3 : ts_ok A) (k : Int) {r : Nat} (hr : (r : Int) < A 1 5) : mo_it B k r = ts_it A k r := by
  have h4 := h3.1
  have q1 := (h.2 r (by omega)).2.2.2.2
  have q2 := (h3.2 r hr).1
  have q3 := h.2 (A 6 r).toNat (by omega)
  unfold mo_it ts_it
  rw [vr_D h h2 h3 k hr, q1, q3.2.2.1, q3.2.2.2.1]
/-- both take a rule alike -/
theorem vr_a {A B : am_M} (h : vr_T A B) (h2 : vr_B A B) (h3 : ts_ok A) (k : Int) : mo_a B k = ts_a A k := by
  unfold mo_a ts_a
  rw [h.1, am_fi_c (p := fun r => decide (mo_it B k r = 0)) (q := fun r => decide (ts_it A k r = 0)) _ _ (fun j _ hj => by
    show decide (mo_it B k j = 0) = decide (ts_it A k j = 0)
    rw [vr_it h h2 h3 k (by omega)])]
/-- the work that is ready -/
def vr_N (d : Nat) (A B : am_M) : Prop := ∀ j : Nat, (j : Int) < A 1 5 → B 64 j = A (d + 1 + 3) j
theorem vr_rk {d : Nat} {A B : am_M} (h : vr_T A B) (h2 : ts_ok A) (h3 : vr_N d A B) : mo_rk B = co_rk d A := by
  unfold mo_rk co_rk
  have h4 := h2.1
  rw [h.1, am_fi_c (p := fun r => decide (0 < B 64 (B 55 r).toNat)) (q := fun r => decide (0 < A (d + 1 + 3) (A 6 r).toNat)) _ _ (fun j _ hj => by
    show decide (0 < B 64 (B 55 j).toNat) = decide (0 < A (d + 1 + 3) (A 6 j).toNat)
    have q1 := (h.2 j (by omega)).2.2.2.2
    have q2 := (h2.2 j (by omega)).1
    rw [q1, h3 _ (by omega)])]
theorem vr_rt {d : Nat} {A B : am_M} (h : vr_T A B) (h2 : ts_ok A) (h3 : vr_N d A B) : mo_rt B = if A 1 5 ≤ (co_rk d A : Int) then -1 else A 6 (co_rk d A) := by
  unfold mo_rt
  have h4 := h2.1
  rw [vr_rk h h2 h3, h.1]
  by_cases c : (co_rk d A : Int) < A 1 5
  · rw [if_pos c, if_neg (by omega), (h.2 _ (by omega)).2.2.2.2]
  · rw [if_neg c, if_pos (by omega)]
/-- the queue: c is its cell in the class -/
def vr_Q (c : Nat) (A B : am_M) : Prop := (B 50 26 = A c 3 ∧ 0 ≤ A c 3 ∧ A c 3 ≤ 40) ∧ (∀ j : Nat, (j : Int) < A c 3 → B 68 j = A (c + 1) j ∧ 0 ≤ A (c + 1) j ∧ B 69 j = A (c + 2) j ∧ B 60 j = A 13 j) ∧ A c 4 = ma_su (fun j => if 0 < A (c + 1) j then 1 else 0) (A c 3).toNat
/-- both serve the same job -/
theorem vr_fj {c : Nat} {A B : am_M} (h : vr_Q c A B) : mo_fj B = qu_fst c A := by
  obtain ⟨⟨h1, h2, h3⟩, h4, h5⟩ := h
  have e1 : mo_fh B = am_fi (fun j => decide (0 < A (c + 1) j ∧ A 13 j ≠ 0)) (A c 3).toNat 0 := by
    unfold mo_fh
    rw [h1]
    exact am_fi_c _ _ (fun j _ hj => by
      show decide (0 < B 68 j ∧ B 60 j ≠ 0) = _
      rw [(h4 j (by omega)).1, (h4 j (by omega)).2.2.2])
  unfold mo_fj qu_fst
  rw [e1, h1]
  by_cases z : A c 4 ≤ 0
  · rw [if_pos z]
    rw [h5] at z
    have nn : ∀ j, j < (A c 3).toNat → ¬ 0 < A (c + 1) j := fun j hj q => by
      have := ma_su_z (f := fun j => if 0 < A (c + 1) j then 1 else 0) (n := (A c 3).toNat) (fun j _ => by
        show (0 : Int) ≤ if 0 < A (c + 1) j then 1 else 0
        by_cases c0 : 0 < A (c + 1) j
        · rw [if_pos c0]; omega
        · rw [if_neg c0]; omega) z j hj
      rw [if_pos q] at this
      omega
    rw [am_fi_eq (fun j => decide (0 < A (c + 1) j ∧ A 13 j ≠ 0)) _ 0 (A c 3).toNat (by omega) (by omega) (fun j _ hj => decide_eq_false (fun q => nn j hj q.1)) (fun q => by omega)]
    have e2 : mo_fs B = (A c 3).toNat := by
      unfold mo_fs
      rw [h1]
      exact am_fi_eq _ _ 0 _ (by omega) (by omega) (fun j _ hj => decide_eq_false (fun q => nn j hj (by rw [← (h4 j (by omega)).1]; exact q.1))) (fun q => by omega)
    rw [e2, if_neg (by omega), if_neg (by omega)]
  · rw [if_neg z]
    by_cases y : am_fi (fun j => decide (0 < A (c + 1) j ∧ A 13 j ≠ 0)) (A c 3).toNat 0 < (A c 3).toNat
    · rw [if_pos y, if_pos y]
    · rw [if_neg y, if_neg y]
      have nh := am_fi_n (p := fun j => decide (0 < A (c + 1) j ∧ A 13 j ≠ 0)) (k := (A c 3).toNat) (i := 0) (by omega)
      have e2 : mo_fs B = am_fi (fun j => decide (0 < A (c + 1) j)) (A c 3).toNat 0 := by
        unfold mo_fs
        rw [h1]
        refine am_fi_c _ _ (fun j _ hj => ?_)
        show decide (0 < B 68 j ∧ B 60 j = 0) = decide (0 < A (c + 1) j)
        have q := of_decide_eq_false (nh j (by omega) (by omega))
        rw [(h4 j (by omega)).1, (h4 j (by omega)).2.2.2]
        by_cases p : 0 < A (c + 1) j
        · have p2 : A 13 j = 0 := Classical.byContradiction (fun w => q ⟨p, w⟩)
          rw [decide_eq_true p, decide_eq_true (show 0 < A (c + 1) j ∧ A 13 j = 0 from ⟨p, p2⟩)]
        · rw [decide_eq_false p, decide_eq_false (show ¬ (0 < A (c + 1) j ∧ A 13 j = 0) from fun w => p w.1)]
      rw [e2]
