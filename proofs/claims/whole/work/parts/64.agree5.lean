/-! class and reference agree: the queue (wip/whole/p64.py) -/
/-- a job comes in on both sides -/
theorem vr_Qin {c : Nat} {A B : am_M} (hc : 30 < c ∧ c < 50) (h : vr_Q c A B) (hn : A c 3 < 40) (h1 : B 58 (A c 3).toNat = A 12 (A c 3).toNat) (h2 : 1 ≤ A 12 (A c 3).toNat) (h13 : B 60 (A c 3).toNat = A 13 (A c 3).toNat) : vr_Q c (qu_tk c (A c 3).toNat ((A c 3).toNat + 1) A) (g_MO_comesIn [.inr (.inl 50)] B) := by
  obtain ⟨⟨q1, q2, q3⟩, q4, q5⟩ := h
  have eB : g_MO_comesIn [.inr (.inl 50)] B = am_up (am_up (am_up B 68 (A c 3).toNat (B 58 (A c 3).toNat)) 69 (A c 3).toNat (-1)) 50 26 (A c 3 + 1) := by
    simp only [g_MO_comesIn]
    rw [q1]
  have a3 : qu_tk c (A c 3).toNat ((A c 3).toNat + 1) A c 3 = A c 3 + 1 := by
    simp only [qu_tk]
    rw [if_neg (by omega), if_neg (by omega), if_pos (by simp)]
    omega
  have a4 : qu_tk c (A c 3).toNat ((A c 3).toNat + 1) A c 4 = A c 4 + 1 := by
    simp only [qu_tk]
    rw [if_neg (by omega), if_neg (by omega), if_neg (by omega), if_pos (by simp)]
    omega
  have a1 : ∀ j, qu_tk c (A c 3).toNat ((A c 3).toNat + 1) A (c + 1) j = if j = (A c 3).toNat then A 12 j else A (c + 1) j := fun j => by
    simp only [qu_tk]
    by_cases e : j = (A c 3).toNat
    · rw [if_pos (by simp; try omega), if_pos e]
    · rw [if_neg (by omega), if_neg (by omega), if_neg (by omega), if_neg (by omega), if_neg e]
  have a2 : ∀ j, qu_tk c (A c 3).toNat ((A c 3).toNat + 1) A (c + 2) j = if j = (A c 3).toNat then -1 else A (c + 2) j := fun j => by
    simp only [qu_tk]
    by_cases e : j = (A c 3).toNat
    · rw [if_neg (by omega), if_pos (by simp; try omega), if_pos e]
    · rw [if_neg (by omega), if_neg (by omega), if_neg (by omega), if_neg (by omega), if_neg e]
  have a13 : ∀ j, qu_tk c (A c 3).toNat ((A c 3).toNat + 1) A 13 j = A 13 j := fun j => by
    simp only [qu_tk]
    rw [if_neg (by omega), if_neg (by omega), if_neg (by omega), if_neg (by omega)]
  refine ⟨⟨?_, by rw [a3]; omega, by rw [a3]; omega⟩, fun j hj => ?_, ?_⟩
  · rw [eB, am_up_s, a3]
  · rw [a3] at hj
    rw [eB, a1, a2, a13, am_up_k _ _ (by decide), am_up_k _ _ (by decide), am_up_k _ _ (show 69 ≠ 50 by decide), am_up_k _ _ (show 60 ≠ 50 by decide), am_up_k _ _ (show 60 ≠ 69 by decide), am_up_k _ _ (show 60 ≠ 68 by decide)]
    by_cases e : j = (A c 3).toNat
    · subst e
      rw [am_up_s, am_up_s, if_pos rfl, if_pos rfl, h1]
      exact ⟨rfl, by omega, rfl, h13⟩
    · rw [am_up_j _ _ e, am_up_j _ _ e, am_up_k _ _ (by decide), if_neg e, if_neg e]
      exact q4 j (by omega)
  · rw [a3, a4, show (A c 3 + 1).toNat = (A c 3).toNat + 1 by omega, q5]
    simp only [ma_su]
    rw [a1, if_pos rfl, if_pos (show 0 < A 12 (A c 3).toNat by omega)]
    congr 1
    refine ma_su_eq (fun j hj => ?_)
    show _ = (if 0 < qu_tk c (A c 3).toNat ((A c 3).toNat + 1) A (c + 1) j then (1 : Int) else 0)
    rw [a1, if_neg (show ¬ j = (A c 3).toNat by omega)]
/-- a job's tick on both sides: m is the moment -/
theorem vr_Qsv {c : Nat} {m : Int} {A B : am_M} (hc : 30 < c ∧ c < 50) (h : vr_Q c A B) (hf : 0 ≤ qu_fst c A ∧ qu_fst c A < A c 3) (hp : 0 < A (c + 1) (qu_fst c A).toNat) (hm : B 50 19 = m) : vr_Q c (g_QU_serve [.inr (.inl c), .inl (qu_fst c A), .inl m] A) (mo_s2 B) := by
  have ef := vr_fj h
  obtain ⟨⟨q1, q2, q3⟩, q4, q5⟩ := h
  generalize hr : qu_fst c A = r at *
  obtain ⟨y1, y2, y3, y4⟩ := q4 r.toNat (by omega)
  have eB : mo_s2 B = if A (c + 1) r.toNat - 1 = 0 then am_up (am_up B 68 r.toNat (A (c + 1) r.toNat - 1)) 69 r.toNat (m + 1) else am_up B 68 r.toNat (A (c + 1) r.toNat - 1) := by
    unfold mo_s2 mo_s1
    rw [ef, y1, am_up_s, am_up_k (a := 50) _ _ (by decide), hm]
  have eA : g_QU_serve [.inr (.inl c), .inl r, .inl m] A = (if A (c + 1) r.toNat - 1 = 0 then am_up (am_up (am_up A (c + 1) r.toNat (A (c + 1) r.toNat - 1)) (c + 2) r.toNat (m + 1)) c 4 (A c 4 - 1) else am_up A (c + 1) r.toNat (A (c + 1) r.toNat - 1)) := by
    simp only [g_QU_serve]
    rw [if_pos (by omega)]
  have su : ∀ v : Int, ma_su (fun j => if 0 < (if j = r.toNat then v else A (c + 1) j) then 1 else 0) (A c 3).toNat = ma_su (fun j => if 0 < A (c + 1) j then 1 else 0) (A c 3).toNat + ((if 0 < v then 1 else 0) - 1) := fun v => by
    rw [ma_su_up (f := fun j => if 0 < A (c + 1) j then 1 else 0) (g := fun j => if 0 < (if j = r.toNat then v else A (c + 1) j) then 1 else 0) (k := r.toNat) (fun j hj => by
      show (if 0 < (if j = r.toNat then v else A (c + 1) j) then (1 : Int) else 0) = _
      rw [if_neg hj]), if_pos (by omega)]
    show _ + ((if 0 < (if r.toNat = r.toNat then v else A (c + 1) r.toNat) then (1 : Int) else 0) - (if 0 < A (c + 1) r.toNat then 1 else 0)) = _
    rw [if_pos (rfl : r.toNat = r.toNat), if_pos hp]
  by_cases z : A (c + 1) r.toNat - 1 = 0
  · rw [eA, eB, if_pos z, if_pos z]
    have k1 : ∀ j, am_up (am_up (am_up A (c + 1) r.toNat (A (c + 1) r.toNat - 1)) (c + 2) r.toNat (m + 1)) c 4 (A c 4 - 1) (c + 1) j = if j = r.toNat then A (c + 1) r.toNat - 1 else A (c + 1) j := fun j => by
      rw [am_up_k _ _ (by omega), am_up_k _ _ (by omega)]
      by_cases e : j = r.toNat
      · subst e; rw [am_up_s, if_pos rfl]
      · rw [am_up_j _ _ e, if_neg e]
    have c3 : am_up (am_up (am_up A (c + 1) r.toNat (A (c + 1) r.toNat - 1)) (c + 2) r.toNat (m + 1)) c 4 (A c 4 - 1) c 3 = A c 3 := by
      rw [am_up_j _ _ (by decide), am_up_k _ _ (by omega), am_up_k _ _ (by omega)]
    refine ⟨⟨?_, ?_, ?_⟩, fun j hj => ?_, ?_⟩
    · rw [am_up_k (a := 50) _ _ (by decide), am_up_k (a := 50) _ _ (by decide), am_up_j _ _ (by decide), am_up_k _ _ (by omega), am_up_k _ _ (by omega)]; exact q1
    · rw [am_up_j _ _ (by decide), am_up_k _ _ (by omega), am_up_k _ _ (by omega)]; exact q2
    · rw [am_up_j _ _ (by decide), am_up_k _ _ (by omega), am_up_k _ _ (by omega)]; exact q3
    · rw [c3] at hj
      obtain ⟨x1, x2, x3, x4⟩ := q4 j hj
      rw [k1, am_up_k (a := c + 2) _ _ (by omega), am_up_k (a := 13) _ _ (by omega), am_up_k (a := 13) _ _ (by omega), am_up_k (a := 13) _ _ (by omega), am_up_k (a := 68) _ _ (by decide), am_up_k (a := 60) _ _ (by decide), am_up_k (a := 60) _ _ (by decide)]
      by_cases e : j = r.toNat
      · subst e
        rw [am_up_s, am_up_s, am_up_s, if_pos rfl]
        exact ⟨rfl, by omega, rfl, x4⟩
      · simp only [am_up_j _ _ e, if_neg e]
        exact ⟨x1, x2, x3, x4⟩
    · rw [am_up_s, am_up_j _ _ (by decide), am_up_k _ _ (by omega), am_up_k _ _ (by omega)]
      rw [ma_su_eq (g := fun j => if 0 < (if j = r.toNat then A (c + 1) r.toNat - 1 else A (c + 1) j) then 1 else 0) (fun j _ => by rw [k1]), su, if_neg (by omega), q5]
      omega
  · rw [eA, eB, if_neg z, if_neg z]
    have k1 : ∀ j, am_up A (c + 1) r.toNat (A (c + 1) r.toNat - 1) (c + 1) j = if j = r.toNat then A (c + 1) r.toNat - 1 else A (c + 1) j := fun j => by
      by_cases e : j = r.toNat
      · subst e; rw [am_up_s, if_pos rfl]
      · rw [am_up_j _ _ e, if_neg e]
    have c3 : am_up A (c + 1) r.toNat (A (c + 1) r.toNat - 1) c 3 = A c 3 := am_up_k _ _ (by omega)
    refine ⟨⟨?_, ?_, ?_⟩, fun j hj => ?_, ?_⟩
    · rw [am_up_k (a := 50) _ _ (by decide), am_up_k _ _ (by omega)]; exact q1
    · rw [am_up_k _ _ (by omega)]; exact q2
    · rw [am_up_k _ _ (by omega)]; exact q3
    · rw [c3] at hj
      obtain ⟨x1, x2, x3, x4⟩ := q4 j hj
      rw [k1, am_up_k (a := c + 2) _ _ (by omega), am_up_k (a := 13) _ _ (by omega), am_up_k (a := 69) _ _ (by decide), am_up_k (a := 60) _ _ (by decide)]
      by_cases e : j = r.toNat
      · subst e
        rw [am_up_s, if_pos rfl]
        exact ⟨rfl, by omega, x3, x4⟩
      · rw [am_up_j _ _ e, if_neg e]
        exact ⟨x1, x2, x3, x4⟩
    · rw [am_up_k _ _ (by omega), am_up_k _ _ (by omega)]
      rw [ma_su_eq (g := fun j => if 0 < (if j = r.toNat then A (c + 1) r.toNat - 1 else A (c + 1) j) then 1 else 0) (fun j _ => by rw [k1]), su, if_pos (by omega), q5]
      omega
