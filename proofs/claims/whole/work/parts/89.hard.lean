/-! the law's calls: hard -/
theorem mo_cp_at {a b n : Nat} {M : am_M} {k j : Nat} : mo_cp a b n M k j = if k = a ∧ j < n then M b j else M k j := rfl
theorem mo_mv_k {a b : Nat} {M : am_M} {k j : Nat} (h : k ≠ 50 ∨ j ≠ a) : mo_mv a b M k j = M k j := by
  unfold mo_mv
  by_cases c : k = 50
  · exact am_up_j _ _ (by omega)
  · exact am_up_k _ _ c
theorem mo_mv_s {a b : Nat} {M : am_M} : mo_mv a b M 50 a = M 50 b := am_up_s _ _ _ _
theorem mo_kp_k {B : am_M} {k j : Nat} (h : k < 71) (h2 : k ≠ 50 ∨ j < 31 ∨ 35 < j) : mo_kp B k j = B k j := by
  unfold mo_kp mo_kp3 mo_kp2 mo_kp1 mo_kp0
  rw [mo_cp_at, if_neg (by omega), mo_cp_at, if_neg (by omega), mo_cp_at, if_neg (by omega), mo_cp_at, if_neg (by omega), mo_cp_at, if_neg (by omega), mo_cp_at, if_neg (by omega), mo_cp_at, if_neg (by omega)]
  rw [mo_mv_k (by omega), mo_mv_k (by omega), mo_mv_k (by omega), mo_mv_k (by omega), mo_mv_k (by omega)]
theorem mo_kp_v {B : am_M} : (mo_kp B 50 31 = B 50 19 ∧ mo_kp B 50 32 = B 50 20 ∧ mo_kp B 50 33 = B 50 24 ∧ mo_kp B 50 34 = B 50 26 ∧ mo_kp B 50 35 = B 50 29) ∧ (∀ j, j < 5 → mo_kp B 71 j = B 64 j ∧ mo_kp B 72 j = B 65 j ∧ mo_kp B 73 j = B 66 j) ∧ (∀ j, j < 40 → mo_kp B 75 j = B 68 j ∧ mo_kp B 76 j = B 69 j) ∧ (∀ j, j < 2001 → mo_kp B 74 j = B 67 j ∧ mo_kp B 77 j = B 70 j) := by
  have m0 : ∀ k j, k ≠ 50 → mo_kp0 B k j = B k j := fun k j hk => by
    unfold mo_kp0
    rw [mo_mv_k (by omega), mo_mv_k (by omega), mo_mv_k (by omega), mo_mv_k (by omega), mo_mv_k (by omega)]
  unfold mo_kp mo_kp3 mo_kp2 mo_kp1
  refine ⟨⟨?_, ?_, ?_, ?_, ?_⟩, fun j hj => ⟨?_, ?_, ?_⟩, fun j hj => ⟨?_, ?_⟩, fun j hj => ⟨?_, ?_⟩⟩
  · rw [mo_cp_at, if_neg (by omega), mo_cp_at, if_neg (by omega), mo_cp_at, if_neg (by omega), mo_cp_at, if_neg (by omega), mo_cp_at, if_neg (by omega), mo_cp_at, if_neg (by omega), mo_cp_at, if_neg (by omega)]
    unfold mo_kp0
    rw [mo_mv_k (by omega), mo_mv_k (by omega), mo_mv_k (by omega), mo_mv_k (by omega), mo_mv_s]
  · rw [mo_cp_at, if_neg (by omega), mo_cp_at, if_neg (by omega), mo_cp_at, if_neg (by omega), mo_cp_at, if_neg (by omega), mo_cp_at, if_neg (by omega), mo_cp_at, if_neg (by omega), mo_cp_at, if_neg (by omega)]
    unfold mo_kp0
    rw [mo_mv_k (by omega), mo_mv_k (by omega), mo_mv_k (by omega), mo_mv_s, mo_mv_k (by omega)]
  · rw [mo_cp_at, if_neg (by omega), mo_cp_at, if_neg (by omega), mo_cp_at, if_neg (by omega), mo_cp_at, if_neg (by omega), mo_cp_at, if_neg (by omega), mo_cp_at, if_neg (by omega), mo_cp_at, if_neg (by omega)]
    unfold mo_kp0
    rw [mo_mv_k (by omega), mo_mv_k (by omega), mo_mv_s, mo_mv_k (by omega), mo_mv_k (by omega)]
  · rw [mo_cp_at, if_neg (by omega), mo_cp_at, if_neg (by omega), mo_cp_at, if_neg (by omega), mo_cp_at, if_neg (by omega), mo_cp_at, if_neg (by omega), mo_cp_at, if_neg (by omega), mo_cp_at, if_neg (by omega)]
    unfold mo_kp0
    rw [mo_mv_k (by omega), mo_mv_s, mo_mv_k (by omega), mo_mv_k (by omega), mo_mv_k (by omega)]
  · rw [mo_cp_at, if_neg (by omega), mo_cp_at, if_neg (by omega), mo_cp_at, if_neg (by omega), mo_cp_at, if_neg (by omega), mo_cp_at, if_neg (by omega), mo_cp_at, if_neg (by omega), mo_cp_at, if_neg (by omega)]
    unfold mo_kp0
    rw [mo_mv_s, mo_mv_k (by omega), mo_mv_k (by omega), mo_mv_k (by omega), mo_mv_k (by omega)]
  all_goals simp [mo_cp, hj, m0]
theorem mo_lb_k {B : am_M} {k j : Nat} (h : k < 64 ∨ 70 < k) (h2 : k ≠ 50 ∨ (j ≠ 19 ∧ j ≠ 20 ∧ j ≠ 24 ∧ j ≠ 26 ∧ j ≠ 29)) : mo_lb B k j = B k j := by
  unfold mo_lb mo_lb3 mo_lb2 mo_lb1 mo_lb0
  rw [mo_cp_at, if_neg (by omega), mo_cp_at, if_neg (by omega), mo_cp_at, if_neg (by omega), mo_cp_at, if_neg (by omega), mo_cp_at, if_neg (by omega), mo_cp_at, if_neg (by omega), mo_cp_at, if_neg (by omega)]
  rw [mo_mv_k (by omega), mo_mv_k (by omega), mo_mv_k (by omega), mo_mv_k (by omega), mo_mv_k (by omega)]
theorem mo_lb_v {B : am_M} : (mo_lb B 50 19 = B 50 31 ∧ mo_lb B 50 20 = B 50 32 ∧ mo_lb B 50 24 = B 50 33 ∧ mo_lb B 50 26 = B 50 34 ∧ mo_lb B 50 29 = B 50 35) ∧ (∀ j, mo_lb B 64 j = (if j < 5 then B 71 j else B 64 j) ∧ mo_lb B 65 j = (if j < 5 then B 72 j else B 65 j) ∧ mo_lb B 66 j = (if j < 5 then B 73 j else B 66 j)) ∧ (∀ j, mo_lb B 68 j = (if j < 40 then B 75 j else B 68 j) ∧ mo_lb B 69 j = (if j < 40 then B 76 j else B 69 j)) ∧ (∀ j, mo_lb B 67 j = (if j < 2001 then B 74 j else B 67 j) ∧ mo_lb B 70 j = (if j < 2001 then B 77 j else B 70 j)) := by
  have m0 : ∀ k j, k ≠ 50 → mo_lb0 B k j = B k j := fun k j hk => by
    unfold mo_lb0
    rw [mo_mv_k (by omega), mo_mv_k (by omega), mo_mv_k (by omega), mo_mv_k (by omega), mo_mv_k (by omega)]
  unfold mo_lb mo_lb3 mo_lb2 mo_lb1
  refine ⟨⟨?_, ?_, ?_, ?_, ?_⟩, fun j => ⟨?_, ?_, ?_⟩, fun j => ⟨?_, ?_⟩, fun j => ⟨?_, ?_⟩⟩
  · rw [mo_cp_at, if_neg (by omega), mo_cp_at, if_neg (by omega), mo_cp_at, if_neg (by omega), mo_cp_at, if_neg (by omega), mo_cp_at, if_neg (by omega), mo_cp_at, if_neg (by omega), mo_cp_at, if_neg (by omega)]
    unfold mo_lb0
    rw [mo_mv_k (by omega), mo_mv_k (by omega), mo_mv_k (by omega), mo_mv_k (by omega), mo_mv_s]
  · rw [mo_cp_at, if_neg (by omega), mo_cp_at, if_neg (by omega), mo_cp_at, if_neg (by omega), mo_cp_at, if_neg (by omega), mo_cp_at, if_neg (by omega), mo_cp_at, if_neg (by omega), mo_cp_at, if_neg (by omega)]
    unfold mo_lb0
    rw [mo_mv_k (by omega), mo_mv_k (by omega), mo_mv_k (by omega), mo_mv_s, mo_mv_k (by omega)]
  · rw [mo_cp_at, if_neg (by omega), mo_cp_at, if_neg (by omega), mo_cp_at, if_neg (by omega), mo_cp_at, if_neg (by omega), mo_cp_at, if_neg (by omega), mo_cp_at, if_neg (by omega), mo_cp_at, if_neg (by omega)]
    unfold mo_lb0
    rw [mo_mv_k (by omega), mo_mv_k (by omega), mo_mv_s, mo_mv_k (by omega), mo_mv_k (by omega)]
  · rw [mo_cp_at, if_neg (by omega), mo_cp_at, if_neg (by omega), mo_cp_at, if_neg (by omega), mo_cp_at, if_neg (by omega), mo_cp_at, if_neg (by omega), mo_cp_at, if_neg (by omega), mo_cp_at, if_neg (by omega)]
    unfold mo_lb0
    rw [mo_mv_k (by omega), mo_mv_s, mo_mv_k (by omega), mo_mv_k (by omega), mo_mv_k (by omega)]
  · rw [mo_cp_at, if_neg (by omega), mo_cp_at, if_neg (by omega), mo_cp_at, if_neg (by omega), mo_cp_at, if_neg (by omega), mo_cp_at, if_neg (by omega), mo_cp_at, if_neg (by omega), mo_cp_at, if_neg (by omega)]
    unfold mo_lb0
    rw [mo_mv_s, mo_mv_k (by omega), mo_mv_k (by omega), mo_mv_k (by omega), mo_mv_k (by omega)]
  all_goals simp [mo_cp, m0]
/-- laid back: all as it was kept. X: the memory behind a trial or a replay from B -/
theorem mo_back {B X : am_M} (h1 : ∀ j, (31 ≤ j ∧ j ≤ 35) → X 50 j = mo_kp B 50 j) (h2 : ∀ k j, 71 ≤ k → k ≤ 77 → X k j = mo_kp B k j) (h3 : ∀ k j, 51 ≤ k → k < 64 → X k j = B k j) (h4 : ∀ k j, 64 ≤ k → k ≤ 66 → 5 ≤ j → X k j = B k j) (h5 : ∀ k j, k = 68 ∨ k = 69 → 40 ≤ j → X k j = B k j) (h6 : ∀ k j, k = 67 ∨ k = 70 → 2001 ≤ j → X k j = B k j) : (∀ k j, 51 ≤ k → k ≤ 70 → mo_lb X k j = B k j) ∧ ∀ j, j = 19 ∨ j = 20 ∨ j = 24 ∨ j = 26 ∨ j = 29 → mo_lb X 50 j = B 50 j := by
  obtain ⟨⟨a1, a2, a3, a4, a5⟩, b, c, d⟩ := mo_kp_v (B := B)
  obtain ⟨⟨p1, p2, p3, p4, p5⟩, q, r, s⟩ := mo_lb_v (B := X)
  refine ⟨fun k j x y => ?_, fun j hj => ?_⟩
  · by_cases w : k < 64
    · rw [mo_lb_k (by omega) (by omega)]; exact h3 k j x w
    · rcases (show k = 64 ∨ k = 65 ∨ k = 66 ∨ k = 67 ∨ k = 68 ∨ k = 69 ∨ k = 70 by omega) with e | e | e | e | e | e | e <;> subst e
      · rw [(q j).1]; split
        · rename_i z; rw [h2 71 j (by omega) (by omega)]; exact (b j z).1
        · exact h4 64 j (by omega) (by omega) (by omega)
      · rw [(q j).2.1]; split
        · rename_i z; rw [h2 72 j (by omega) (by omega)]; exact (b j z).2.1
        · exact h4 65 j (by omega) (by omega) (by omega)
      · rw [(q j).2.2]; split
        · rename_i z; rw [h2 73 j (by omega) (by omega)]; exact (b j z).2.2
        · exact h4 66 j (by omega) (by omega) (by omega)
      · rw [(s j).1]; split
        · rename_i z; rw [h2 74 j (by omega) (by omega)]; exact (d j z).1
        · exact h6 67 j (by omega) (by omega)
      · rw [(r j).1]; split
        · rename_i z; rw [h2 75 j (by omega) (by omega)]; exact (c j z).1
        · exact h5 68 j (by omega) (by omega)
      · rw [(r j).2]; split
        · rename_i z; rw [h2 76 j (by omega) (by omega)]; exact (c j z).2
        · exact h5 69 j (by omega) (by omega)
      · rw [(s j).2]; split
        · rename_i z; rw [h2 77 j (by omega) (by omega)]; exact (d j z).2
        · exact h6 70 j (by omega) (by omega)
  · rcases hj with e | e | e | e | e <;> subst e
    · rw [p1, h1 31 (by omega)]; exact a1
    · rw [p2, h1 32 (by omega)]; exact a2
    · rw [p3, h1 33 (by omega)]; exact a3
    · rw [p4, h1 34 (by omega)]; exact a4
    · rw [p5, h1 35 (by omega)]; exact a5
theorem ht_cp_k {A : am_M} {k j : Nat} (h : k < 39 ∨ 42 < k) : ht_cp A k j = A k j := by
  unfold ht_cp
  refine am_col_k ?_
  unfold h_LO_copy
  rw [if_neg (by omega), if_neg (by omega), if_neg (by omega), if_neg (by omega)]
theorem ht_cp_v {A : am_M} {j : Nat} (h : (j : Int) < A 1 5) : ht_cp A 39 j = A 28 j ∧ ht_cp A 40 j = A 29 j ∧ ht_cp A 41 j = A 30 j ∧ ht_cp A 42 j = A 31 j := by
  unfold ht_cp
  rw [am_col_lt (by omega), am_col_lt (by omega), am_col_lt (by omega), am_col_lt (by omega)]
  unfold h_LO_copy
  refine ⟨?_, ?_, ?_, ?_⟩
  · rw [if_pos rfl]
  · rw [if_neg (by omega), if_pos rfl]
  · rw [if_neg (by omega), if_neg (by omega), if_pos rfl]
  · rw [if_neg (by omega), if_neg (by omega), if_neg (by omega), if_pos rfl]
theorem ht_lp_k : ∀ (n : Nat) (a c : Int) (M : am_M) (k j : Nat), k < 20 ∨ (25 < k ∧ k < 39) ∨ 42 < k → (ht_lp n a c M).2 k j = M k j
  | 0, _, _, _, _, _, _ => rfl
  | n + 1, a, c, M, k, j, h => by
    rw [ht_lp_s, ht_lp_k n _ _ _ k j h]
    exact ht_n_k h
theorem mo_fz_k : ∀ (n : Nat) (Y : am_M) (k j : Nat), k ≠ 50 → k < 64 ∨ 66 < k → mo_fz n Y k j = Y k j
  | 0, _, _, _, _, _ => rfl
  | n + 1, Y, k, j, h, h2 => (mo_fn_k h h2).trans (mo_fz_k n Y k j h h2)
theorem mo_fz_50 : ∀ (n : Nat) (Y : am_M) (j : Nat), j ≠ 19 → j ≠ 29 → mo_fz n Y 50 j = Y 50 j
  | 0, _, _, _, _ => rfl
  | n + 1, Y, j, h, h2 => (mo_fn_50 h h2).trans (mo_fz_50 n Y j h h2)
theorem mo_fz_ge : ∀ (n : Nat) (Y : am_M), hd_B Y → Y 50 19 + n ≤ 2500 → ∀ k j : Nat, k ≠ 50 → 5 ≤ j → mo_fz n Y k j = Y k j
  | 0, _, _, _, _, _, _, _ => rfl
  | n + 1, Y, h, hm, k, j, hk, hj => by
    obtain ⟨i1, i2⟩ := hd_it n Y h (by omega)
    have g := (hd_fg i1 (by omega)).1.1.1
    have o := i1.1.1.1.1
    exact (mo_fn_ge g hk (by omega)).trans (mo_fz_ge n Y h (by omega) k j hk hj)
/-- THE TRIAL, in the law -/
theorem lw_trial {A B : am_M} {w : Int} (h : lw_I A B) (hs : A 0 8 = 1) (h3 : A 7 2 = 3) (hw : 1 ≤ w ∧ w ≤ 200) : P_RF_hardTicks [.inr (.inl 48), .inr (.inl 27), .inl (A 0 9), .inl w] A ∧ P_MO_free [.inr (.inl 50), .inl w] B ∧ (ht_lp w.toNat (A 0 9) 0 (ht_cp A)).1 = mo_fc (mo_kp B) w.toNat ∧ lw_I (ht_lp w.toNat (A 0 9) 0 (ht_cp A)).2 (g_MO_free [.inr (.inl 50), .inl w] B) := by
  obtain ⟨hT, ⟨a1, a2, a3, a4, a5⟩, hL, ⟨z1, z2, z3, z4, z5, z6, z7, z8⟩⟩ := h
  have h : lw_I A B := ⟨hT, ⟨a1, a2, a3, a4, a5⟩, hL, ⟨z1, z2, z3, z4, z5, z6, z7, z8⟩⟩
  obtain ⟨cv, hk⟩ := a4 hs
  obtain ⟨⟨⟨v1, v2, v3, v4, v5, v6⟩, vp, vr, vl⟩, vc, vb, vq⟩ := cv
  have k3 : B 50 20 = 3 := by have := v6.1.1; omega
  have tI : tl_I B 0 := vr.2.2.2.1 (Or.inr k3)
  have e : ∀ k j, k < 71 → k ≠ 50 ∨ j < 31 ∨ 35 < j → mo_kp B k j = B k j := fun k j x y => mo_kp_k x y
  have hB : hd_B (mo_kp B) := by
    refine ⟨tl_I_of tI (e 50 1 (by omega) (by omega)) (e 50 19 (by omega) (by omega)) (fun k j _ _ _ => e k j (by omega) (by omega)), fun k hk => ?_, re_b_of z4 (fun k j _ _ => e k j (by omega) (by omega)), by rw [e 50 19 (by omega) (by omega)]; omega⟩
    rw [e 50 1 (by omega) (by omega)] at hk
    obtain ⟨R, r1, r2, r3⟩ := tl_adm tI.1.1 vr.2.2.1.2.1 vr.2.1 hk
    rw [tl_dem_0 (Or.inr k3)] at r3
    refine tl_R_of ⟨R, r1, r2, ?_⟩ (fun k j _ _ => e k j (by omega) (by omega))
    omega
  have f : ∀ k j, k < 39 ∨ 42 < k → ht_cp A k j = A k j := fun k j x => ht_cp_k x
  have e19 : mo_kp B 50 19 = A 0 9 := by rw [e 50 19 (by omega) (by omega)]; exact v5.1
  have cl : cv_l 37 (ht_cp A) := fun j hj => by
    by_cases c : (j : Int) < A 1 5
    · obtain ⟨q1, q2, q3, q4⟩ := ht_cp_v c
      have := z1.1 j hj
      rw [show ht_cp A (37 + 1 + 1) j = A (26 + 1 + 1) j from q1, show ht_cp A (37 + 1 + 2) j = A (26 + 1 + 2) j from q2, show ht_cp A (37 + 1 + 3) j = A (26 + 1 + 3) j from q3, show ht_cp A (37 + 1 + 4) j = A (26 + 1 + 4) j from q4]
      exact this
    · have g : ∀ k, ht_cp A k j = A k j := fun k => am_col_ge (by omega)
      rw [g, g, g, g]
      exact z2.1 j hj
  have H : hd_I (A 0 9) (ht_cp A) (mo_kp B) := by
    refine ⟨vr_T_of v1 (fun k j _ _ => f k j (by omega)) (e 50 1 (by omega) (by omega)) (fun k j _ _ => e k j (by omega) (by omega)), ts_ok_of v2 (fun k j _ _ => f k j (by omega)), ts_pm_of vp (fun k j _ _ => f k j (by omega)), fun j hj => ?_, e19, hB, cl, sm_x_of z1.2.2 (fun k j _ _ => f k j (by omega))⟩
    rw [f 1 5 (by omega)] at hj
    obtain ⟨q1, q2, q3, q4⟩ := ht_cp_v hj
    obtain ⟨l1, l2, l3, l4⟩ := v3 j hj
    rw [show ht_cp A (37 + 1 + 1) j = A (26 + 1 + 1) j from q1, show ht_cp A (37 + 1 + 2) j = A (26 + 1 + 2) j from q2, show ht_cp A (37 + 1 + 3) j = A (26 + 1 + 3) j from q3, show ht_cp A (37 + 1 + 4) j = A (26 + 1 + 4) j from q4, f 3 j (by omega), f 2 j (by omega), f 4 j (by omega), e 64 j (by omega) (by omega), e 65 j (by omega) (by omega), e 66 j (by omega) (by omega)]
    exact ⟨l1, l2, l3, l4⟩
  obtain ⟨r1, r2⟩ := hd_all w.toNat (A 0 9) 0 (ht_cp A) (mo_kp B) H (by omega)
  have st : ∀ j, j < 5 → (0 ≤ A (26 + 1 + 1) j ∧ A (26 + 1 + 1) j ≤ 90000) ∧ (0 ≤ A (26 + 1 + 2) j ∧ A (26 + 1 + 2) j ≤ 60) ∧ (0 ≤ A (26 + 1 + 3) j ∧ A (26 + 1 + 3) j ≤ 900) ∧ (0 ≤ A (26 + 1 + 4) j ∧ A (26 + 1 + 4) j ≤ 90000) := fun j hj => by have := z1.1 j hj; omega
  refine ⟨⟨rfl, rfl, ⟨hT.2.1, z1.2.2, fun j hj => ?_⟩, st, by omega, by omega⟩, ⟨rfl, by omega, fun j hj => ?_⟩, by rw [r1]; omega, ?_⟩
  · have q := z2.1 j hj
    simp only [Nat.reduceAdd] at q
    omega
  · obtain ⟨i1, i2⟩ := hd_it j (mo_kp B) hB (by omega)
    exact hd_P i1 (by omega)
  · have bk := mo_back (B := B) (X := mo_fz w.toNat (mo_kp B)) (fun j hj => mo_fz_50 _ _ j (by omega) (by omega)) (fun k j _ _ => mo_fz_k _ _ k j (by omega) (by omega)) (fun k j _ _ => (mo_fz_k _ _ k j (by omega) (by omega)).trans (e k j (by omega) (by omega))) (fun k j _ _ hj => (mo_fz_ge _ _ hB (by omega) k j (by omega) hj).trans (e k j (by omega) (by omega))) (fun k j hk hj => (mo_fz_k _ _ k j (by omega) (by omega)).trans (e k j (by omega) (by omega))) (fun k j hk hj => (mo_fz_k _ _ k j (by omega) (by omega)).trans (e k j (by omega) (by omega)))
    have lB : lw_I A (g_MO_free [.inr (.inl 50), .inl w] B) := lw_I_of h (fun _ _ _ => rfl) (fun k j p1 p2 p3 => by
      by_cases c : k = 50
      · subst c
        by_cases c2 : j = 19 ∨ j = 20 ∨ j = 24 ∨ j = 26 ∨ j = 29
        · exact bk.2 j c2
        · simp only [g_MO_free]
          rw [mo_lb_k (by omega) (by omega), mo_fz_50 _ _ j (by omega) (by omega), e 50 j (by omega) (by omega)]
      · exact bk.1 k j (by omega) p2)
    exact lw_mm lB (fun k j hk => (ht_lp_k _ _ _ _ k j hk).trans (f k j (by omega))) r2.2.2.2.2.2.2.2 r2.2.2.2.2.2.2.1
def sd_hc (A : am_M) (c w : Int) : Int := if (1 ≤ c ∧ c ≤ 30) ∧ (1 ≤ w ∧ w ≤ 200) then (if A 0 8 = 0 ∨ 40 ≤ A 10 3 ∨ A 7 2 ≠ 3 then 2 else 0) else 1
def sd_hw (A : am_M) (c : Int) : Int := c + ma_su (fun j => if A 13 j = 0 then 0 else A 33 j) (A 32 3).toNat
def sd_hX (w : Int) (A : am_M) : Int × am_M := ht_lp w.toNat (A 0 9) 0 (ht_cp A)
def sd_hg (c w : Int) (A : am_M) : am_M := if (sd_hX w A).1 < sd_hw A c then (sd_hX w A).2 else g_SD_takeIn [.inr (.inl 0), .inl c, .inl 1] (sd_hX w A).2
def sd_hf (c w : Int) (A : am_M) : Int := if (sd_hX w A).1 < sd_hw A c then -1 else A 10 3
theorem sd_hc_eq {A B : am_M} {c w : Int} (h : lw_I A B) : mo_hc B c w = sd_hc A c w := by
  obtain ⟨hT, ⟨a1, a2, a3, a4, a5⟩, hL, hZ⟩ := h
  have j0 := hL.1.1
  unfold mo_hc sd_hc
  rw [a1.1, j0.1, hT.2.2.2.2.2.2.2.2.2]
  by_cases q : (1 ≤ c ∧ c ≤ 30) ∧ (1 ≤ w ∧ w ≤ 200)
  · rw [if_pos q, if_pos q]
    by_cases c2 : A 0 8 = 0 ∨ 40 ≤ A 10 3 ∨ A 7 2 ≠ 3
    · rw [if_pos c2, if_neg (by omega)]
    · rw [if_neg c2, if_pos (by omega)]
  · rw [if_neg q, if_neg q]
theorem sd_hc_0 {A B : am_M} {c w : Int} (h : lw_I A B) (hc : sd_hc A c w = 0) : ((1 ≤ c ∧ c ≤ 30) ∧ (1 ≤ w ∧ w ≤ 200)) ∧ A 0 8 = 1 ∧ A 10 3 < 40 ∧ A 7 2 = 3 := by
  have a1 := h.2.1.1
  unfold sd_hc at hc
  by_cases q : (1 ≤ c ∧ c ≤ 30) ∧ (1 ≤ w ∧ w ≤ 200)
  · rw [if_pos q] at hc
    by_cases c2 : A 0 8 = 0 ∨ 40 ≤ A 10 3 ∨ A 7 2 ≠ 3
    · rw [if_pos c2] at hc; exact absurd hc (by decide)
    · omega
  · rw [if_neg q] at hc; exact absurd hc (by decide)
theorem sd_hX_k {A : am_M} {w : Int} {k j : Nat} (h : k < 20 ∨ (25 < k ∧ k < 39) ∨ 42 < k) : (sd_hX w A).2 k j = A k j := (ht_lp_k _ _ _ _ k j h).trans (ht_cp_k (by omega))
/-- A HARD JOB -/
theorem sd_hard {A B : am_M} {c w : Int} (h : lw_I A B) (hR : am_R c ∧ am_R w) : P_MO_hard [.inr (.inl 50), .inl c, .inl w] B ∧ lw_I (if sd_hc A c w = 0 then sd_hg c w A else A) (g_MO_hard [.inr (.inl 50), .inl c, .inl w] B) ∧ f_MO_hard [.inr (.inl 50), .inl c, .inl w] B = some (.inl (if sd_hc A c w = 0 then sd_hf c w A else 0)) ∧ (sd_hc A c w = 0 → P_QU_hardNeed [.inr (.inl 32)] A ∧ P_RF_hardTicks [.inr (.inl 48), .inr (.inl 27), .inl (A 0 9), .inl w] A ∧ P_SD_takeIn [.inr (.inl 0), .inl c, .inl 1] (sd_hX w A).2) := by
  have ec := sd_hc_eq (c := c) (w := w) h
  have a := h.2.1
  have j0 := h.2.2.1.1.1
  have z3 := h.2.2.2.2.2.1
  have T9 := h.1.2.2.2.2.2.2.2.2.2
  have a1 := a.1
  have r7 := h.1.2.2.2.2.2.2.1.2.2
  have hn : mo_hn B c (B 50 11).toNat = sd_hw A c := by
    unfold mo_hn sd_hw
    congr 1
    rw [j0.1, a.2.2.1.1]
    refine ma_su_eq (fun q hq => ?_)
    rw [h.2.2.2.2.2.2.2.1 q (by omega)]
    have s1 : A 0 8 = 1 := by
      rcases a.1.2 with x | x
      · have := (a.2.2.2.2 x).2.1; omega
      · exact x
    have u : B 68 q = A 33 q := ((a.2.2.2.1 s1).1.1.1.2.2.2.1.2.1 q (by show (q : Int) < A 32 3; have := a.2.2.1.1; omega)).1
    rw [u]
  have main : sd_hc A c w = 0 → (P_QU_hardNeed [.inr (.inl 32)] A ∧ P_RF_hardTicks [.inr (.inl 48), .inr (.inl 27), .inl (A 0 9), .inl w] A ∧ P_SD_takeIn [.inr (.inl 0), .inl c, .inl 1] (sd_hX w A).2) ∧ P_MO_free [.inr (.inl 50), .inl w] (am_up B 50 0 0) ∧ P_MO_arrive [.inr (.inl 50), .inl c, .inl 1] (g_MO_free [.inr (.inl 50), .inl w] (am_up B 50 0 0)) ∧ (sd_hX w A).1 = mo_fc (mo_kp (am_up B 50 0 0)) w.toNat ∧ lw_I (sd_hX w A).2 (g_MO_free [.inr (.inl 50), .inl w] (am_up B 50 0 0)) ∧ g_MO_free [.inr (.inl 50), .inl w] (am_up B 50 0 0) 50 11 = A 10 3 ∧ lw_I (g_SD_takeIn [.inr (.inl 0), .inl c, .inl 1] (sd_hX w A).2) (g_MO_arrive [.inr (.inl 50), .inl c, .inl 1] (g_MO_free [.inr (.inl 50), .inl w] (am_up B 50 0 0))) := fun z => by
    obtain ⟨g1, g2, g3, g4⟩ := sd_hc_0 h z
    obtain ⟨t1, t2, t3, t4⟩ := lw_trial (lw_code (v := 0) h) g2 g4 g1.2
    have k0 : ∀ k j, k < 20 → (sd_hX w A).2 k j = A k j := fun k j x => sd_hX_k (by omega)
    obtain ⟨i1, i2, i3, i4⟩ := lw_arrive (c := c) (z := 1) t4 ((k0 0 8 (by omega)).trans g2) (by rw [show (ht_lp w.toNat (A 0 9) 0 (ht_cp A)).2 10 3 = A 10 3 from k0 10 3 (by omega)]; exact g3) g1.1 (Or.inr rfl)
    refine ⟨⟨⟨⟨rfl, rfl, rfl, by decide, by decide⟩, by have := a.2.2.1.1; omega, fun j hj => (h.2.2.2.1.2.1 j hj).2⟩, t1, i1⟩, t2, i2, t3, t4, i3.trans (k0 10 3 (by omega)), i4⟩
  refine ⟨⟨rfl, hR, ⟨by omega, by omega⟩, ⟨by omega, by omega⟩, by omega, fun j hj => ?_, fun j hj => ?_, fun z => ?_⟩, ?_, ?_, fun z => (main z).1⟩
  · have := (z3 j hj).1
    exact ⟨by omega, by omega⟩
  · have := (z3 j hj).2
    omega
  · rw [ec] at z
    exact ⟨(main z).2.1, (main z).2.2.1⟩
  · simp only [g_MO_hard]
    rw [ec]
    by_cases z : sd_hc A c w = 0
    · obtain ⟨m1, m2, m3, m4, m5, m6, m7⟩ := main z
      rw [if_pos z, if_pos z, hn, ← m4]
      unfold sd_hg
      by_cases q : (sd_hX w A).1 < sd_hw A c
      · rw [if_pos q, if_neg (by omega)]; exact m5
      · rw [if_neg q, if_pos (by omega)]; exact m7
    · rw [if_neg z, if_neg z]; exact lw_code h
  · simp only [f_MO_hard]
    rw [ec]
    by_cases z : sd_hc A c w = 0
    · obtain ⟨m1, m2, m3, m4, m5, m6, m7⟩ := main z
      rw [if_pos z, if_pos z, hn, ← m4, m6]
      unfold sd_hf
      by_cases q : (sd_hX w A).1 < sd_hw A c
      · rw [if_pos q, if_neg (by omega)]
      · rw [if_neg q, if_pos (by omega)]
    · rw [if_neg z, if_neg z]
