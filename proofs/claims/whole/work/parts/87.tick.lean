/-! the law's calls: tick, job, early -/
def sd_rn (X : am_M) : Int := co_rw 26 (X 0 9) (co_s0 26 (X 0 9) X)
def sd_t1 (X : am_M) : am_M := am_up (am_up (g_CO_step [.inr (.inl 26), .inl (X 0 9)] X) 49 (X 0 9).toNat (sd_rn X)) 0 9 (X 0 9 + 1)
def sd_ti : Nat → am_M → am_M
  | 0, X => X
  | n + 1, X => sd_t1 (sd_ti n X)
def sd_tr (X : am_M) : Nat → Int
  | 0 => 0
  | n + 1 => sd_rn (sd_ti n X)
def sd_kc (A : am_M) (n : Int) : Int := if 1 ≤ n ∧ n ≤ 100 then (if A 0 8 = 0 ∨ 2000 < A 0 9 + n then 2 else 0) else 1
theorem sd_t1_k {X : am_M} {k j : Nat} (h : 0 < k) (h2 : k < 19 ∨ 36 < k) (h3 : k ≠ 49) : sd_t1 X k j = X k j := by
  unfold sd_t1
  rw [am_up_k _ _ (by omega), am_up_k _ _ h3]
  exact co_step_k (by omega) (by omega)
theorem lw_t1 {A B : am_M} (h : lw_I A B) (hs : A 0 8 = 1) (hm : A 0 9 < 2000) : P_CO_step [.inr (.inl 26), .inl (A 0 9)] A ∧ P_MO_tickOne [.inr (.inl 50)] B ∧ mo_wh (mo_t1 B) = sd_rn A ∧ (-50 ≤ sd_rn A ∧ sd_rn A ≤ 50) ∧ lw_I (sd_t1 A) (g_MO_tickOne [.inr (.inl 50)] B) ∧ sd_t1 A 0 8 = 1 ∧ sd_t1 A 0 9 = A 0 9 + 1 := by
  obtain ⟨hT, ⟨a1, a2, a3, a4, a5⟩, hL, ⟨z1, z2, z3, z4, z5, z6, z7, z8⟩⟩ := h
  obtain ⟨hc, hk⟩ := a4 hs
  obtain ⟨t1, t2, t3, t4⟩ := cv_A_tick (Or.inl rfl) hc hm
  obtain ⟨o1, o2, o3, o4⟩ := mo_one_e (B := B)
  have eA : ∀ k j, 0 < k → k < 19 ∨ 36 < k → k ≠ 49 → sd_t1 A k j = A k j := fun k j x y z => sd_t1_k x y z
  have eS : ∀ k j, 0 < k → k ≠ 49 → sd_t1 A k j = g_CO_step [.inr (.inl 26), .inl (A 0 9)] A k j := fun k j x y => by
    unfold sd_t1
    rw [am_up_k _ _ (by omega), am_up_k _ _ y]
  have e08 : sd_t1 A 0 8 = 1 := by
    unfold sd_t1
    rw [am_up_j _ _ (by decide), am_up_k _ _ (by decide), co_step_k (by omega) (by omega)]
    exact hs
  have e09 : sd_t1 A 0 9 = A 0 9 + 1 := am_up_s _ _ _ _
  have eB : ∀ k j, k ≠ 50 → k < 64 ∨ 70 < k → g_MO_tickOne [.inr (.inl 50)] B k j = B k j := fun k j x y => mo_one_k (by omega) x
  have e5 : ∀ j, j ≠ 19 → j ≠ 24 → j ≠ 29 → g_MO_tickOne [.inr (.inl 50)] B 50 j = B 50 j := fun j x y z => (o2 j x).trans ((mo_wm_50 y).trans (mo_t1_50 y z))
  have wb : -50 ≤ mo_wh (mo_t1 B) ∧ mo_wh (mo_t1 B) ≤ 50 := by
    have e26 : mo_t1 B 50 26 = B 50 26 := mo_t1_50 (by decide) (by decide)
    exact mo_wh_b (re_ok (re_top hc.1.2.2.1 (by omega)).1).1.1 (by rw [e26]; exact hc.2.2.2.1)
  have C : cv_A 26 (A 0 9 + 1) (sd_t1 A) (g_MO_tickOne [.inr (.inl 50)] B) := cv_A_of t4 (fun k j _ _ => eS k j (by omega) (by omega)) (fun k j _ _ => eS k j (by omega) (by omega)) (fun j => eS 13 j (by omega) (by omega)) (fun k j _ _ => eS k j (by omega) (by omega)) rfl rfl rfl rfl rfl rfl (fun _ _ _ _ _ => rfl)
  refine ⟨t1, t2, t3, by rw [show sd_rn A = mo_wh (mo_t1 B) from t3.symm]; exact wb, ⟨lw_T_of hT (fun k j _ _ => eA k j (by omega) (by omega) (by omega)) ⟨e5 1 (by decide) (by decide) (by decide), e5 7 (by decide) (by decide) (by decide)⟩ (fun k j _ _ => eB k j (by omega) (by omega)), ⟨⟨?_, Or.inr e08⟩, ⟨by rw [o3, e09, a2.1], by omega, by omega⟩, ⟨?_, ?_⟩, fun _ => ⟨by rw [e09]; exact C, ?_⟩, fun q => by omega⟩, lw_L_of hL (fun k j hk => ?_) (by omega) (e5 11 (by decide) (by decide) (by decide)) (e5 15 (by decide) (by decide) (by decide)) (fun k j _ _ => eB k j (by omega) (by omega)), ⟨C.2.1.1, C.2.1.2.2.2.1, C.2.1.2.2.2.2⟩, ⟨?_, ?_, C.2.1.2.2.2.2⟩, fun j hj => ⟨(C.2.2.2.2 j hj).1, (C.2.2.2.2 j hj).2.1⟩, C.2.2.1, fun j hj => ?_, fun q hq => ?_, fun q hq => ?_, ?_⟩, e08, e09⟩
  · rw [e5 10 (by decide) (by decide) (by decide), e08, a1.1, hs]
  · have q := C.1.1.2.2.2.1.1.1
    rw [e5 26 (by decide) (by decide) (by decide)] at q
    rw [eA 10 3 (by omega) (by omega) (by omega), ← a3.2]
    exact q.symm
  · rw [e5 26 (by decide) (by decide) (by decide), eA 10 3 (by omega) (by omega) (by omega)]; exact a3.2
  · rw [eA 7 2 (by omega) (by omega) (by omega), ← hk]
    have q := C.1.1.2.2.2.2.2.1.1
    have q0 := hc.1.1.2.2.2.2.2.1.1
    rw [e5 20 (by decide) (by decide) (by decide)] at q
    omega
  · rcases hk with e | e | e
    · rw [eA k j (by omega) (by omega) (by omega)]
    · rw [eA k j (by omega) (by omega) (by omega)]
    · rw [eA k j (by omega) (by omega) (by omega)]
  · intro j hj
    rw [eA _ j (by omega) (by omega) (by omega), eA _ j (by omega) (by omega) (by omega), eA _ j (by omega) (by omega) (by omega), eA _ j (by omega) (by omega) (by omega)]
    exact z2.1 j hj
  · intro j hj
    rw [eA _ j (by omega) (by omega) (by omega), eA 13 j (by omega) (by omega) (by omega)]
    exact z2.2.1 j hj
  · rw [eB 60 j (by omega) (by omega), eA 13 j (by omega) (by omega) (by omega)]; exact z5 j hj
  · rw [o4, a2.1]
    unfold sd_t1
    rw [am_up_k _ _ (by decide)]
    by_cases c : q = (A 0 9).toNat
    · rw [if_pos c, c, am_up_s]; exact t3.symm
    · rw [if_neg c, am_up_j _ _ c, co_step_k (by omega) (by omega)]
      exact z6 q (by omega)
  · rw [o4]
    split
    · exact wb
    · exact z7 q hq
  · rw [eA 48 3 (by omega) (by omega) (by omega), eA 48 4 (by omega) (by omega) (by omega), eA 48 5 (by omega) (by omega) (by omega), e5 43 (by decide) (by decide) (by decide), e5 44 (by decide) (by decide) (by decide), e5 45 (by decide) (by decide) (by decide)]; exact z8
theorem lw_ti {A B : am_M} (h : lw_I A B) (hs : A 0 8 = 1) : ∀ n : Nat, A 0 9 + n ≤ 2000 → lw_I (sd_ti n A) (mo_ti n B) ∧ sd_ti n A 0 8 = 1 ∧ sd_ti n A 0 9 = A 0 9 + n ∧ mo_tr B n = sd_tr A n
  | 0, _ => ⟨h, hs, by show A 0 9 = A 0 9 + ((0 : Nat) : Int); omega, rfl⟩
  | n + 1, hn => by
    obtain ⟨i1, i2, i3, i4⟩ := lw_ti h hs n (by omega)
    obtain ⟨s1, s2, s3, s4, s5, s6, s7⟩ := lw_t1 i1 i2 (by omega)
    refine ⟨s5, s6, ?_, s3⟩
    show sd_t1 (sd_ti n A) 0 9 = _
    rw [s7, i3]
    omega
theorem sd_kc_eq {A B : am_M} {n : Int} (h : lw_I A B) : mo_kc B n = sd_kc A n := by
  obtain ⟨hT, ⟨a1, a2, a3, a4, a5⟩, hL, hZ⟩ := h
  unfold mo_kc sd_kc
  rw [a1.1, a2.1]
  by_cases c : 1 ≤ n ∧ n ≤ 100
  · rw [if_pos c, if_pos c]
    by_cases c2 : A 0 8 = 0 ∨ 2000 < A 0 9 + n
    · rw [if_pos c2, if_neg (by omega)]
    · rw [if_neg c2, if_pos (by omega)]
  · rw [if_neg c, if_neg c]
theorem sd_kc_0 {A B : am_M} {n : Int} (h : lw_I A B) (hc : sd_kc A n = 0) : (1 ≤ n ∧ n ≤ 100) ∧ A 0 8 = 1 ∧ A 0 9 + n ≤ 2000 := by
  have a1 := h.2.1.1
  unfold sd_kc at hc
  by_cases c : 1 ≤ n ∧ n ≤ 100
  · rw [if_pos c] at hc
    by_cases c2 : A 0 8 = 0 ∨ 2000 < A 0 9 + n
    · rw [if_pos c2] at hc; exact absurd hc (by decide)
    · omega
  · rw [if_neg c] at hc; exact absurd hc (by decide)
/-- TICKS -/
theorem sd_tick {A B : am_M} {n : Int} (h : lw_I A B) : lw_I (if sd_kc A n = 0 then sd_ti n.toNat A else A) (g_MO_tick [.inr (.inl 50), .inl n] B) ∧ f_MO_tick [.inr (.inl 50), .inl n] B = some (.inl (if sd_kc A n = 0 then sd_tr A n.toNat else 0)) := by
  have ec := sd_kc_eq (n := n) h
  simp only [g_MO_tick, f_MO_tick]
  rw [ec]
  by_cases z : sd_kc A n = 0
  · obtain ⟨k1, k2, k3⟩ := sd_kc_0 h z
    obtain ⟨i1, i2, i3, i4⟩ := lw_ti (lw_code (v := 0) h) k2 n.toNat (by omega)
    rw [if_pos z, if_pos z, if_pos z, if_pos z, i4]
    exact ⟨i1, rfl⟩
  · rw [if_neg z, if_neg z, if_neg z, if_neg z]
    exact ⟨lw_code h, rfl⟩
theorem sd_tick_P {A B : am_M} {n : Int} (h : lw_I A B) (hR : am_R n) : P_MO_tick [.inr (.inl 50), .inl n] B := by
  have a := h.2.1
  refine ⟨rfl, hR, ⟨by have := a.1; omega, by have := a.1; omega⟩, by have := a.2.1; omega, fun z j hj => ?_⟩
  rw [sd_kc_eq h] at z
  obtain ⟨k1, k2, k3⟩ := sd_kc_0 h z
  obtain ⟨i1, i2, i3, i4⟩ := lw_ti (lw_code (v := 0) h) k2 j (by omega)
  exact (lw_t1 i1 i2 (by omega)).2.1
/-- A JOB ARRIVES, soft or hard -/
theorem jl_k {A : am_M} {m c z : Int} {k j : Nat} (h : k < 10 ∨ 13 < k) : g_JL_add [.inr (.inl 10), .inl m, .inl c, .inl z] A k j = A k j := by
  simp only [g_JL_add]
  rw [am_up_k _ _ (by omega), am_up_k _ _ (by omega), am_up_k _ _ (by omega), am_up_k _ _ (by omega)]
theorem jl_v {A : am_M} {m c z : Int} : g_JL_add [.inr (.inl 10), .inl m, .inl c, .inl z] A 10 3 = A 10 3 + 1 ∧ ∀ j, g_JL_add [.inr (.inl 10), .inl m, .inl c, .inl z] A 11 j = (if j = (A 10 3).toNat then m else A 11 j) ∧ g_JL_add [.inr (.inl 10), .inl m, .inl c, .inl z] A 12 j = (if j = (A 10 3).toNat then c else A 12 j) ∧ g_JL_add [.inr (.inl 10), .inl m, .inl c, .inl z] A 13 j = (if j = (A 10 3).toNat then z else A 13 j) := by
  simp only [g_JL_add]
  refine ⟨am_up_s _ _ _ _, fun j => ?_⟩
  by_cases q : j = (A 10 3).toNat
  · rw [if_pos q, if_pos q, if_pos q, q, am_up_k _ _ (by decide), am_up_k _ _ (by decide), am_up_k _ _ (by decide), am_up_s, am_up_k _ _ (by decide), am_up_k _ _ (by decide), am_up_s, am_up_k _ _ (by decide), am_up_s]
    exact ⟨rfl, rfl, rfl⟩
  · rw [if_neg q, if_neg q, if_neg q, am_up_k _ _ (by decide), am_up_j _ _ q, am_up_j _ _ q, am_up_j _ _ q, am_up_k _ _ (by decide), am_up_j _ _ q, am_up_j _ _ q, am_up_j _ _ q, am_up_k _ _ (by decide), am_up_j _ _ q, am_up_j _ _ q, am_up_j _ _ q]
    exact ⟨rfl, rfl, rfl⟩
def mo_ar (c z : Int) (B : am_M) : am_M := am_up (am_up (am_up B 58 (B 50 11).toNat c) 59 (B 50 11).toNat (B 50 19)) 60 (B 50 11).toNat z
theorem mo_ar_k {B : am_M} {c z : Int} {k j : Nat} (h : k < 58 ∨ 60 < k) : mo_ar c z B k j = B k j := by
  unfold mo_ar
  rw [am_up_k _ _ (by omega), am_up_k _ _ (by omega), am_up_k _ _ (by omega)]
theorem mo_ar_v {B : am_M} {c z : Int} (j : Nat) : mo_ar c z B 59 j = (if j = (B 50 11).toNat then B 50 19 else B 59 j) ∧ mo_ar c z B 58 j = (if j = (B 50 11).toNat then c else B 58 j) ∧ mo_ar c z B 60 j = (if j = (B 50 11).toNat then z else B 60 j) := by
  unfold mo_ar
  by_cases q : j = (B 50 11).toNat
  · rw [if_pos q, if_pos q, if_pos q, q, am_up_k _ _ (by decide), am_up_s, am_up_k _ _ (by decide), am_up_k _ _ (by decide), am_up_s, am_up_s]
    exact ⟨rfl, rfl, rfl⟩
  · rw [if_neg q, if_neg q, if_neg q, am_up_j _ _ q, am_up_j _ _ q, am_up_j _ _ q, am_up_j _ _ q, am_up_j _ _ q, am_up_j _ _ q, am_up_j _ _ q, am_up_j _ _ q, am_up_j _ _ q]
    exact ⟨rfl, rfl, rfl⟩
theorem lw_arrive {A B : am_M} {c z : Int} (h : lw_I A B) (hs : A 0 8 = 1) (hn : A 10 3 < 40) (hc : 1 ≤ c ∧ c ≤ 30) (hz : z = 0 ∨ z = 1) : P_SD_takeIn [.inr (.inl 0), .inl c, .inl z] A ∧ P_MO_arrive [.inr (.inl 50), .inl c, .inl z] B ∧ B 50 11 = A 10 3 ∧ lw_I (g_SD_takeIn [.inr (.inl 0), .inl c, .inl z] A) (g_MO_arrive [.inr (.inl 50), .inl c, .inl z] B) := by
  obtain ⟨hT, ⟨a1, a2, a3, a4, a5⟩, hL, ⟨z1, z2, z3, z4, z5, z6, z7, z8⟩⟩ := h
  obtain ⟨cv, hk⟩ := a4 hs
  have j0 := hL.1.1
  have n0 : (A 10 3).toNat = (B 50 11).toNat := by omega
  generalize hA1 : g_JL_add [.inr (.inl 10), .inl (A 0 9), .inl c, .inl z] A = A1
  have k1 : ∀ k j, k < 10 ∨ 13 < k → A1 k j = A k j := fun k j x => by rw [← hA1]; exact jl_k x
  obtain ⟨v3, v1⟩ := jl_v (A := A) (m := A 0 9) (c := c) (z := z)
  rw [hA1] at v3 v1
  have b1 : ∀ k j, k < 58 ∨ 60 < k → mo_ar c z B k j = B k j := fun k j x => mo_ar_k x
  have bv := mo_ar_v (B := B) (c := c) (z := z)
  rw [← n0] at bv
  have A32 : A 32 3 = A 10 3 := a3.1
  -- the course over the longer logs
  have C1 : cv_A 26 (A 0 9) A1 (mo_ar c z B) := by
    obtain ⟨⟨⟨u1, u2, u3, u4, u5, u6⟩, up, ⟨r1, r2, r3, r4, r5⟩, ul⟩, ⟨c1, c2, c3, c4, c5⟩, ub, uq⟩ := cv
    refine ⟨⟨⟨vr_T_of u1 (fun k j _ _ => k1 k j (by omega)) (b1 50 1 (by omega)) (fun k j _ _ => b1 k j (by omega)), ts_ok_of u2 (fun k j _ _ => k1 k j (by omega)), vr_L_of u3 (fun k j _ _ => k1 k j (by omega)) (fun k j _ _ => k1 k j (by omega)) (fun k j _ _ => b1 k j (by omega)), ?_, ⟨by rw [b1 50 19 (by omega)]; exact u5.1, u5.2⟩, vr_U_of u6 (k1 26 5 (by omega)) (fun k j _ _ => k1 k j (by omega)) ⟨b1 50 20 (by omega), b1 50 24 (by omega)⟩ (fun k j hk => b1 k j (by omega))⟩, ts_pm_of up (fun k j _ _ => k1 k j (by omega)), ⟨by rw [b1 50 20 (by omega)]; exact r1, ?_, bg_of r3 (b1 50 19 (by omega)) (b1 50 20 (by omega)) (b1 50 24 (by omega)) (fun k j hk => b1 k j (by omega)), fun q => ?_, fun q => ?_⟩, by rw [k1 26 6 (by omega), b1 50 29 (by omega)]; exact ul⟩, ⟨fun j hj => ?_, fun j hj => ?_, ?_, fun j hj => ?_, sm_x_of c5 (fun k j _ _ => k1 k j (by omega))⟩, re_b_of ub (fun k j _ _ => b1 k j (by omega)), by rw [b1 50 26 (by omega)]; exact uq.1, fun j hj => ?_⟩
    · obtain ⟨q1, q2, q3⟩ := u4
      refine ⟨by rw [b1 50 26 (by omega), k1 32 3 (by omega)]; exact q1, fun j hj => ?_, ?_⟩
      · rw [k1 32 3 (by omega)] at hj
        rw [b1 68 j (by omega), b1 69 j (by omega), k1 33 j (by omega), k1 34 j (by omega), (bv j).2.2, (v1 j).2.2, if_neg (by omega), if_neg (by omega)]
        exact q2 j hj
      · rw [k1 32 4 (by omega), k1 32 3 (by omega), q3]
        exact ma_su_eq (fun j _ => by rw [k1 33 j (by omega)])
    · rw [b1 50 20 (by omega), mo_a_of (b1 50 1 (by omega)) (fun k j x y => b1 k j (by omega))]; exact r2
    · rw [b1 50 20 (by omega)] at q
      exact tl_I_of (r4 q) (b1 50 1 (by omega)) (b1 50 19 (by omega)) (fun k j _ _ _ => b1 k j (by omega))
    · rw [b1 50 20 (by omega)] at q
      exact tl_J_of (r5 q) (b1 50 1 (by omega)) (b1 50 19 (by omega)) (b1 50 20 (by omega)) (fun k j _ _ _ => b1 k j (by omega))
    · rw [k1 _ j (by omega), k1 _ j (by omega), k1 _ j (by omega), k1 _ j (by omega)]; exact c1 j hj
    · rw [k1 _ j (by omega)]; exact c2 j hj
    · rw [k1 _ 2 (by omega)]; exact c3
    · rw [k1 _ j (by omega), (v1 j).2.2]
      refine ⟨(c4 j hj).1, ?_⟩
      split
      · exact hz
      · exact (c4 j hj).2
    · rw [(bv j).2.2, b1 68 j (by omega), b1 69 j (by omega), b1 50 26 (by omega)]
      refine ⟨?_, (uq.2 j hj).2⟩
      split
      · exact hz
      · exact (uq.2 j hj).1
  have d3 : A1 32 3 = A 10 3 := by rw [k1 32 3 (by omega)]; exact A32
  have C2 := cv_A_in (d := 26) (Or.inl rfl) C1 (by show A1 32 3 < 40; omega) (by show mo_ar c z B 58 (A1 32 3).toNat = A1 12 (A1 32 3).toNat; rw [d3, (bv _).2.1, (v1 _).2.1, if_pos rfl, if_pos rfl]) (by show 1 ≤ A1 12 (A1 32 3).toNat ∧ A1 12 (A1 32 3).toNat ≤ 30; rw [d3, (v1 _).2.1, if_pos rfl]; exact hc) (by show mo_ar c z B 60 (A1 32 3).toNat = A1 13 (A1 32 3).toNat; rw [d3, (bv _).2.2, (v1 _).2.2, if_pos rfl, if_pos rfl])
  rw [show (26 : Nat) + 6 = 32 from rfl, d3] at C2
  -- the class takes just this one
  have eA : g_SD_takeIn [.inr (.inl 0), .inl c, .inl z] A = qu_tk 32 (A 10 3).toNat ((A 10 3).toNat + 1) A1 := by
    simp only [g_SD_takeIn]
    rw [hA1]
    simp only [g_QU_takeUpTo]
    rw [d3, v3, show (A 10 3 + 1 - A 10 3).toNat = 1 by omega, am_fi, if_neg, am_fi]
    rw [(v1 _).1, if_pos rfl, decide_eq_true_iff]
    omega
  have eB : g_MO_arrive [.inr (.inl 50), .inl c, .inl z] B = am_up (g_MO_comesIn [.inr (.inl 50)] (mo_ar c z B)) 50 11 (B 50 11 + 1) := rfl
  have kA : ∀ k j, k < 32 ∨ 34 < k → qu_tk 32 (A 10 3).toNat ((A 10 3).toNat + 1) A1 k j = A1 k j := fun k j x => qu_tk_k (by omega)
  have kA2 : ∀ k j, k < 10 ∨ (13 < k ∧ k < 32) ∨ 34 < k → qu_tk 32 (A 10 3).toNat ((A 10 3).toNat + 1) A1 k j = A k j := fun k j x => (kA k j (by omega)).trans (k1 k j (by omega))
  have kB : ∀ k j, k ≠ 50 → k ≠ 68 → k ≠ 69 → am_up (g_MO_comesIn [.inr (.inl 50)] (mo_ar c z B)) 50 11 (B 50 11 + 1) k j = mo_ar c z B k j := fun k j x y w => (am_up_k _ _ x).trans (mo_in_k x y w)
  have kB5 : ∀ j, j ≠ 11 → j ≠ 26 → am_up (g_MO_comesIn [.inr (.inl 50)] (mo_ar c z B)) 50 11 (B 50 11 + 1) 50 j = B 50 j := fun j x y => (am_up_j _ _ x).trans ((mo_in_50 y).trans (b1 50 j (by omega)))
  have e32 : qu_tk 32 (A 10 3).toNat ((A 10 3).toNat + 1) A1 32 3 = A 10 3 + 1 := by
    unfold qu_tk
    rw [if_neg (by omega), if_neg (by omega), if_pos ⟨rfl, rfl⟩]
    omega
  have e26 : am_up (g_MO_comesIn [.inr (.inl 50)] (mo_ar c z B)) 50 11 (B 50 11 + 1) 50 26 = A 10 3 + 1 := by
    rw [am_up_j _ _ (by decide)]
    simp only [g_MO_comesIn]
    rw [am_up_s, b1 50 26 (by omega), a3.2]
  have C3 : cv_A 26 (A 0 9) (qu_tk 32 (A 10 3).toNat ((A 10 3).toNat + 1) A1) (am_up (g_MO_comesIn [.inr (.inl 50)] (mo_ar c z B)) 50 11 (B 50 11 + 1)) := cv_A_of C2 (fun _ _ _ _ => rfl) (fun _ _ _ _ => rfl) (fun _ => rfl) (fun _ _ _ _ => rfl) (am_up_j _ _ (by decide)) (am_up_j _ _ (by decide)) (am_up_j _ _ (by decide)) (am_up_j _ _ (by decide)) (am_up_j _ _ (by decide)) (am_up_j _ _ (by decide)) (fun k j _ _ _ => am_up_k _ _ (by omega))
  refine ⟨⟨rfl, by omega, hz, by omega, ⟨by omega, by omega⟩, fun j hj => ⟨by have := hL.1.2.1 j hj; omega, by have := hL.1.2.1 j hj; omega⟩⟩, ⟨rfl, by omega, hz, by rw [a3.2, j0.1]⟩, j0.1, ?_⟩
  rw [eA, eB]
  have k0 : ∀ j, qu_tk 32 (A 10 3).toNat ((A 10 3).toNat + 1) A1 0 j = A 0 j := fun j => kA2 0 j (by omega)
  have k10 : qu_tk 32 (A 10 3).toNat ((A 10 3).toNat + 1) A1 10 3 = A 10 3 + 1 := (kA 10 3 (by omega)).trans v3
  refine ⟨lw_T_of hT (fun k j _ _ => kA2 k j (by omega)) ⟨kB5 1 (by decide) (by decide), kB5 7 (by decide) (by decide)⟩ (fun k j _ _ => (kB k j (by omega) (by omega) (by omega)).trans (b1 k j (by omega))), ⟨?_, ?_, ⟨by rw [e32, k10], by rw [e26, k10]⟩, fun _ => ⟨by rw [k0]; exact C3, ?_⟩, fun q => ?_⟩, ⟨⟨⟨?_, by omega, by omega⟩, fun j hj => ?_, fun j hj => ?_, fun i j hij hj => ?_⟩, lg_E_of hL.2.1 (fun k j hk => kA2 k j (by omega)) (kB5 15 (by decide) (by decide)) (fun k j _ _ => (kB k j (by omega) (by omega) (by omega)).trans (b1 k j (by omega))), fun j hj => ?_, fun j hj => ?_⟩, ⟨C3.2.1.1, C3.2.1.2.2.2.1, C3.2.1.2.2.2.2⟩, ⟨?_, ?_, C3.2.1.2.2.2.2⟩, fun j hj => ⟨(C3.2.2.2.2 j hj).1, (C3.2.2.2.2 j hj).2.1⟩, C3.2.2.1, fun j hj => ?_, fun q hq => ?_, fun q hq => ?_, ?_⟩
  · rw [kB5 10 (by decide) (by decide), k0]; exact a1
  · rw [kB5 19 (by decide) (by decide), k0]; exact a2
  · rw [kA2 26 5 (by omega), kA2 7 2 (by omega)]; exact hk
  · rw [k0] at q; omega
  · rw [am_up_s, k10, j0.1]
  · rw [kA 11 j (by omega), (v1 j).1]
    split
    · omega
    · exact hL.1.2.1 j hj
  · rw [k10] at hj
    rw [kB 59 j (by omega) (by omega) (by omega), kB 58 j (by omega) (by omega) (by omega), kB 60 j (by omega) (by omega) (by omega), kA 11 j (by omega), kA 12 j (by omega), kA 13 j (by omega), (bv j).1, (bv j).2.1, (bv j).2.2, (v1 j).1, (v1 j).2.1, (v1 j).2.2]
    by_cases q : j = (A 10 3).toNat
    · rw [if_pos q, if_pos q, if_pos q, if_pos q, if_pos q, if_pos q]
      exact ⟨a2.1, rfl, hc, rfl⟩
    · rw [if_neg q, if_neg q, if_neg q, if_neg q, if_neg q, if_neg q]
      exact hL.1.2.2.1 j (by omega)
  · rw [k10] at hj
    rw [kA 11 i (by omega), kA 11 j (by omega), (v1 i).1, (v1 j).1]
    by_cases q : j = (A 10 3).toNat
    · rw [if_pos q]
      by_cases q2 : i = (A 10 3).toNat
      · rw [if_pos q2]; exact Int.le_refl _
      · rw [if_neg q2]; exact hL.2.2.1 i (by omega)
    · rw [if_neg q, if_neg (by omega)]
      exact hL.1.2.2.2 i j hij (by omega)
  · rw [k10] at hj
    rw [kA 11 j (by omega), (v1 j).1, k0]
    by_cases q : j = (A 10 3).toNat
    · rw [if_pos q]; exact Int.le_refl _
    · rw [if_neg q]; exact hL.2.2.1 j (by omega)
  · rw [kA2 14 3 (by omega)] at hj
    rw [kA2 15 j (by omega), k0]
    exact hL.2.2.2 j hj
  · intro j hj
    rw [kA2 _ j (by omega), kA2 _ j (by omega), kA2 _ j (by omega), kA2 _ j (by omega)]
    exact z2.1 j hj
  · intro j hj
    refine ⟨?_, (C3.2.1.2.2.2.1 j hj).2⟩
    rw [kA2 _ j (by omega)]
    exact (z2.2.1 j hj).1
  · rw [kB 60 j (by omega) (by omega) (by omega), kA 13 j (by omega), (bv j).2.2, (v1 j).2.2]
    split
    · rfl
    · exact z5 j hj
  · rw [kA2 49 q (by omega), kB 70 q (by omega) (by omega) (by omega), b1 70 q (by omega)]
    rw [k0] at hq
    exact z6 q hq
  · rw [kB 70 q (by omega) (by omega) (by omega), b1 70 q (by omega)]; exact z7 q hq
  · rw [kA2 48 3 (by omega), kA2 48 4 (by omega), kA2 48 5 (by omega), kB5 43 (by decide) (by decide), kB5 44 (by decide) (by decide), kB5 45 (by decide) (by decide)]; exact z8
def sd_jc (A : am_M) (c : Int) : Int := if 1 ≤ c ∧ c ≤ 30 then (if A 0 8 = 0 ∨ 40 ≤ A 10 3 then 2 else 0) else 1
theorem sd_jc_eq {A B : am_M} {c : Int} (h : lw_I A B) : mo_jc B c = sd_jc A c := by
  obtain ⟨hT, ⟨a1, a2, a3, a4, a5⟩, hL, hZ⟩ := h
  have j0 := hL.1.1
  unfold mo_jc sd_jc
  rw [a1.1, j0.1]
  by_cases q : 1 ≤ c ∧ c ≤ 30
  · rw [if_pos q, if_pos q]
    by_cases c2 : A 0 8 = 0 ∨ 40 ≤ A 10 3
    · rw [if_pos c2, if_pos (by omega)]
    · rw [if_neg c2, if_neg (by omega)]
  · rw [if_neg q, if_neg q]
theorem sd_jc_0 {A B : am_M} {c : Int} (h : lw_I A B) (hc : sd_jc A c = 0) : (1 ≤ c ∧ c ≤ 30) ∧ A 0 8 = 1 ∧ A 10 3 < 40 := by
  have a1 := h.2.1.1
  unfold sd_jc at hc
  by_cases q : 1 ≤ c ∧ c ≤ 30
  · rw [if_pos q] at hc
    by_cases c2 : A 0 8 = 0 ∨ 40 ≤ A 10 3
    · rw [if_pos c2] at hc; exact absurd hc (by decide)
    · omega
  · rw [if_neg q] at hc; exact absurd hc (by decide)
/-- A JOB -/
theorem sd_job {A B : am_M} {c : Int} (h : lw_I A B) : lw_I (if sd_jc A c = 0 then g_SD_takeIn [.inr (.inl 0), .inl c, .inl 0] A else A) (g_MO_job [.inr (.inl 50), .inl c] B) ∧ f_MO_job [.inr (.inl 50), .inl c] B = some (.inl (if sd_jc A c = 0 then A 10 3 else 0)) := by
  have ec := sd_jc_eq (c := c) h
  simp only [g_MO_job, f_MO_job]
  rw [ec]
  by_cases z : sd_jc A c = 0
  · obtain ⟨k1, k2, k3⟩ := sd_jc_0 h z
    obtain ⟨i1, i2, i3, i4⟩ := lw_arrive (c := c) (z := 0) (lw_code (v := 0) h) k2 k3 k1 (Or.inl rfl)
    rw [if_pos z, if_pos z, if_pos z, if_pos z]
    exact ⟨i4, by rw [h.2.2.1.1.1.1]⟩
  · rw [if_neg z, if_neg z, if_neg z, if_neg z]
    exact ⟨lw_code h, rfl⟩
theorem sd_job_P {A B : am_M} {c : Int} (h : lw_I A B) (hR : am_R c) : P_MO_job [.inr (.inl 50), .inl c] B := by
  obtain ⟨hT, ⟨a1, a2, a3, a4, a5⟩, hL, hZ⟩ := h
  have j0 := hL.1.1
  exact ⟨rfl, hR, ⟨by omega, by omega⟩, by omega, by rw [a3.2, j0.1]⟩
