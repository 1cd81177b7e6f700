/-! the law's calls: replay -/
def sd_yc (A : am_M) (k : Int) : Int := if 0 ≤ k ∧ k ≤ 3 then (if A 0 8 = 0 then 2 else if ts_a A k = 0 then 3 else 0) else 1
theorem sd_yc_eq {A B : am_M} {k : Int} (h : lw_I A B) : mo_yc B k = sd_yc A k := by
  obtain ⟨hT, ⟨a1, a2, a3, a4, a5⟩, hL, hZ⟩ := h
  unfold mo_yc sd_yc
  rw [a1.1, vr_a hT.1 hT.2.2.2.2.2.1 hT.2.1]
theorem sd_yc_0 {A B : am_M} {k : Int} (h : lw_I A B) (hc : sd_yc A k = 0) : (0 ≤ k ∧ k ≤ 3) ∧ A 0 8 = 1 ∧ ts_a A k ≠ 0 := by
  have a1 := h.2.1.1
  unfold sd_yc at hc
  by_cases q : 0 ≤ k ∧ k ≤ 3
  · rw [if_pos q] at hc
    by_cases c2 : A 0 8 = 0
    · rw [if_pos c2] at hc; exact absurd hc (by decide)
    · rw [if_neg c2] at hc
      by_cases c3 : ts_a A k = 0
      · rw [if_pos c3] at hc; exact absurd hc (by decide)
      · exact ⟨q, by omega, c3⟩
  · rw [if_neg q] at hc; exact absurd hc (by decide)
theorem rf_cl_k {A : am_M} {k j : Nat} (h : k ≠ 48) : g_RF_clear [.inr (.inl 48)] A k j = A k j := by
  simp only [g_RF_clear]
  rw [am_up_k _ _ h, am_up_k _ _ h, am_up_k _ _ h]
/-- the replay begins -/
theorem rp_0 {A B : am_M} {k : Int} (h : lw_I A B) (hc : sd_yc A k = 0) : rp_I (A 0 9).toNat 0 (ra_0 k A) (0, 0, g_MO_begin [.inr (.inl 50), .inl k] (mo_kp B)) := by
  obtain ⟨c1, c2, c3⟩ := sd_yc_0 h hc
  obtain ⟨hT, ⟨a1, a2, a3, a4, a5⟩, hL, ⟨z1, z2, z3, z4, z5, z6, z7, z8⟩⟩ := h
  obtain ⟨h1, h2, h3, h4, h5, h6, h7, h8, h8b, h9⟩ := hT
  have e : ∀ k j, k < 71 → k ≠ 50 ∨ j < 31 ∨ 35 < j → mo_kp B k j = B k j := fun k j x y => mo_kp_k x y
  have C := cv_begin (d := 37) (k := k) (A := A) (B := mo_kp B) (Or.inr rfl) (vr_T_of h1 (fun _ _ _ _ => rfl) (e 50 1 (by omega) (by omega)) (fun k j _ _ => e k j (by omega) (by omega))) h2 h3 (by unfold vr_B; rw [e 56 1 (by omega) (by omega), e 57 1 (by omega) (by omega), e 56 2 (by omega) (by omega), e 57 2 (by omega) (by omega)]; exact h6) h7 (h8 _ (by omega)) c1 (by rw [mo_a_of (e 50 1 (by omega) (by omega)) (fun k j _ _ => e k j (by omega) (by omega)), vr_a h1 h6 h2]; exact c3) z2 (re_0_of z3 (fun k j hk => e k j (by omega) (by omega)))
  have kA : ∀ a j, a ≠ 48 → (ra_0 k A).2 a j = g_CO_begin [.inr (.inl 37), .inr (.inl 7), .inl k] A a j := fun a j x => rf_cl_k x
  have kA2 : ∀ a j, a < 37 ∨ 48 < a → (ra_0 k A).2 a j = A a j := fun a j x => (kA a j (by omega)).trans (co_bg_k (by omega))
  have kB : ∀ a j, a ≠ 50 → a < 64 ∨ 67 < a → g_MO_begin [.inr (.inl 50), .inl k] (mo_kp B) a j = mo_kp B a j := fun a j x y => mo_bg_k x y
  have kB5 : ∀ j, j = 11 ∨ j = 15 → g_MO_begin [.inr (.inl 50), .inl k] (mo_kp B) 50 j = B 50 j := fun j x => (mo_bg_50 (by omega) (by omega) (by omega) (by omega) (by omega)).trans (e 50 j (by omega) (by omega))
  have c43 : (ra_0 k A).2 43 3 = 0 := (kA 43 3 (by omega)).trans (co_bg_v (d := 37) (k := k) (A := A) (by omega)).2.1.1
  obtain ⟨kv1, kv2, kv3, kv4⟩ := mo_kp_v (B := B)
  refine ⟨?_, ⟨c43, rfl⟩, lg_J_of hL.1 (fun a j _ _ => kA2 a j (by omega)) (kB5 11 (by omega)) (fun a j _ _ => (kB a j (by omega) (by omega)).trans (e a j (by omega) (by omega))), lg_E_of hL.2.1 (fun a j hk => kA2 a j (by omega)) (kB5 15 (by omega)) (fun a j _ _ => (kB a j (by omega) (by omega)).trans (e a j (by omega) (by omega))), ⟨?_, ?_⟩, fun j _ hj => ?_, fun j _ hj => ?_, ?_, fun q hq => ?_, fun q hq => ⟨?_, ?_⟩⟩
  · exact cv_A_of C (fun a j _ _ => kA a j (by omega)) (fun a j _ _ => kA a j (by omega)) (fun j => kA 13 j (by omega)) (fun a j _ _ => kA a j (by omega)) rfl rfl rfl rfl rfl rfl (fun _ _ _ _ _ => rfl)
  · rw [c43, kA2 10 3 (by omega)]; have := hL.1.1; omega
  · rw [kA2 14 3 (by omega)]; have := hL.2.1.1; show ((0 : Nat) : Int) ≤ _; omega
  · rw [kA2 10 3 (by omega)] at hj
    rw [kA2 11 j (by omega)]
    have := (hL.1.2.1 j (by have := hL.1.1; omega)).1
    omega
  · rw [kA2 14 3 (by omega)] at hj
    rw [kA2 15 j (by omega)]
    have := (hL.2.1.2.1 j (by have := hL.2.1.1; omega)).1.1
    omega
  · show (ra_0 k A).2 48 4 = 0
    unfold ra_0
    simp only [g_RF_clear]
    rw [am_up_j _ _ (by decide), am_up_s]
  · rw [kA2 49 q (by omega)]
    show A 49 q = g_MO_begin [.inr (.inl 50), .inl k] (mo_kp B) 77 q
    rw [kB 77 q (by omega) (by omega), (kv4 q (by omega)).2]
    exact z6 q (by omega)
  · have w : g_MO_begin [.inr (.inl 50), .inl k] (mo_kp B) 70 q = B 70 q := (kB 70 q (by omega) (by omega)).trans (e 70 q (by omega) (by omega))
    show -50 ≤ g_MO_begin [.inr (.inl 50), .inl k] (mo_kp B) 70 q ∧ g_MO_begin [.inr (.inl 50), .inl k] (mo_kp B) 70 q ≤ 50
    rw [w]
    exact z7 q hq
  · have w : g_MO_begin [.inr (.inl 50), .inl k] (mo_kp B) 77 q = B 70 q := (kB 77 q (by omega) (by omega)).trans (kv4 q hq).2
    show -50 ≤ g_MO_begin [.inr (.inl 50), .inl k] (mo_kp B) 77 q ∧ g_MO_begin [.inr (.inl 50), .inl k] (mo_kp B) 77 q ≤ 50
    rw [w]
    exact z7 q hq
/-- A REPLAY -/
theorem sd_replay {A B : am_M} {k : Int} (h : lw_I A B) (hR : am_R k) : P_MO_replay [.inr (.inl 50), .inl k] B ∧ lw_I (if sd_yc A k = 0 then g_RF_runAgain [.inr (.inl 48), .inr (.inl 7), .inl k, .inr (.inl 49), .inl (A 0 9)] A else A) (g_MO_replay [.inr (.inl 50), .inl k] B) ∧ (sd_yc A k = 0 → P_RF_runAgain [.inr (.inl 48), .inr (.inl 7), .inl k, .inr (.inl 49), .inl (A 0 9)] A ∧ f_MO_replay [.inr (.inl 50), .inl k] B = f_RF_runAgain [.inr (.inl 48), .inr (.inl 7), .inl k, .inr (.inl 49), .inl (A 0 9)] A) := by
  have ec := sd_yc_eq (k := k) h
  have hB0 := lw_code (v := 0) h
  have main : sd_yc A k = 0 → (mo_pN B = A 0 9 ∧ mo_prk 2002 (mo_pN B) 0 0 (mo_p0 B k) ∧ mo_pz (mo_pY B k)) ∧ P_RF_runAgain [.inr (.inl 48), .inr (.inl 7), .inl k, .inr (.inl 49), .inl (A 0 9)] A ∧ f_RF_runAgain [.inr (.inl 48), .inr (.inl 7), .inl k, .inr (.inl 49), .inl (A 0 9)] A = some (.inl (mo_px (mo_pY B k) (mo_pY B k 50 26).toNat)) ∧ lw_I (g_RF_runAgain [.inr (.inl 48), .inr (.inl 7), .inl k, .inr (.inl 49), .inl (A 0 9)] A) (mo_lb (mo_pf (mo_pY B k) (mo_pN B).toNat)) := fun z => by
    have I0 := rp_0 hB0 z
    obtain ⟨c1, c2, c3⟩ := sd_yc_0 h z
    obtain ⟨hT, ⟨a1, a2, a3, a4, a5⟩, hL, ⟨z1, z2, z3, z4, z5, z6, z7, z8⟩⟩ := h
    have e : ∀ k j, k < 71 → k ≠ 50 ∨ j < 31 ∨ 35 < j → mo_kp (am_up B 50 0 0) k j = am_up B 50 0 0 k j := fun k j x y => mo_kp_k x y
    have uB : ∀ k j, k ≠ 50 ∨ j ≠ 0 → am_up B 50 0 0 k j = B k j := fun k j x => by
      by_cases c : k = 50
      · exact am_up_j _ _ (by omega)
      · exact am_up_k _ _ c
    have pN : mo_pN B = A 0 9 := by
      unfold mo_pN
      rw [e 50 19 (by omega) (by omega), uB 50 19 (by omega)]; exact a2.1
    have nN : ((A 0 9).toNat : Int) = A 0 9 := by omega
    obtain ⟨R1, R2⟩ := rp_pr I0 (by omega) (A 0 9).toNat 0 2002 (by omega) (by omega)
    obtain ⟨J1, J2, J3, J4, J5, J6⟩ := rp_all I0 (by omega) (A 0 9).toNat (Nat.le_refl _)
    have eY : mo_pY B k = (rp_it (0, 0, g_MO_begin [.inr (.inl 50), .inl k] (mo_kp (am_up B 50 0 0))) (A 0 9).toNat).2.2 := by
      rw [← R2, nN]
      unfold mo_pY mo_p0
      rw [pN]
      rfl
    have eP : mo_prk 2002 (mo_pN B) 0 0 (mo_p0 B k) := by
      rw [pN, ← nN]
      exact R1
    rw [← eY] at J4 J5 J6
    generalize hp : ra_it (ra_0 k A) (A 0 9).toNat = p at J1 J2 J3
    obtain ⟨g1, ⟨g2, g3⟩, g4, g5, ⟨g6, g7⟩, g8, g9, g10, g11, g12⟩ := J1
    rw [← eY] at g1 g4 g5 g10 g11 g12
    obtain ⟨q1, q2, q3, q4⟩ := (⟨g1.1, g1.2.1, g1.2.2.1, g1.2.2.2⟩ : cv_I 37 _ p.2 (mo_pY B k) ∧ _ ∧ _ ∧ _)
    have vQ := q1.1.2.2.2.1
    have b43 : p.2 43 3 = mo_pY B k 50 26 := vQ.1.1.symm
    have n43 : 0 ≤ p.2 43 3 ∧ p.2 43 3 ≤ 40 := ⟨vQ.1.2.1, vQ.1.2.2⟩
    have eE : ra_e k (A 0 9).toNat A = am_up p.2 48 5 (p.2 37 6) := by unfold ra_e; rw [hp]
    have kE : ∀ a j, a ≠ 48 → ra_e k (A 0 9).toNat A a j = p.2 a j := fun a j x => by rw [eE]; exact am_up_k _ _ x
    have ends : ∀ j : Nat, (j : Int) < p.2 43 3 → p.2 45 j = mo_pY B k 69 j ∧ (p.2 45 j = -1 ↔ 0 < mo_pY B k 68 j) ∧ (-1 ≤ p.2 45 j ∧ p.2 45 j ≤ 2001) := fun j hj => by
      have u1 : mo_pY B k 69 j = p.2 45 j := (vQ.2.1 j hj).2.2.1
      have u2 := (q4.2 j (by omega)).2.2 (by rw [← b43]; exact hj)
      rw [u1] at u2
      exact ⟨u1.symm, u2⟩
    have sumE : ma_su (fun j => if ra_e k (A 0 9).toNat A 45 j = -1 then 0 else ra_e k (A 0 9).toNat A 45 j - ra_e k (A 0 9).toNat A 11 j) (ra_e k (A 0 9).toNat A 43 3).toNat = mo_px (mo_pY B k) (mo_pY B k 50 26).toNat := by
      rw [kE 43 3 (by omega), b43]
      unfold mo_px
      refine ma_su_eq (fun j hj => ?_)
      rw [kE 45 j (by omega), kE 11 j (by omega)]
      obtain ⟨u1, u2, u3⟩ := ends j (by omega)
      by_cases c : 0 < mo_pY B k 68 j
      · rw [if_pos (u2.2 c), if_pos c]
      · rw [if_neg (fun w => c (u2.1 w)), if_neg c, u1, (g4.2.2.1 j (by omega)).1]
    have cntE : ma_su (fun j => if ra_e k (A 0 9).toNat A 45 j = -1 then (0 : Int) else 1) (ra_e k (A 0 9).toNat A 43 3).toNat = mo_pc (mo_pY B k) (mo_pY B k 50 26).toNat := by
      rw [kE 43 3 (by omega), b43]
      unfold mo_pc
      refine ma_su_eq (fun j hj => ?_)
      rw [kE 45 j (by omega)]
      obtain ⟨u1, u2, u3⟩ := ends j (by omega)
      by_cases c : 0 < mo_pY B k 68 j
      · rw [if_pos (u2.2 c), if_pos c]
      · rw [if_neg (fun w => c (u2.1 w)), if_neg c]
    have gE : g_RF_runAgain [.inr (.inl 48), .inr (.inl 7), .inl k, .inr (.inl 49), .inl (A 0 9)] A = am_up (ra_e k (A 0 9).toNat A) 48 3 (mo_pc (mo_pY B k) (mo_pY B k 50 26).toNat) := by
      simp only [g_RF_runAgain, g_RF_sumOfTimes]
      rw [cntE]
      have w3 : ra_e k (A 0 9).toNat A 48 3 = 0 := by
        rw [eE, am_up_j _ _ (by decide), J3 3 (by omega)]
        unfold ra_0
        simp only [g_RF_clear]
        rw [am_up_j _ _ (by decide), am_up_j _ _ (by decide), am_up_s]
      rw [w3, Int.zero_add]
    have kG : ∀ a j, a ≠ 48 → g_RF_runAgain [.inr (.inl 48), .inr (.inl 7), .inl k, .inr (.inl 49), .inl (A 0 9)] A a j = p.2 a j := fun a j x => by rw [gE, am_up_k _ _ x, kE a j x]
    have k0 : ∀ a j, a < 37 ∨ 48 < a → (ra_0 k A).2 a j = A a j := fun a j x => (rf_cl_k (by omega)).trans (co_bg_k (by omega))
    have kA : ∀ a j, a < 19 ∨ (25 < a ∧ a < 37) ∨ 48 < a → g_RF_runAgain [.inr (.inl 48), .inr (.inl 7), .inl k, .inr (.inl 49), .inl (A 0 9)] A a j = A a j := fun a j x => (kG a j (by omega)).trans ((J2 a j x).trans (k0 a j (by omega)))
    have x0 : ∀ a j, a ≠ 50 → a < 64 ∨ 67 < a → (0, 0, g_MO_begin [.inr (.inl 50), .inl k] (mo_kp (am_up B 50 0 0))).2.2 a j = mo_kp (am_up B 50 0 0) a j := fun a j x y => mo_bg_k x y
    have x5 : ∀ j, j ≠ 19 → j ≠ 20 → j ≠ 24 → j ≠ 26 → j ≠ 29 → (0, 0, g_MO_begin [.inr (.inl 50), .inl k] (mo_kp (am_up B 50 0 0))).2.2 50 j = mo_kp (am_up B 50 0 0) 50 j := fun j p1 p2 p3 p4 p5 => mo_bg_50 p1 p2 p3 p4 p5
    have fk : ∀ n a j, a ≠ 50 → mo_pf (mo_pY B k) n a j = mo_pY B k a j := fun n a j x => by
      unfold mo_pf mo_pd mo_pb
      rw [am_up_k _ _ x, am_up_k _ _ x, am_up_k _ _ x, am_up_k _ _ x, am_up_k _ _ x]
    have f5 : ∀ n j, j ≠ 43 → j ≠ 44 → j ≠ 45 → mo_pf (mo_pY B k) n 50 j = mo_pY B k 50 j := fun n j x y w => by
      unfold mo_pf mo_pd mo_pb
      rw [am_up_j _ _ y, am_up_j _ _ x, am_up_j _ _ w, am_up_j _ _ y, am_up_j _ _ x]
    have far : ∀ a j, rp_f a j → mo_pY B k a j = am_up B 50 0 0 a j := fun a j hf => by
      rw [J6 a j hf]
      have w : g_MO_begin [.inr (.inl 50), .inl k] (mo_kp (am_up B 50 0 0)) a j = mo_kp (am_up B 50 0 0) a j := by
        by_cases c : a < 64 ∨ 67 < a
        · exact mo_bg_k (by unfold rp_f at hf; omega) c
        · simp only [g_MO_begin]
          unfold mo_b3 mo_b2 mo_b1
          have w5 : a ≠ 50 := by omega
          rw [am_up_k _ _ w5, am_up_k _ _ w5]
          simp only [am_fill]
          rw [if_neg (by unfold rp_f at hf; omega), am_up_k _ _ w5]
          simp only [am_fill]
          rw [if_neg (by unfold rp_f at hf; omega), if_neg (by unfold rp_f at hf; omega), if_neg (by unfold rp_f at hf; omega), am_up_k _ _ w5, am_up_k _ _ w5]
      exact w.trans (e a j (by unfold rp_f at hf; omega) (by unfold rp_f at hf; omega))
    have bk := mo_back (B := am_up B 50 0 0) (X := mo_pf (mo_pY B k) (mo_pN B).toNat) (fun j hj => by rw [f5 _ j (by omega) (by omega) (by omega), J5 j (by omega) (by omega) (by omega) (by omega), x5 j (by omega) (by omega) (by omega) (by omega) (by omega)]) (fun a j _ _ => by rw [fk _ a j (by omega), J4 a j (by omega) (by omega), x0 a j (by omega) (by omega)]) (fun a j _ _ => by rw [fk _ a j (by omega), J4 a j (by omega) (by omega), x0 a j (by omega) (by omega), e a j (by omega) (by omega)]) (fun a j p1 p2 p3 => by rw [fk _ a j (by omega)]; exact far a j (Or.inl ⟨⟨p1, p2⟩, p3⟩)) (fun a j p1 p2 => by rw [fk _ a j (by omega)]; exact far a j (Or.inr (Or.inl ⟨p1, p2⟩))) (fun a j p1 p2 => by rw [fk _ a j (by omega)]; exact far a j (Or.inr (Or.inr ⟨p1, p2⟩)))
    have lk : ∀ a j, 50 ≤ a → a ≤ 70 → a ≠ 50 ∨ (j ≠ 0 ∧ (j < 31 ∨ 45 < j)) → mo_lb (mo_pf (mo_pY B k) (mo_pN B).toNat) a j = B a j := fun a j p1 p2 p3 => by
      by_cases c : a = 50
      · subst c
        by_cases c2 : j = 19 ∨ j = 20 ∨ j = 24 ∨ j = 26 ∨ j = 29
        · rw [bk.2 j c2, uB 50 j (by omega)]
        · rw [mo_lb_k (by omega) (by omega), f5 _ j (by omega) (by omega) (by omega), J5 j (by omega) (by omega) (by omega) (by omega), x5 j (by omega) (by omega) (by omega) (by omega) (by omega), e 50 j (by omega) (by omega), uB 50 j (by omega)]
      · rw [bk.1 a j (by omega) p2, uB a j (by omega)]
    refine ⟨⟨pN, eP, ?_, fun j hj => ?_, fun j hj => ⟨?_, ?_⟩⟩, ⟨rfl, rfl, rfl, c1, by omega, hT.2.1.1, fun a ha => ?_, rfl, ?_, fun j hj => ?_⟩, ?_, ?_⟩
    · rw [← b43]; exact n43
    · have := (q4.2 j hj).2.1
      exact ⟨by omega, by omega⟩
    · have := (g12 j hj).1
      exact ⟨by omega, by omega⟩
    · have := (g12 j hj).2
      exact ⟨by omega, by omega⟩
    · exact (rp_step (rp_all I0 (by omega) a (by omega)).1 (by omega) (by omega)).1
    · rw [kE 43 3 (by omega)]; exact n43
    · rw [kE 43 3 (by omega)] at hj
      rw [kE 45 j (by omega)]
      have := (ends j hj).2.2
      exact ⟨by omega, by omega⟩
    · simp only [f_RF_runAgain, f_RF_sumOfTimes]
      rw [sumE]
    · -- the law's invariant behind it
      have m : lw_I A (mo_lb (mo_pf (mo_pY B k) (mo_pN B).toNat)) ∨ True := Or.inr trivial
      have r37 : (g_RF_runAgain [.inr (.inl 48), .inr (.inl 7), .inl k, .inr (.inl 49), .inl (A 0 9)] A 48 3 = mo_lb (mo_pf (mo_pY B k) (mo_pN B).toNat) 50 43) ∧ (g_RF_runAgain [.inr (.inl 48), .inr (.inl 7), .inl k, .inr (.inl 49), .inl (A 0 9)] A 48 4 = mo_lb (mo_pf (mo_pY B k) (mo_pN B).toNat) 50 44) ∧ (g_RF_runAgain [.inr (.inl 48), .inr (.inl 7), .inl k, .inr (.inl 49), .inl (A 0 9)] A 48 5 = mo_lb (mo_pf (mo_pY B k) (mo_pN B).toNat) 50 45) := by
        rw [mo_lb_k (by omega) (by omega), mo_lb_k (by omega) (by omega), mo_lb_k (by omega) (by omega), gE]
        refine ⟨?_, ?_, ?_⟩
        · rw [am_up_s]
          unfold mo_pf mo_pd
          rw [am_up_j _ _ (by decide), am_up_s]
        · rw [am_up_j _ _ (by decide), eE, am_up_j _ _ (by decide), g10]
          unfold mo_pf
          rw [am_up_s, pN]
        · rw [am_up_j _ _ (by decide), eE, am_up_s]
          unfold mo_pf mo_pd mo_pb
          rw [am_up_j _ _ (by decide), am_up_j _ _ (by decide), am_up_s]
          exact q1.2.2.2
      have xx := q2.2.2.2.2
      have kAx : ∀ a j, 20 ≤ a → a ≤ 25 → g_RF_runAgain [.inr (.inl 48), .inr (.inl 7), .inl k, .inr (.inl 49), .inl (A 0 9)] A a j = p.2 a j := fun a j _ _ => kG a j (by omega)
      have sx : sm_x (g_RF_runAgain [.inr (.inl 48), .inr (.inl 7), .inl k, .inr (.inl 49), .inl (A 0 9)] A) := sm_x_of xx kAx
      have l5 : ∀ j, (j ≠ 0 ∧ (j < 31 ∨ 45 < j)) → mo_lb (mo_pf (mo_pY B k) (mo_pN B).toNat) 50 j = B 50 j := fun j hj => lk 50 j (by omega) (by omega) (Or.inr hj)
      have lkk : ∀ a j, 51 ≤ a → a ≤ 70 → mo_lb (mo_pf (mo_pY B k) (mo_pN B).toNat) a j = B a j := fun a j x y => lk a j (by omega) y (Or.inl (by omega))
      obtain ⟨⟨⟨⟨v1, v2, v3, v4, v5, v6⟩, vp, vr, vl⟩, ⟨y1, y2, y3, y4, y5⟩, vb, vq⟩, hk⟩ := a4 c2
      refine ⟨lw_T_of hT (fun a j _ _ => kA a j (by omega)) ⟨l5 1 (by omega), l5 7 (by omega)⟩ (fun a j _ _ => lkk a j (by omega) (by omega)), ⟨?_, ?_, ?_, fun _ => ⟨?_, ?_⟩, fun c => ?_⟩, lw_L_of hL (fun a j hk => kA a j (by omega)) (by rw [kA 0 9 (by omega)]; exact Int.le_refl _) (l5 11 (by omega)) (l5 15 (by omega)) (fun a j _ _ => lkk a j (by omega) (by omega)), ⟨fun j hj => ?_, fun j hj => ?_, sx⟩, ⟨fun j hj => ?_, fun j hj => ?_, sx⟩, re_0_of z3 (fun a j hk => lkk a j (by omega) (by omega)), re_b_of z4 (fun a j _ _ => lkk a j (by omega) (by omega)), fun j hj => ?_, fun q hq => ?_, fun q hq => ?_, r37⟩
      · rw [l5 10 (by omega), kA 0 8 (by omega)]; exact a1
      · rw [l5 19 (by omega), kA 0 9 (by omega)]; exact a2
      · rw [kA 32 3 (by omega), kA 10 3 (by omega), l5 26 (by omega)]; exact a3
      · rw [kA 0 9 (by omega)]
        have e1 : ∀ a j, (1 ≤ a ∧ a ≤ 13) ∨ (26 ≤ a ∧ a ≤ 36) → g_RF_runAgain [.inr (.inl 48), .inr (.inl 7), .inl k, .inr (.inl 49), .inl (A 0 9)] A a j = A a j := fun a j x => kA a j (by omega)
        have step1 : cv_A 26 (A 0 9) (fun a j => if 20 ≤ a ∧ a ≤ 25 then A a j else g_RF_runAgain [.inr (.inl 48), .inr (.inl 7), .inl k, .inr (.inl 49), .inl (A 0 9)] A a j) (mo_lb (mo_pf (mo_pY B k) (mo_pN B).toNat)) := by
          refine cv_A_of (A := A) (B := B) ⟨⟨⟨v1, v2, v3, v4, v5, v6⟩, vp, vr, vl⟩, ⟨y1, y2, y3, y4, y5⟩, vb, vq⟩ (fun a j _ _ => ?_) (fun a j _ _ => ?_) (fun j => ?_) (fun a j x y => if_pos ⟨x, y⟩) (l5 1 (by omega)) (l5 19 (by omega)) (l5 20 (by omega)) (l5 24 (by omega)) (l5 26 (by omega)) (l5 29 (by omega)) (fun a j _ _ _ => lkk a j (by omega) (by omega))
          · rw [if_neg (by omega)]; exact e1 a j (by omega)
          · rw [if_neg (by omega)]; exact e1 a j (by omega)
          · rw [if_neg (by omega)]; exact e1 13 j (by omega)
        exact cv_A_mm (by omega) step1 (fun a j x => by rw [if_neg (by omega)]) sx
      · rw [kA 26 5 (by omega), kA 7 2 (by omega)]; exact hk
      · rw [kA 0 8 (by omega)] at c; omega
      · rw [kA _ j (by omega), kA _ j (by omega), kA _ j (by omega), kA _ j (by omega)]; exact z1.1 j hj
      · rw [kA _ j (by omega), kA 13 j (by omega)]; exact z1.2.1 j hj
      · rw [kG _ j (by omega), kG _ j (by omega), kG _ j (by omega), kG _ j (by omega)]; exact q2.1 j hj
      · rw [kG _ j (by omega), kG 13 j (by omega)]; exact q2.2.2.2.1 j hj
      · rw [lkk 60 j (by omega) (by omega), kA 13 j (by omega)]; exact z5 j hj
      · rw [kA 49 q (by omega), lkk 70 q (by omega) (by omega)]
        rw [kA 0 9 (by omega)] at hq
        exact z6 q hq
      · rw [lkk 70 q (by omega) (by omega)]; exact z7 q hq
  have ok := vr_ok h.1.1 h.1.2.1
  have rbk := vr_rb h.1.2.2.2.2.2.1 h.1.2.2.2.2.2.2.1
  have a1 := h.2.1.1
  have a2 := h.2.1.2.1
  refine ⟨⟨rfl, hR, ⟨by omega, by omega⟩, ok, rbk, fun z => ?_⟩, ?_, fun z => ?_⟩
  · rw [ec] at z
    obtain ⟨⟨m1, m2, m3⟩, m4, m5, m6⟩ := main z
    exact ⟨by rw [m1]; omega, m2, m3⟩
  · simp only [g_MO_replay]
    rw [ec]
    by_cases z : sd_yc A k = 0
    · rw [if_pos z, if_pos z]; exact (main z).2.2.2
    · rw [if_neg z, if_neg z]; exact lw_code h
  · simp only [f_MO_replay]
    rw [ec, if_pos z]
    exact ⟨(main z).2.1, (main z).2.2.1.symm⟩
