/-! the replay's loop -/
theorem mo_wh_b {B : am_M} (hb : mo_ok B) (hq : 0 ≤ B 50 26 ∧ B 50 26 ≤ 40) : -50 ≤ mo_wh B ∧ mo_wh B ≤ 50 := by
  unfold mo_wh
  split
  · rename_i c
    have := mo_fj_p hq.1 c.1
    omega
  · split
    · omega
    · rename_i c
      have := (mo_rt_b hb).resolve_left c
      have := hb.1
      omega
/-- places of the reference's arrays that no run touches -/
def rp_f (k j : Nat) : Prop := ((64 ≤ k ∧ k ≤ 66) ∧ 5 ≤ j) ∨ ((k = 68 ∨ k = 69) ∧ 40 ≤ j) ∨ ((k = 67 ∨ k = 70) ∧ 2001 ≤ j)
theorem mo_one_f {B : am_M} {k j : Nat} (hr : re_I B 0) (hq : re_q B) (hm : B 50 19 < 2000) (h : rp_f k j) : g_MO_tickOne [.inr (.inl 50)] B k j = B k j := by
  obtain ⟨o1, o2, o3, o4⟩ := mo_one_e (B := B)
  have n0 := hr.2.2.1.1
  have ok := (re_ok hr).1.1.1
  have ok1 := (re_ok (re_top hr (by omega)).1).1.1
  have e19 : mo_t1 B 50 19 = B 50 19 := mo_t1_50 (by decide) (by decide)
  have e26 : mo_t1 B 50 26 = B 50 26 := mo_t1_50 (by decide) (by decide)
  by_cases c : k = 70
  · subst c
    rw [o4, if_neg (by unfold rp_f at h; omega)]
  · have ht : mo_t1 B k j = B k j := by
      by_cases w : k ≤ 66
      · have e0 : mo_t0 B k j = B k j := mo_cb_k (by unfold rp_f at h; omega)
        have e1 : mo_t0 B 50 1 = B 50 1 := mo_cb_50 (by decide)
        have := mo_fg_ge (B := mo_t0 B) (k := k) (j := j) (by unfold rp_f at h; omega) (by unfold rp_f at h; omega)
        exact this.trans e0
      · exact mo_t1_k (by unfold rp_f at h; omega) (by omega)
    rw [o1 k j (by unfold rp_f at h; omega) c, ← ht]
    unfold mo_wm
    split
    · rename_i q
      have p := mo_fj_p (B := mo_t1 B) (by rw [e26]; exact hq.1.1) q.1
      rw [e26] at p
      have hq1 := hq.1
      have s2 : mo_s2 (mo_t1 B) k j = mo_t1 B k j := by
        unfold mo_s2 mo_s1
        by_cases w : j = (mo_fj (mo_t1 B)).toNat
        · have w8 : k ≠ 68 := by unfold rp_f at h; omega
          have w9 : k ≠ 69 := by unfold rp_f at h; omega
          split
          · rw [am_up_k _ _ w9, am_up_k _ _ w8]
          · rw [am_up_k _ _ w8]
        · split
          · rw [am_up_j _ _ w, am_up_j _ _ w]
          · rw [am_up_j _ _ w]
      unfold mo_s3
      split
      · have y : mo_sy (mo_t1 B) k j = mo_t1 B k j := by unfold mo_sy; rw [am_up_k _ _ (by unfold rp_f at h; omega), s2]
        have y19 : mo_sy (mo_t1 B) 50 19 = B 50 19 := by unfold mo_sy; rw [am_up_j _ _ (by decide), mo_s2_k (by decide) (by decide), e19]
        rw [y19]
        by_cases w : k = 67
        · rw [am_up_j _ _ (by unfold rp_f at h; omega), y]
        · rw [am_up_k _ _ w, y]
      · exact s2
    · split
      · rfl
      · rename_i q
        have := (mo_rt_b ok1).resolve_left q
        have e1 : mo_t1 B 50 1 = B 50 1 := mo_t1_50 (by decide) (by decide)
        unfold mo_rx
        by_cases w : k = 64
        · rw [am_up_j _ _ (by unfold rp_f at h; omega)]
        · rw [am_up_k _ _ w]
theorem mo_pj_f {k i : Nat} (h : rp_f k i) : ∀ (f : Nat) (j : Int) (B : am_M), mo_pjk f j B → (mo_pj f j B).2 k i = B k i
  | 0, _, _, _ => rfl
  | f + 1, j, B, hp => by
    rw [mo_pj]
    split
    · rename_i c
      obtain ⟨p1, p2, p3⟩ := hp
      obtain ⟨q1, q2, q3, q4⟩ := p3 c.1
      obtain ⟨r1, r2⟩ := q4 c.2
      rw [mo_pj_f h f (j + 1) _ r2]
      have r3 : 0 ≤ B 50 26 ∧ B 50 26 < 40 := r1.2
      simp only [g_MO_comesIn]
      rw [am_up_k _ _ (by unfold rp_f at h; omega)]
      by_cases w : i = (B 50 26).toNat
      · rw [am_up_k _ _ (by unfold rp_f at h; omega), am_up_k _ _ (by unfold rp_f at h; omega)]
      · rw [am_up_j _ _ w, am_up_j _ _ w]
    · rfl
theorem mo_pe_f {k i : Nat} (h : rp_f k i) : ∀ (f : Nat) (j : Int) (B : am_M), mo_pek f j B → (mo_pe f j B).2 k i = B k i
  | 0, _, _, _ => rfl
  | f + 1, j, B, hp => by
    rw [mo_pe]
    split
    · rename_i c
      obtain ⟨p1, p2, p3⟩ := hp
      obtain ⟨q1, q2, q3, q4⟩ := p3 c.1
      obtain ⟨r1, r2⟩ := q4 c.2
      rw [mo_pe_f h f (j + 1) _ r2]
      have r3 : 0 ≤ B 61 j.toNat ∧ B 61 j.toNat < 5 := r1.2.1
      unfold mo_tl
      by_cases w : k = 66
      · subst w
        rw [mo_tell_66, if_neg (by unfold rp_f at h; omega)]
      · exact mo_tell_k w
    · rfl
/-- the reference's step -/
def rp_s (x : Int × Int × am_M) : Int × Int × am_M := ((mo_pj 41 x.1 x.2.2).1, (mo_pe 201 x.2.1 (mo_pj 41 x.1 x.2.2).2).1, mo_tk (mo_pe 201 x.2.1 (mo_pj 41 x.1 x.2.2).2).2)
def rp_it (x : Int × Int × am_M) : Nat → Int × Int × am_M
  | 0 => x
  | n + 1 => rp_s (rp_it x n)
/-- what the reference's step asks for -/
def rp_k (x : Int × Int × am_M) : Prop := mo_pjk 41 x.1 x.2.2 ∧ mo_pek 201 x.2.1 (mo_pj 41 x.1 x.2.2).2 ∧ P_MO_tickOne [.inr (.inl 50)] (mo_pe 201 x.2.1 (mo_pj 41 x.1 x.2.2).2).2
def rp_I (N a : Nat) (p : Nat × am_M) (x : Int × Int × am_M) : Prop := cv_A 37 a p.2 x.2.2 ∧ (p.2 43 3 = x.1 ∧ x.2.1 = p.1) ∧ lg_J p.2 x.2.2 ∧ lg_E p.2 x.2.2 ∧ (p.2 43 3 ≤ p.2 10 3 ∧ (p.1 : Int) ≤ p.2 14 3) ∧ (∀ j : Nat, p.2 43 3 ≤ j → (j : Int) < p.2 10 3 → (a : Int) ≤ p.2 11 j) ∧ (∀ j : Nat, p.1 ≤ j → (j : Int) < p.2 14 3 → (a : Int) ≤ p.2 15 j) ∧ p.2 48 4 = mo_ps x.2.2 a ∧ (∀ q : Nat, q < N → p.2 49 q = x.2.2 77 q) ∧ ∀ q : Nat, q < 2001 → (-50 ≤ x.2.2 70 q ∧ x.2.2 70 q ≤ 50) ∧ (-50 ≤ x.2.2 77 q ∧ x.2.2 77 q ≤ 50)
theorem rp_step {N a : Nat} {p : Nat × am_M} {x : Int × Int × am_M} (h : rp_I N a p x) (ha : a < N) (hN : N ≤ 2000) : ra_ok a p ∧ rp_k x ∧ rp_I N (a + 1) (ra_n a p) (rp_s x) ∧ (∀ k j, k < 19 ∨ (25 < k ∧ k < 37) ∨ 48 < k → (ra_n a p).2 k j = p.2 k j) ∧ (∀ j, j = 3 ∨ j = 5 → (ra_n a p).2 48 j = p.2 48 j) ∧ (∀ k j, k ≠ 50 → k < 64 ∨ 70 < k → (rp_s x).2.2 k j = x.2.2 k j) ∧ (∀ j, j ≠ 19 → j ≠ 24 → j ≠ 26 → j ≠ 29 → (rp_s x).2.2 50 j = x.2.2 50 j) ∧ (∀ k j, rp_f k j → (rp_s x).2.2 k j = x.2.2 k j) := by
  obtain ⟨h1, ⟨h2, h3⟩, h4, h5, ⟨h6, h7⟩, h8, h9, h10, h11, h12⟩ := h
  obtain ⟨x1, x2, Y⟩ := x
  obtain ⟨p1, A⟩ := p
  simp only at h1 h2 h3 h4 h5 h6 h7 h8 h9 h10 h11 h12
  have j0 := h4.1
  have e0 := h5.1
  have q43 := h1.1.1.2.2.2.1.1
  have q43' : A (37 + 6) 3 = A 43 3 := rfl
  have i1 : A 43 3 = ((A 43 3).toNat : Nat) := by omega
  -- the jobs
  obtain ⟨a1, a2, a3, a4, a5⟩ := rp_j (m := (a : Int)) (A 10 3 - A 43 3).toNat 41 (A 43 3).toNat A Y (by omega) h1 i1 (by omega) h4 (fun j w1 w2 => h8 j (by omega) w2)
  have xx : (((A 43 3).toNat : Nat) : Int) = x1 := by omega
  rw [xx] at a1 a2 a3 a4 a5
  have m1 : ra_m1 a (p1, A) = qu_tk 43 (A 43 3).toNat (am_fi (fun t => decide ((a : Int) < A 11 t)) (A 10 3 - A 43 3).toNat (A 43 3).toNat) A := rfl
  generalize hX : am_fi (fun t => decide ((a : Int) < A 11 t)) (A 10 3 - A 43 3).toNat (A 43 3).toNat = X at a2 a3 m1
  have fs := am_fi_sp (fun t => decide ((a : Int) < A 11 t)) (A 10 3 - A 43 3).toNat (A 43 3).toNat
  rw [hX] at fs
  have fb : ∀ j : Nat, (A 43 3).toNat ≤ j → j < X → ¬ (a : Int) < A 11 j := fun j w1 w2 => of_decide_eq_false (am_fi_b (fun t => decide ((a : Int) < A 11 t)) _ _ j w1 (by rw [hX]; exact w2))
  generalize hA1 : qu_tk 43 (A 43 3).toNat X A = A1 at a3 m1
  generalize hB1 : (mo_pj 41 x1 Y).2 = B1 at a3 a4 a5
  have k1 : ∀ k j, k < 43 ∨ 45 < k → A1 k j = A k j := fun k j hk => by rw [← hA1]; exact qu_tk_k (by omega)
  have l4 : lg_J A1 B1 := lg_J_of h4 (fun k j _ _ => k1 k j (by omega)) (a5 11 (by decide)) (fun k j _ _ => a4 k j (by omega) (by omega) (by omega))
  have l5 : lg_E A1 B1 := lg_E_of h5 (fun k j hk => k1 k j (by omega)) (a5 15 (by decide)) (fun k j _ _ => a4 k j (by omega) (by omega) (by omega))
  have c43 : A1 43 3 = X := by
    rw [← hA1]
    unfold qu_tk
    rw [if_neg (by omega), if_neg (by omega), if_pos ⟨rfl, rfl⟩]
  -- the early ones
  have k14 := k1 14 3 (by omega)
  obtain ⟨b1, b2, b3, b4, b5, b6, b7, b8⟩ := rp_e (m := (a : Int)) (A1 14 3 - (p1 : Int)).toNat 201 p1 A1 B1 (by omega) a3 (by omega) l5 (fun j w1 w2 => by rw [k1 15 j (by omega)]; exact h9 j w1 (by omega))
  have m2 : ra_q a (p1, A) = rf_tu (a : Int) (A1 14 3 - (p1 : Int)).toNat p1 A1 := by unfold ra_q; rw [m1]
  generalize hR : rf_tu (a : Int) (A1 14 3 - (p1 : Int)).toNat p1 A1 = R at b2 b3 b5 b6 b7 b8 m2
  rw [← h3] at b1 b2 b3 b4
  generalize hB2 : (mo_pe 201 x2 B1).2 = B2 at b3 b4
  -- the tick
  obtain ⟨t1, t2, t3, t4⟩ := cv_A_tick (Or.inr rfl) b3 (by omega)
  have k2 : ∀ k j, k ≠ 40 → k < 43 ∨ 45 < k → R.2 k j = A k j := fun k j w1 w2 => (b5 k j w1).trans (k1 k j w2)
  have ks : ∀ k j, k < 19 ∨ (25 < k ∧ k < 37) ∨ 47 < k → g_CO_step [.inr (.inl 37), .inl (a : Int)] R.2 k j = A k j := fun k j hk => (co_step_k (by omega) (by omega)).trans (k2 k j (by omega) (by omega))
  have eN : ra_m2 a (p1, A) = g_CO_step [.inr (.inl 37), .inl (a : Int)] R.2 := by unfold ra_m2; rw [m2]
  have eX : ra_x a (p1, A) = co_rw 37 a (co_s0 37 a R.2) := by unfold ra_x; rw [m2]
  have e49 : ra_m2 a (p1, A) 49 a = A 49 a := by rw [eN]; exact ks 49 a (by omega)
  have e48 : ra_m2 a (p1, A) 48 4 = A 48 4 := by rw [eN]; exact ks 48 4 (by omega)
  have r77 := (h12 a (by omega)).2
  have wb : -50 ≤ mo_wh (mo_t1 B2) ∧ mo_wh (mo_t1 B2) ≤ 50 := by
    have e26 : mo_t1 B2 50 26 = B2 50 26 := mo_t1_50 (by decide) (by decide)
    exact mo_wh_b (re_ok (re_top b3.1.2.2.1 (by have := b3.1.1.2.2.2.2.1; omega)).1).1.1 (by rw [e26]; exact b3.2.2.2.1)
  have rn : (ra_n a (p1, A)).2 = if mo_wh (mo_t1 B2) = A 49 a then am_up (g_CO_step [.inr (.inl 37), .inl (a : Int)] R.2) 48 4 (A 48 4 + 1) else g_CO_step [.inr (.inl 37), .inl (a : Int)] R.2 := by
    show (if ra_x a (p1, A) = ra_m2 a (p1, A) 49 a then am_up (ra_m2 a (p1, A)) 48 4 (ra_m2 a (p1, A) 48 4 + 1) else ra_m2 a (p1, A)) = _
    rw [e49, e48, eN, eX, t3]
  have rn1 : (ra_n a (p1, A)).1 = R.1 := by show (ra_q a (p1, A)).1 = _; rw [m2]
  have kn : ∀ k j, k ≠ 48 → (ra_n a (p1, A)).2 k j = g_CO_step [.inr (.inl 37), .inl (a : Int)] R.2 k j := fun k j hk => by
    rw [rn]
    split
    · exact am_up_k _ _ hk
    · rfl
  have hs : rp_s (x1, x2, Y) = ((X : Int), (R.1 : Int), g_MO_tickOne [.inr (.inl 50)] B2) := by
    unfold rp_s mo_tk
    simp only
    rw [hB1, a2, b2, hB2]
  obtain ⟨o1, o2, o3, o4⟩ := mo_one_e (B := B2)
  have e19 := b3.1.1.2.2.2.2.1
  have fB : ∀ k j, k ≠ 50 → k < 64 ∨ 70 < k → g_MO_tickOne [.inr (.inl 50)] B2 k j = Y k j := fun k j w1 w2 => (mo_one_k (by omega) w1).trans ((b4 k j (by omega)).trans (a4 k j w1 (by omega) (by omega)))
  have f50 : ∀ j, j ≠ 19 → j ≠ 24 → j ≠ 26 → j ≠ 29 → g_MO_tickOne [.inr (.inl 50)] B2 50 j = Y 50 j := fun j w1 w2 w3 w4 => (o2 j w1).trans ((mo_wm_50 w2).trans ((mo_t1_50 w2 w4).trans ((b4 50 j (by omega)).trans (a5 j w3))))
  have f70 : ∀ j, g_MO_tickOne [.inr (.inl 50)] B2 70 j = if j = a then mo_wh (mo_t1 B2) else Y 70 j := fun j => by
    rw [o4 j, e19.1, Int.toNat_natCast, b4 70 j (by omega), a4 70 j (by omega) (by omega) (by omega)]
  have s43 : g_CO_step [.inr (.inl 37), .inl (a : Int)] R.2 43 3 = X := by
    have u1 := t4.1.1.2.2.2.1.1.1
    have u2 : g_MO_tickOne [.inr (.inl 50)] B2 50 26 = B2 50 26 := (o2 26 (by decide)).trans ((mo_wm_50 (by decide)).trans (mo_t1_50 (by decide) (by decide)))
    have u3 := b3.1.1.2.2.2.1.1.1
    have u4 : R.2 (37 + 6) 3 = A1 43 3 := b5 43 3 (by decide)
    have u5 : g_CO_step [.inr (.inl 37), .inl (a : Int)] R.2 (37 + 6) 3 = g_CO_step [.inr (.inl 37), .inl (a : Int)] R.2 43 3 := rfl
    omega
  refine ⟨⟨⟨⟨rfl, rfl, rfl, by decide, by decide⟩, ⟨show 0 ≤ A 43 3 by omega, h6, show A 10 3 ≤ 40 by omega⟩, ⟨by omega, by omega⟩, fun j hj => ⟨by have := h4.2.1 j hj; show -2147483648 ≤ A 11 j; omega, by have := h4.2.1 j hj; show A 11 j < 2147483648; omega⟩⟩, ?_, ?_, ?_, ?_⟩, ⟨?_, ?_, ?_⟩, ?_, ?_, ?_, ?_, ?_, ?_⟩
  · rw [m1]
    refine ⟨rfl, ⟨by omega, fun j hj => ?_⟩, by show 0 ≤ (p1 : Int) ∧ (p1 : Int) ≤ _; omega, ⟨by omega, by omega⟩, a3.1.1.2.1.1, fun j hj => (a3.2.1.1 j hj).2.1⟩
    have := l5.2.1 j hj
    exact ⟨⟨by omega, by omega⟩, ⟨by omega, by omega⟩, this.2.2⟩
  · rw [m2]; exact t1
  · rw [eX, ← t3]; exact ⟨by omega, by omega⟩
  · rw [e49, h11 a ha]; exact ⟨by omega, by omega⟩
  · exact a1
  · show mo_pek 201 x2 (mo_pj 41 x1 Y).2
    rw [hB1]; exact b1
  · show P_MO_tickOne [.inr (.inl 50)] (mo_pe 201 x2 (mo_pj 41 x1 Y).2).2
    rw [hB1, hB2]; exact t2
  · rw [hs]
    have K : ∀ k j, k < 19 ∨ (25 < k ∧ k < 37) ∨ 48 < k → (ra_n a (p1, A)).2 k j = A k j := fun k j hk => (kn k j (by omega)).trans (ks k j (by omega))
    have G : cv_A 37 ((a + 1 : Nat) : Int) (ra_n a (p1, A)).2 (g_MO_tickOne [.inr (.inl 50)] B2) := by
      rw [show ((a + 1 : Nat) : Int) = (a : Int) + 1 by omega]
      obtain ⟨⟨⟨v1, v2, v3, v4, v5, v6⟩, vp, vr, vl⟩, ⟨c1, c2, c3, c4, c5⟩, vb, vq⟩ := t4
      have kk : ∀ k j, k < 48 → (ra_n a (p1, A)).2 k j = g_CO_step [.inr (.inl 37), .inl (a : Int)] R.2 k j := fun k j hk => kn k j (by omega)
      refine ⟨⟨⟨vr_T_of v1 (fun k j _ _ => kk k j (by omega)) rfl (fun _ _ _ _ => rfl), ts_ok_of v2 (fun k j _ _ => kk k j (by omega)), vr_L_of v3 (fun k j _ _ => kk k j (by omega)) (fun k j _ _ => kk k j (by omega)) (fun _ _ _ _ => rfl), vr_Q_of v4 (fun k j _ _ => kk k j (by omega)) (fun j => kk 13 j (by omega)) rfl (fun _ _ _ => rfl), v5, vr_U_of v6 (kk 37 5 (by omega)) (fun k j _ _ => kk k j (by omega)) ⟨rfl, rfl⟩ (fun _ _ _ => rfl)⟩, ts_pm_of vp (fun k j _ _ => kk k j (by omega)), vr, by rw [kk 37 6 (by omega)]; exact vl⟩, ⟨fun j hj => ?_, fun j hj => ?_, ?_, fun j hj => ?_, sm_x_of c5 (fun k j _ _ => kk k j (by omega))⟩, vb, vq⟩
      · rw [kk _ j (by omega), kk _ j (by omega), kk _ j (by omega), kk _ j (by omega)]; exact c1 j hj
      · rw [kk _ j (by omega)]; exact c2 j hj
      · rw [kk _ 2 (by omega)]; exact c3
      · rw [kk _ j (by omega), kk 13 j (by omega)]; exact c4 j hj
    have r43 : (ra_n a (p1, A)).2 43 3 = X := (kn 43 3 (by decide)).trans s43
    refine ⟨G, ⟨r43, by rw [rn1]⟩, lg_J_of h4 (fun k j _ _ => K k j (by omega)) (f50 11 (by decide) (by decide) (by decide) (by decide)) (fun k j _ _ => fB k j (by omega) (by omega)), lg_E_of h5 (fun k j hk => K k j (by omega)) (f50 15 (by decide) (by decide) (by decide) (by decide)) (fun k j _ _ => fB k j (by omega) (by omega)), ⟨by rw [r43, K 10 3 (by omega)]; omega, by rw [rn1, K 14 3 (by omega)]; omega⟩, fun j w1 w2 => ?_, fun j w1 w2 => ?_, ?_, fun q hq => ?_, fun q hq => ?_⟩
    · rw [r43] at w1
      rw [K 10 3 (by omega)] at w2
      rw [K 11 j (by omega)]
      have z1 := of_decide_eq_true (fs.2.2 (by omega))
      have z2 := h4.2.2.2 X j (by omega) w2
      omega
    · rw [rn1] at w1
      rw [K 14 3 (by omega)] at w2
      rw [K 15 j (by omega)]
      have z1 := b8 (by omega)
      rw [k1 15 _ (by omega)] at z1
      have z2 := h5.2.2.2 R.1 j w1 w2
      omega
    · have z : mo_ps (g_MO_tickOne [.inr (.inl 50)] B2) (a + 1) = mo_ps Y a + (if mo_wh (mo_t1 B2) = A 49 a then 1 else 0) := by
        unfold mo_ps
        simp only [ma_su]
        rw [f70 a, if_pos rfl, fB 77 a (by omega) (by omega), ← h11 a ha]
        congr 1
        refine ma_su_eq (fun q hq => ?_)
        rw [f70 q, if_neg (show ¬ q = a by omega), fB 77 q (by omega) (by omega)]
      rw [z, ← h10, rn]
      by_cases c : mo_wh (mo_t1 B2) = A 49 a
      · rw [if_pos c, if_pos c, am_up_s]
      · rw [if_neg c, if_neg c, ks 48 4 (by omega)]
        omega
    · rw [K 49 q (by omega)]
      show A 49 q = g_MO_tickOne [.inr (.inl 50)] B2 77 q
      rw [fB 77 q (by omega) (by omega)]
      exact h11 q hq
    · show (-50 ≤ g_MO_tickOne [.inr (.inl 50)] B2 70 q ∧ g_MO_tickOne [.inr (.inl 50)] B2 70 q ≤ 50) ∧ (-50 ≤ g_MO_tickOne [.inr (.inl 50)] B2 77 q ∧ g_MO_tickOne [.inr (.inl 50)] B2 77 q ≤ 50)
      rw [fB 77 q (by omega) (by omega), f70 q]
      refine ⟨?_, (h12 q hq).2⟩
      split
      · exact wb
      · exact (h12 q hq).1
  · exact fun k j hk => (kn k j (by omega)).trans (ks k j (by omega))
  · intro j hj
    rw [rn]
    split
    · rw [am_up_j _ _ (by omega)]; exact ks 48 j (by omega)
    · exact ks 48 j (by omega)
  · rw [hs]; exact fB
  · rw [hs]; exact f50
  · rw [hs]
    intro k j hf
    refine (mo_one_f b3.1.2.2.1 b3.2.2.2 (by omega) hf).trans ?_
    rw [← hB2, mo_pe_f hf 201 x2 B1 b1, ← hB1]
    exact mo_pj_f hf 41 x1 Y a1
/-- so many steps of both -/
theorem rp_all {N : Nat} {p : Nat × am_M} {x : Int × Int × am_M} (h : rp_I N 0 p x) (hN : N ≤ 2000) : ∀ a, a ≤ N → rp_I N a (ra_it p a) (rp_it x a) ∧ (∀ k j, k < 19 ∨ (25 < k ∧ k < 37) ∨ 48 < k → (ra_it p a).2 k j = p.2 k j) ∧ (∀ j, j = 3 ∨ j = 5 → (ra_it p a).2 48 j = p.2 48 j) ∧ (∀ k j, k ≠ 50 → k < 64 ∨ 70 < k → (rp_it x a).2.2 k j = x.2.2 k j) ∧ (∀ j, j ≠ 19 → j ≠ 24 → j ≠ 26 → j ≠ 29 → (rp_it x a).2.2 50 j = x.2.2 50 j) ∧ (∀ k j, rp_f k j → (rp_it x a).2.2 k j = x.2.2 k j)
  | 0, _ => ⟨h, fun _ _ _ => rfl, fun _ _ => rfl, fun _ _ _ _ => rfl, fun _ _ _ _ _ => rfl, fun _ _ _ => rfl⟩
  | a + 1, ha => by
    obtain ⟨i1, i2, i3, i4, i5, i6⟩ := rp_all h hN a (by omega)
    obtain ⟨s1, s2, s3, s4, s5, s6, s7, s8⟩ := rp_step i1 (by omega) hN
    exact ⟨s3, fun k j hk => (s4 k j hk).trans (i2 k j hk), fun j hj => (s5 j hj).trans (i3 j hj), fun k j w1 w2 => (s6 k j w1 w2).trans (i4 k j w1 w2), fun j a b c d => (s7 j a b c d).trans (i5 j a b c d), fun k j hf => (s8 k j hf).trans (i6 k j hf)⟩
/-- the reference's loop is these steps -/
theorem rp_pr {N : Nat} {p : Nat × am_M} {x : Int × Int × am_M} (h : rp_I N 0 p x) (hN : N ≤ 2000) : ∀ (n a f : Nat), a + n = N → n < f → mo_prk f N (rp_it x a).1 (rp_it x a).2.1 (rp_it x a).2.2 ∧ mo_pr f N (rp_it x a).1 (rp_it x a).2.1 (rp_it x a).2.2 = (rp_it x N).2.2
  | n, a, 0, _, hf => by omega
  | 0, a, f + 1, ha, _ => by
    have e : a = N := by omega
    have i1 := (rp_all h hN a (by omega)).1.1.1.1.2.2.2.2.1
    have c : ¬ (rp_it x a).2.2 50 19 < (N : Int) := by omega
    rw [mo_pr, if_neg c, e]
    rw [e] at i1
    exact ⟨⟨⟨by omega, by omega⟩, fun q => by omega⟩, rfl⟩
  | n + 1, a, f + 1, ha, hf => by
    have I := (rp_all h hN a (by omega)).1
    have i1 := I.1.1.1.2.2.2.2.1
    obtain ⟨s1, s2, s3, s4, s5, s6, s7, s8⟩ := rp_step I (by omega) hN
    obtain ⟨r1, r2⟩ := rp_pr h hN n (a + 1) f (by omega) (by omega)
    have c : (rp_it x a).2.2 50 19 < (N : Int) := by omega
    rw [mo_pr, if_pos c]
    exact ⟨⟨⟨by omega, by omega⟩, fun _ => ⟨s2.1, s2.2.1, s2.2.2, r1⟩⟩, r2⟩
