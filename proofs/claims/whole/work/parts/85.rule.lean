/-! the law's calls: rule, start, reset -/
def sd_rc (A : am_M) (k b p : Int) : Int := if (0 ≤ k ∧ k ≤ 3) ∧ (k = 1 ∨ k = 2 → (1 ≤ p ∧ p ≤ 60) ∧ 1 ≤ b ∧ b ≤ p) then (if A 0 8 ≠ 0 then 2 else 0) else 1
def sd_rX (k b p : Int) (A : am_M) : am_M := g_RB_keep [.inr (.inl 7), .inl k, .inl b, .inl p] A
def sd_rg (k b p : Int) (A : am_M) : am_M := if ts_a (sd_rX k b p A) k = 0 then sd_rX k b p A else am_up (sd_rX k b p A) 7 2 k
theorem sd_rc_eq {A B : am_M} {k b p : Int} (h : lw_I A B) : mo_rc B k b p = sd_rc A k b p := by
  have a1 := h.2.1.1
  unfold mo_rc sd_rc
  rw [a1.1]
  have e : ((0 ≤ k ∧ k ≤ 3) ∧ (k = 0 ∨ k = 3 ∨ ((1 ≤ p ∧ p ≤ 60) ∧ (1 ≤ b ∧ b ≤ p)))) ↔ ((0 ≤ k ∧ k ≤ 3) ∧ (k = 1 ∨ k = 2 → (1 ≤ p ∧ p ≤ 60) ∧ 1 ≤ b ∧ b ≤ p)) := by omega
  by_cases c1 : (0 ≤ k ∧ k ≤ 3) ∧ (k = 1 ∨ k = 2 → (1 ≤ p ∧ p ≤ 60) ∧ 1 ≤ b ∧ b ≤ p)
  · rw [if_pos (e.2 c1), if_pos c1]
    by_cases c2 : A 0 8 ≠ 0
    · rw [if_neg c2, if_pos c2]
    · rw [if_pos (by omega), if_neg c2]
  · rw [if_neg (fun q => c1 (e.1 q)), if_neg c1]
theorem sd_rc_0 {A : am_M} {k b p : Int} (h : sd_rc A k b p = 0) : ((0 ≤ k ∧ k ≤ 3) ∧ (k = 1 ∨ k = 2 → (1 ≤ p ∧ p ≤ 60) ∧ 1 ≤ b ∧ b ≤ p)) ∧ A 0 8 = 0 := by
  unfold sd_rc at h
  by_cases c1 : (0 ≤ k ∧ k ≤ 3) ∧ (k = 1 ∨ k = 2 → (1 ≤ p ∧ p ≤ 60) ∧ 1 ≤ b ∧ b ≤ p)
  · rw [if_pos c1] at h
    by_cases c2 : A 0 8 ≠ 0
    · rw [if_pos c2] at h; exact absurd h (by decide)
    · exact ⟨c1, by omega⟩
  · rw [if_neg c1] at h; exact absurd h (by decide)
theorem sd_rX_k {k b p : Int} {A : am_M} {a j : Nat} (h : a ≠ 8) (h2 : a ≠ 9) : sd_rX k b p A a j = A a j := by
  unfold sd_rX
  simp only [g_RB_keep]
  split
  · rw [am_up_k _ _ h2, am_up_k _ _ h]
  · rfl
theorem sd_rX_8 {k b p : Int} {A : am_M} {j : Nat} : sd_rX k b p A 8 j = (if (k = 1 ∨ k = 2) ∧ j = k.toNat then b else A 8 j) ∧ sd_rX k b p A 9 j = (if (k = 1 ∨ k = 2) ∧ j = k.toNat then p else A 9 j) := by
  unfold sd_rX
  simp only [g_RB_keep]
  by_cases c : k = 1 ∨ k = 2
  · rw [if_pos c]
    by_cases q : j = k.toNat
    · rw [if_pos ⟨c, q⟩, if_pos ⟨c, q⟩, q, am_up_k _ _ (by decide), am_up_s, am_up_s]
      exact ⟨rfl, rfl⟩
    · rw [if_neg (fun w => q w.2), if_neg (fun w => q w.2), am_up_j _ _ q, am_up_j _ _ q, am_up_j _ _ q, am_up_k _ _ (by decide)]
      exact ⟨rfl, rfl⟩
  · rw [if_neg c, if_neg (fun w => c w.1), if_neg (fun w => c w.1)]
    exact ⟨rfl, rfl⟩
theorem mo_rX_k {k b p : Int} {B : am_M} {a j : Nat} (h : a ≠ 50 ∨ j ≠ 0) (h1 : a ≠ 56) (h2 : a ≠ 57) : mo_rX B k b p a j = B a j := by
  unfold mo_rX
  rw [am_up_k _ _ h2, am_up_k _ _ h1]
  by_cases c : a = 50
  · exact am_up_j _ _ (by omega)
  · exact am_up_k _ _ c
theorem mo_rX_5 {k b p : Int} {B : am_M} {j : Nat} : mo_rX B k b p 56 j = (if j = k.toNat then b else B 56 j) ∧ mo_rX B k b p 57 j = (if j = k.toNat then p else B 57 j) := by
  unfold mo_rX
  by_cases q : j = k.toNat
  · rw [if_pos q, if_pos q, q, am_up_k _ _ (by decide), am_up_s, am_up_s]
    exact ⟨rfl, rfl⟩
  · rw [if_neg q, if_neg q, am_up_j _ _ q, am_up_j _ _ q, am_up_j _ _ q, am_up_k _ _ (by decide), am_up_k _ _ (by decide), am_up_k _ _ (by decide)]
    exact ⟨rfl, rfl⟩
/-- the rules, when one is told -/
theorem lw_rX {A B : am_M} {k b p : Int} (h : lw_I A B) (hc : sd_rc A k b p = 0) : lw_I (sd_rX k b p A) (mo_rX B k b p) ∧ mo_a (mo_rX B k b p) k = ts_a (sd_rX k b p A) k := by
  obtain ⟨c1, c2⟩ := sd_rc_0 hc
  obtain ⟨⟨h1, h2, h3, h4, h5, h6, h7, h8, h8b, h9⟩, ⟨a1, a2, a3, a4, a5⟩, hL, ⟨z1, z2, z3, z4, z5, z6, z7, z8⟩⟩ := h
  have eA : ∀ a j, a ≠ 8 → a ≠ 9 → sd_rX k b p A a j = A a j := fun a j x y => sd_rX_k x y
  have eB : ∀ a j, a ≠ 50 → a ≠ 56 → a ≠ 57 → mo_rX B k b p a j = B a j := fun a j x y z => mo_rX_k (Or.inl x) y z
  have eB5 : ∀ j, j ≠ 0 → mo_rX B k b p 50 j = B 50 j := fun j x => mo_rX_k (Or.inr x) (by decide) (by decide)
  have t1 : vr_T (sd_rX k b p A) (mo_rX B k b p) := vr_T_of h1 (fun k j _ _ => eA k j (by omega) (by omega)) (eB5 1 (by decide)) (fun k j _ _ => eB k j (by omega) (by omega) (by omega))
  have t2 : ts_ok (sd_rX k b p A) := ts_ok_of h2 (fun k j _ _ => eA k j (by omega) (by omega))
  have vb : ∀ j : Nat, j = 1 ∨ j = 2 → mo_rX B k b p 56 j = sd_rX k b p A 8 j ∧ mo_rX B k b p 57 j = sd_rX k b p A 9 j := fun j hj => by
    rw [mo_rX_5.1, mo_rX_5.2, sd_rX_8.1, sd_rX_8.2]
    by_cases q : j = k.toNat
    · rw [if_pos q, if_pos q, if_pos ⟨by omega, q⟩, if_pos ⟨by omega, q⟩]
      exact ⟨rfl, rfl⟩
    · rw [if_neg q, if_neg q, if_neg (fun w => q w.2), if_neg (fun w => q w.2)]
      rcases hj with e | e <;> subst e
      · exact ⟨h6.1.1, h6.1.2⟩
      · exact ⟨h6.2.1, h6.2.2⟩
  have v1 := vb 1 (by decide)
  have v2 := vb 2 (by decide)
  have vB : vr_B (sd_rX k b p A) (mo_rX B k b p) := ⟨v1, v2⟩
  have rb : ∀ j : Nat, j = 1 ∨ j = 2 → 1 ≤ sd_rX k b p A 9 j ∧ sd_rX k b p A 9 j ≤ 60 ∧ 1 ≤ sd_rX k b p A 8 j ∧ sd_rX k b p A 8 j ≤ sd_rX k b p A 9 j := fun j hj => by
    rw [sd_rX_8.1, sd_rX_8.2]
    by_cases q : (k = 1 ∨ k = 2) ∧ j = k.toNat
    · rw [if_pos q, if_pos q]
      have := c1.2 q.1
      omega
    · rw [if_neg q, if_neg q]
      rcases hj with e | e <;> subst e
      · exact h7.1
      · exact h7.2.1
  have hy : ∀ n, mo_hy (mo_rX B k b p) n = mo_hy B n := fun n => mo_hy_c2 n (fun j _ => eB 51 j (by decide) (by decide) (by decide))
  refine ⟨⟨⟨t1, t2, ts_pm_of h3 (fun k j _ _ => eA k j (by omega) (by omega)), ?_, fun n hn => ?_, vB, ⟨rb 1 (by decide), rb 2 (by decide), by rw [eA 7 2 (by decide) (by decide)]; exact h7.2.2⟩, fun j hj => ?_, fun j hj => ?_, ?_⟩, ⟨?_, ?_, ?_, fun q => ?_, fun q => ?_⟩, lw_L_of hL (fun k j hk => eA k j (by omega) (by omega)) (by rw [eA 0 9 (by decide) (by decide)]; exact Int.le_refl _) (eB5 11 (by decide)) (eB5 15 (by decide)) (fun k j _ _ => eB k j (by omega) (by omega) (by omega)), cv_0_of z1 (fun k j _ _ => eA k j (by omega) (by omega)) (fun j => eA 13 j (by decide) (by decide)) (fun k j _ _ => eA k j (by omega) (by omega)), cv_0_of z2 (fun k j _ _ => eA k j (by omega) (by omega)) (fun j => eA 13 j (by decide) (by decide)) (fun k j _ _ => eA k j (by omega) (by omega)), re_0_of z3 (fun k j hk => eB k j (by omega) (by omega) (by omega)), re_b_of z4 (fun k j _ _ => eB k j (by omega) (by omega) (by omega)), fun j hj => ?_, fun q hq => ?_, fun q hq => ?_, ?_⟩, vr_a t1 vB t2 k⟩
  · unfold vr_H; rw [eA 1 6 (by decide) (by decide), hy, eB5 1 (by decide)]; exact h4
  · rw [hy]; exact h5 n (by rw [← eB5 1 (by decide)]; exact hn)
  · rw [sd_rX_8.2]
    split
    · rename_i w; have := c1.2 w.1; omega
    · exact h8 j hj
  · rw [eA 4 j (by decide) (by decide)]; exact h8b j hj
  · rw [eB5 7 (by decide), eA 7 2 (by decide) (by decide)]; exact h9
  · rw [eB5 10 (by decide), eA 0 8 (by decide) (by decide)]; exact a1
  · rw [eB5 19 (by decide), eA 0 9 (by decide) (by decide)]; exact a2
  · rw [eA 32 3 (by decide) (by decide), eA 10 3 (by decide) (by decide), eB5 26 (by decide)]; exact a3
  · rw [eA 0 8 (by decide) (by decide)] at q; omega
  · rw [eA 0 9 (by decide) (by decide), eA 10 3 (by decide) (by decide), eA 14 3 (by decide) (by decide), eA 26 6 (by decide) (by decide), eA 32 4 (by decide) (by decide), eA 35 4 (by decide) (by decide), eB5 29 (by decide), eB5 20 (by decide)]
    exact a5 c2
  · rw [eB 60 j (by decide) (by decide) (by decide), eA 13 j (by decide) (by decide)]; exact z5 j hj
  · rw [eA 49 q (by decide) (by decide), eB 70 q (by decide) (by decide) (by decide)]
    rw [eA 0 9 (by decide) (by decide)] at hq
    exact z6 q hq
  · rw [eB 70 q (by decide) (by decide) (by decide)]; exact z7 q hq
  · rw [eA 48 3 (by decide) (by decide), eA 48 4 (by decide) (by decide), eA 48 5 (by decide) (by decide), eB5 43 (by decide), eB5 44 (by decide), eB5 45 (by decide)]; exact z8
/-- the rule that counts, not started -/
theorem lw_cur {A B : am_M} {k : Int} (h : lw_I A B) (h0 : A 0 8 = 0) (hk : 0 ≤ k ∧ k ≤ 3) : lw_I (am_up A 7 2 k) (am_up B 50 7 k) := by
  obtain ⟨⟨h1, h2, h3, h4, h5, h6, h7, h8, h8b, h9⟩, ⟨a1, a2, a3, a4, a5⟩, hL, ⟨z1, z2, z3, z4, z5, z6, z7, z8⟩⟩ := h
  have eA : ∀ a j, a ≠ 7 → am_up A 7 2 k a j = A a j := fun a j x => am_up_k _ _ x
  have eB : ∀ a j, a ≠ 50 ∨ j ≠ 7 → am_up B 50 7 k a j = B a j := fun a j x => by
    by_cases c : a = 50
    · exact am_up_j _ _ (by omega)
    · exact am_up_k _ _ c
  have hy : ∀ n, mo_hy (am_up B 50 7 k) n = mo_hy B n := fun n => mo_hy_c2 n (fun j _ => eB 51 j (by omega))
  refine ⟨⟨vr_T_of h1 (fun k j _ _ => eA k j (by omega)) (eB 50 1 (by omega)) (fun k j _ _ => eB k j (by omega)), ?_, ?_, ?_, fun n hn => ?_, ?_, ?_, fun j hj => ?_, fun j hj => ?_, ?_⟩, ⟨?_, ?_, ?_, fun q => ?_, fun q => ?_⟩, lw_L_of hL (fun k j hk => eA k j (by omega)) (by rw [eA 0 9 (by decide)]; exact Int.le_refl _) (eB 50 11 (by omega)) (eB 50 15 (by omega)) (fun k j _ _ => eB k j (by omega)), cv_0_of z1 (fun k j _ _ => eA k j (by omega)) (fun j => eA 13 j (by decide)) (fun k j _ _ => eA k j (by omega)), cv_0_of z2 (fun k j _ _ => eA k j (by omega)) (fun j => eA 13 j (by decide)) (fun k j _ _ => eA k j (by omega)), re_0_of z3 (fun k j hk => eB k j (by omega)), re_b_of z4 (fun k j _ _ => eB k j (by omega)), fun j hj => ?_, fun q hq => ?_, fun q hq => ?_, ?_⟩
  · exact ts_ok_of h2 (fun k j _ _ => eA k j (by omega))
  · exact ts_pm_of h3 (fun k j _ _ => eA k j (by omega))
  · unfold vr_H; rw [eA 1 6 (by decide), hy, eB 50 1 (by omega)]; exact h4
  · rw [hy]; exact h5 n (by rw [← eB 50 1 (by omega)]; exact hn)
  · unfold vr_B; rw [eB 56 1 (by omega), eB 57 1 (by omega), eB 56 2 (by omega), eB 57 2 (by omega), eA 8 1 (by decide), eA 8 2 (by decide), eA 9 1 (by decide), eA 9 2 (by decide)]; exact h6
  · unfold rb_ok; rw [eA 8 1 (by decide), eA 8 2 (by decide), eA 9 1 (by decide), eA 9 2 (by decide), am_up_s]; exact ⟨h7.1, h7.2.1, hk⟩
  · rw [eA 9 j (by decide)]; exact h8 j hj
  · rw [eA 4 j (by decide)]; exact h8b j hj
  · rw [am_up_s, am_up_s]
  · rw [eB 50 10 (by omega), eA 0 8 (by decide)]; exact a1
  · rw [eB 50 19 (by omega), eA 0 9 (by decide)]; exact a2
  · rw [eA 32 3 (by decide), eA 10 3 (by decide), eB 50 26 (by omega)]; exact a3
  · rw [eA 0 8 (by decide)] at q; omega
  · rw [eA 0 9 (by decide), eA 10 3 (by decide), eA 14 3 (by decide), eA 26 6 (by decide), eA 32 4 (by decide), eA 35 4 (by decide), eB 50 29 (by omega), eB 50 20 (by omega)]
    exact a5 h0
  · rw [eB 60 j (by omega), eA 13 j (by decide)]; exact z5 j hj
  · rw [eA 49 q (by decide), eB 70 q (by omega)]
    rw [eA 0 9 (by decide)] at hq
    exact z6 q hq
  · rw [eB 70 q (by omega)]; exact z7 q hq
  · rw [eA 48 3 (by decide), eA 48 4 (by decide), eA 48 5 (by decide), eB 50 43 (by omega), eB 50 44 (by omega), eB 50 45 (by omega)]; exact z8
/-- A RULE -/
theorem sd_rule {A B : am_M} {k b p : Int} (h : lw_I A B) : lw_I (if sd_rc A k b p = 0 then sd_rg k b p A else A) (g_MO_rule [.inr (.inl 50), .inl k, .inl b, .inl p] B) ∧ f_MO_rule [.inr (.inl 50), .inl k, .inl b, .inl p] B = some (.inl (if sd_rc A k b p = 0 then ts_a (sd_rX k b p A) k else 0)) := by
  have ec := sd_rc_eq (k := k) (b := b) (p := p) h
  simp only [g_MO_rule, f_MO_rule]
  rw [ec]
  by_cases z : sd_rc A k b p = 0
  · obtain ⟨w1, w2⟩ := lw_rX h z
    rw [if_pos z, if_pos z, if_pos z, if_pos z, w2]
    refine ⟨?_, rfl⟩
    unfold sd_rg
    by_cases c : ts_a (sd_rX k b p A) k = 0
    · rw [if_pos c, if_pos c]; exact w1
    · rw [if_neg c, if_neg c]
      exact lw_cur w1 (by rw [sd_rX_k (by decide) (by decide)]; exact (sd_rc_0 z).2) (sd_rc_0 z).1.1
  · rw [if_neg z, if_neg z, if_neg z, if_neg z]
    exact ⟨lw_code h, rfl⟩
theorem sd_rule_P {A B : am_M} {k b p : Int} (h : lw_I A B) (hR : am_R k ∧ am_R b ∧ am_R p) : P_MO_rule [.inr (.inl 50), .inl k, .inl b, .inl p] B := by
  obtain ⟨⟨h1, h2, h3, h4, h5, h6, h7, h8, h8b, h9⟩, ⟨⟨a1, a1'⟩, a2, a3, a4, a5⟩, hL, hZ⟩ := h
  exact ⟨rfl, hR, vr_ok h1 h2, vr_rb h6 h7, ⟨by omega, by omega⟩⟩
/-- START -/
def sd_sc (A : am_M) : Int := if A 0 8 ≠ 0 ∨ ts_a A (A 7 2) = 0 then 1 else 0
def sd_sg (A : am_M) : am_M := g_CO_begin [.inr (.inl 26), .inr (.inl 7), .inl (A 7 2)] (am_up A 0 8 1)
theorem sd_sc_eq {A B : am_M} (h : lw_I A B) : mo_sc B = sd_sc A := by
  obtain ⟨⟨h1, h2, h3, h4, h5, h6, h7, h8, h8b, h9⟩, ⟨⟨a1, a1'⟩, a2, a3, a4, a5⟩, hL, hZ⟩ := h
  unfold mo_sc sd_sc
  rw [a1, h9, vr_a h1 h6 h2]
  by_cases c : A 0 8 ≠ 0 ∨ ts_a A (A 7 2) = 0
  · rw [if_pos c, if_neg (by omega)]
  · rw [if_neg c, if_pos (by omega)]
theorem sd_start_P {A B : am_M} (h : lw_I A B) : P_MO_start [.inr (.inl 50)] B := by
  obtain ⟨⟨h1, h2, h3, h4, h5, h6, h7, h8, h8b, h9⟩, ⟨⟨a1, a1'⟩, a2, a3, a4, a5⟩, hL, hZ⟩ := h
  exact ⟨rfl, by rw [h9]; exact h7.2.2, vr_ok h1 h2, vr_rb h6 h7, ⟨by omega, by omega⟩⟩
theorem sd_start {A B : am_M} (h : lw_I A B) : lw_I (if sd_sc A = 0 then sd_sg A else A) (g_MO_start [.inr (.inl 50)] B) := by
  have ec := sd_sc_eq h
  simp only [g_MO_start]
  rw [ec]
  by_cases z : sd_sc A = 0
  · rw [if_pos z, if_pos z]
    obtain ⟨⟨h1, h2, h3, h4, h5, h6, h7, h8, h8b, h9⟩, ⟨⟨a1, a1'⟩, a2, a3, a4, a5⟩, hL, ⟨z1, z2, z3, z4, z5, z6, z7, z8⟩⟩ := h
    unfold sd_sc at z
    by_cases c : A 0 8 ≠ 0 ∨ ts_a A (A 7 2) = 0
    · rw [if_pos c] at z; exact absurd z (by decide)
    · have s0 : A 0 8 = 0 := by omega
      obtain ⟨b1, b2, b3, b4, b5, b6, b7⟩ := a5 s0
      have eA0 : ∀ a j, a ≠ 0 → am_up A 0 8 1 a j = A a j := fun a j x => am_up_k _ _ x
      have eB0 : ∀ a j, a ≠ 50 ∨ (j ≠ 0 ∧ j ≠ 10) → am_up (am_up B 50 0 0) 50 10 1 a j = B a j := fun a j x => by
        by_cases w : a = 50
        · rw [am_up_j _ _ (by omega), am_up_j _ _ (by omega)]
        · rw [am_up_k _ _ w, am_up_k _ _ w]
      have k3 := h7.2.2
      have C := cv_begin (d := 26) (k := A 7 2) (A := am_up A 0 8 1) (B := am_up (am_up B 50 0 0) 50 10 1) (Or.inl rfl) (vr_T_of h1 (fun k j _ _ => eA0 k j (by omega)) (eB0 50 1 (by omega)) (fun k j _ _ => eB0 k j (by omega))) (ts_ok_of h2 (fun k j _ _ => eA0 k j (by omega))) (ts_pm_of h3 (fun k j _ _ => eA0 k j (by omega))) (by unfold vr_B; rw [eB0 56 1 (by omega), eB0 57 1 (by omega), eB0 56 2 (by omega), eB0 57 2 (by omega), eA0 8 1 (by omega), eA0 8 2 (by omega), eA0 9 1 (by omega), eA0 9 2 (by omega)]; exact h6) (by unfold rb_ok; rw [eA0 8 1 (by omega), eA0 8 2 (by omega), eA0 9 1 (by omega), eA0 9 2 (by omega), eA0 7 2 (by omega)]; exact h7) (by rw [eA0 9 _ (by omega)]; exact h8 _ (by omega)) k3 (by rw [mo_a_of (eB0 50 1 (by omega)) (fun k j _ _ => eB0 k j (by omega)), vr_a h1 h6 h2]; omega) (cv_0_of z1 (fun k j _ _ => eA0 k j (by omega)) (fun j => eA0 13 j (by omega)) (fun k j _ _ => eA0 k j (by omega))) (re_0_of z3 (fun k j hk => eB0 k j (by omega)))
      rw [h9]
      have e1 : ∀ a j, a < 26 ∨ 36 < a → sd_sg A a j = am_up A 0 8 1 a j := fun a j x => co_bg_k (by omega)
      have eA : ∀ a j, 1 ≤ a → a < 26 ∨ 36 < a → sd_sg A a j = A a j := fun a j x y => (e1 a j y).trans (eA0 a j (by omega))
      have f1 : ∀ a j, a ≠ 50 → a < 64 ∨ 67 < a → g_MO_begin [.inr (.inl 50), .inl (A 7 2)] (am_up (am_up B 50 0 0) 50 10 1) a j = B a j := fun a j x y => (mo_bg_k x y).trans (eB0 a j (by omega))
      have f5 : ∀ j, j ≠ 19 → j ≠ 20 → j ≠ 24 → j ≠ 26 → j ≠ 29 → j ≠ 0 → j ≠ 10 → g_MO_begin [.inr (.inl 50), .inl (A 7 2)] (am_up (am_up B 50 0 0) 50 10 1) 50 j = B 50 j := fun j x1 x2 x3 x4 x5 x6 x7 => (mo_bg_50 x1 x2 x3 x4 x5).trans (eB0 50 j (by omega))
      have f10 : g_MO_begin [.inr (.inl 50), .inl (A 7 2)] (am_up (am_up B 50 0 0) 50 10 1) 50 10 = 1 := (mo_bg_50 (by decide) (by decide) (by decide) (by decide) (by decide)).trans (am_up_s _ _ _ _)
      have e08 : sd_sg A 0 8 = 1 := (e1 0 8 (by omega)).trans (am_up_s _ _ _ _)
      have e09 : sd_sg A 0 9 = 0 := (e1 0 9 (by omega)).trans ((am_up_j _ _ (by decide)).trans b1)
      obtain ⟨v1, v2, v3, v4, v5⟩ := mo_bg_v (B := am_up (am_up B 50 0 0) 50 10 1) (k := A 7 2)
      obtain ⟨cI, cb, rb, rq⟩ := C
      refine ⟨lw_T_of ⟨h1, h2, h3, h4, h5, h6, h7, h8, h8b, h9⟩ (fun k j _ _ => eA k j (by omega) (by omega)) ⟨f5 1 (by decide) (by decide) (by decide) (by decide) (by decide) (by decide) (by decide), f5 7 (by decide) (by decide) (by decide) (by decide) (by decide) (by decide) (by decide)⟩ (fun k j _ _ => f1 k j (by omega) (by omega)), ⟨⟨by rw [f10, e08], Or.inr e08⟩, ⟨by rw [v1, e09], by omega, by omega⟩, ⟨?_, ?_⟩, fun _ => ⟨?_, ?_⟩, fun q => by omega⟩, lw_L_of hL (fun k j hk => eA k j (by omega) (by omega)) (by omega) (f5 11 (by decide) (by decide) (by decide) (by decide) (by decide) (by decide) (by decide)) (f5 15 (by decide) (by decide) (by decide) (by decide) (by decide) (by decide) (by decide)) (fun k j _ _ => f1 k j (by omega) (by omega)), ⟨cb.1, cb.2.2.2.1, cb.2.2.2.2⟩, cv_0_of z2 (fun k j _ _ => eA k j (by omega) (by omega)) (fun j => eA 13 j (by omega) (by omega)) (fun k j _ _ => eA k j (by omega) (by omega)), fun j hj => ?_, rb, fun j hj => ?_, fun q hq => ?_, fun q hq => ?_, ?_⟩
      · rw [show sd_sg A 32 3 = 0 from (co_bg_v (d := 26) (k := A 7 2) (A := am_up A 0 8 1) (by omega)).2.1.1, eA 10 3 (by omega) (by omega), b2]
      · rw [v4, eA 10 3 (by omega) (by omega), b2]
      · rw [e09]; exact ⟨cI, cb, rb, rq⟩
      · rw [show sd_sg A 26 5 = A 7 2 from (co_bg_v (d := 26) (k := A 7 2) (A := am_up A 0 8 1) (by omega)).1.1, eA 7 2 (by omega) (by omega)]
      · rw [f1 60 j (by omega) (by omega), f1 68 j (by omega) (by omega)]; exact z3 j hj
      · rw [f1 60 j (by omega) (by omega), eA 13 j (by omega) (by omega)]; exact z5 j hj
      · rw [e09] at hq; omega
      · rw [f1 70 q (by omega) (by omega)]; exact z7 q hq
      · rw [eA 48 3 (by omega) (by omega), eA 48 4 (by omega) (by omega), eA 48 5 (by omega) (by omega), f5 43 (by decide) (by decide) (by decide) (by decide) (by decide) (by decide) (by decide), f5 44 (by decide) (by decide) (by decide) (by decide) (by decide) (by decide) (by decide), f5 45 (by decide) (by decide) (by decide) (by decide) (by decide) (by decide) (by decide)]; exact z8
  · rw [if_neg z, if_neg z]
    exact lw_code h
