/-! the law's calls: reset, tick -/
def sd_z0 (A : am_M) : am_M := am_up (am_up (g_RB_clear [.inr (.inl 7)] (g_TS_clear [.inr (.inl 1)] A)) 10 3 0) 14 3 0
def sd_z1 (A : am_M) : am_M := g_RF_clear [.inr (.inl 48)] (g_CO_begin [.inr (.inl 26), .inr (.inl 7), .inl (sd_z0 A 7 2)] (sd_z0 A))
def sd_zg (A : am_M) : am_M := am_up (am_up (sd_z1 A) 0 8 0) 0 9 0
theorem sd_z0_k {A : am_M} {k j : Nat} (h : k = 0 ∨ (1 < k ∧ k < 7) ∨ (10 < k ∧ k ≠ 14)) : sd_z0 A k j = A k j := by
  unfold sd_z0
  simp only [g_RB_clear, g_TS_clear]
  rw [am_up_k _ _ (by omega), am_up_k _ _ (by omega), am_up_k _ _ (by omega)]
  simp only [am_fill]
  rw [if_neg (by omega), if_neg (by omega), am_up_k _ _ (by omega), am_up_k _ _ (by omega)]
theorem sd_z0_v {A : am_M} : sd_z0 A 1 5 = 0 ∧ sd_z0 A 1 6 = 1 ∧ sd_z0 A 7 2 = 0 ∧ sd_z0 A 10 3 = 0 ∧ sd_z0 A 14 3 = 0 ∧ (∀ j, j < 4 → sd_z0 A 8 j = 1 ∧ sd_z0 A 9 j = 60) := by
  unfold sd_z0
  simp only [g_RB_clear, g_TS_clear]
  refine ⟨?_, ?_, ?_, ?_, ?_, fun j hj => ⟨?_, ?_⟩⟩
  · rw [am_up_k _ _ (by decide), am_up_k _ _ (by decide), am_up_k _ _ (by decide)]
    simp only [am_fill]
    rw [if_neg (by omega), if_neg (by omega), am_up_j _ _ (by decide), am_up_s]
  · rw [am_up_k _ _ (by decide), am_up_k _ _ (by decide), am_up_k _ _ (by decide)]
    simp only [am_fill]
    rw [if_neg (by omega), if_neg (by omega), am_up_s]
  · rw [am_up_k _ _ (by decide), am_up_k _ _ (by decide), am_up_s]
  · rw [am_up_k _ _ (by decide), am_up_s]
  · rw [am_up_s]
  · rw [am_up_k _ _ (by decide), am_up_k _ _ (by decide), am_up_k _ _ (by decide)]
    simp only [am_fill]
    rw [if_neg (by omega), if_pos ⟨trivial, hj⟩]
  · rw [am_up_k _ _ (by decide), am_up_k _ _ (by decide), am_up_k _ _ (by decide)]
    simp only [am_fill]
    rw [if_pos ⟨trivial, hj⟩]
theorem sd_zg_k {A : am_M} {k j : Nat} (h : 0 < k) (h2 : k < 26 ∨ 36 < k) (h3 : k ≠ 48) : sd_zg A k j = sd_z0 A k j := by
  unfold sd_zg sd_z1
  rw [am_up_k _ _ (by omega), am_up_k _ _ (by omega)]
  simp only [g_RF_clear]
  rw [am_up_k _ _ h3, am_up_k _ _ h3, am_up_k _ _ h3]
  exact co_bg_k (by omega)
theorem sd_zg_l {A : am_M} {k j : Nat} (h2 : 26 ≤ k ∧ k ≤ 36) : sd_zg A k j = g_CO_begin [.inr (.inl 26), .inr (.inl 7), .inl (sd_z0 A 7 2)] (sd_z0 A) k j := by
  unfold sd_zg sd_z1
  rw [am_up_k _ _ (by omega), am_up_k _ _ (by omega)]
  simp only [g_RF_clear]
  rw [am_up_k _ _ (by omega), am_up_k _ _ (by omega), am_up_k _ _ (by omega)]
/-- the reference -/
def mo_zb (B : am_M) : am_M := mo_z1 4 (mo_z0 B)
theorem mo_zb_k {B : am_M} {k j : Nat} (h : k ≠ 50) (h2 : k ≠ 56) (h3 : k ≠ 57) : mo_zb B k j = B k j := by
  unfold mo_zb mo_z1 mo_z0
  simp only [am_fill]
  rw [if_neg (by omega), if_neg (by omega), am_up_k _ _ h, am_up_k _ _ h, am_up_k _ _ h, am_up_k _ _ h, am_up_k _ _ h, am_up_k _ _ h]
theorem mo_zb_v {B : am_M} : mo_zb B 50 1 = 0 ∧ mo_zb B 50 7 = 0 ∧ mo_zb B 50 10 = 0 ∧ mo_zb B 50 11 = 0 ∧ mo_zb B 50 15 = 0 ∧ (∀ j, j < 4 → mo_zb B 56 j = 1 ∧ mo_zb B 57 j = 60) := by
  unfold mo_zb mo_z1 mo_z0
  simp only [am_fill]
  refine ⟨?_, ?_, ?_, ?_, ?_, fun j hj => ⟨?_, ?_⟩⟩
  · rw [if_neg (by omega), if_neg (by omega), am_up_j _ _ (by decide), am_up_j _ _ (by decide), am_up_j _ _ (by decide), am_up_j _ _ (by decide), am_up_s]
  · rw [if_neg (by omega), if_neg (by omega), am_up_j _ _ (by decide), am_up_j _ _ (by decide), am_up_j _ _ (by decide), am_up_s]
  · rw [if_neg (by omega), if_neg (by omega), am_up_j _ _ (by decide), am_up_j _ _ (by decide), am_up_s]
  · rw [if_neg (by omega), if_neg (by omega), am_up_j _ _ (by decide), am_up_s]
  · rw [if_neg (by omega), if_neg (by omega), am_up_s]
  · rw [if_neg (by omega), if_pos ⟨trivial, hj⟩]
  · rw [if_pos ⟨trivial, hj⟩]
/-- RESET -/
theorem sd_reset {A B : am_M} (h : lw_I A B) : lw_I (sd_zg A) (mo_rs B) := by
  obtain ⟨⟨h1, h2, h3, h4, h5, h6, h7, h8, h8b, h9⟩, ⟨⟨a1, a1'⟩, a2, a3, a4, a5⟩, hL, ⟨z1, z2, z3, z4, z5, z6, z7, z8⟩⟩ := h
  obtain ⟨y1, y2, y3, y4, y5, y6⟩ := sd_z0_v (A := A)
  obtain ⟨x1, x2, x3, x4, x5, x6⟩ := mo_zb_v (B := B)
  obtain ⟨⟨c1, c2⟩, ⟨c3, c4⟩, ⟨c5, c6, c7, c8⟩, c9⟩ := co_bg_v (d := 26) (k := sd_z0 A 7 2) (A := sd_z0 A) (by omega)
  obtain ⟨v1, v2, v3, v4, v5⟩ := mo_bg_v (B := mo_zb B) (k := 0)
  obtain ⟨w1, w2⟩ := mo_bg_0 (B := mo_zb B) (k := 0)
  have er : ∀ a j, a ≠ 50 ∨ j < 43 → mo_rs B a j = g_MO_begin [.inr (.inl 50), .inl 0] (mo_zb B) a j := fun a j x => by
    unfold mo_rs mo_zb
    by_cases c : a = 50
    · rw [am_up_j _ _ (by omega), am_up_j _ _ (by omega), am_up_j _ _ (by omega)]
    · rw [am_up_k _ _ c, am_up_k _ _ c, am_up_k _ _ c]
  have eB : ∀ a j, a ≠ 50 → a ≠ 56 → a ≠ 57 → a < 64 ∨ 67 < a → mo_rs B a j = B a j := fun a j p1 p2 p3 p4 => (er a j (by omega)).trans ((mo_bg_k p1 p4).trans (mo_zb_k p1 p2 p3))
  have e5 : ∀ j, j = 1 ∨ j = 7 ∨ j = 10 ∨ j = 11 ∨ j = 15 → mo_rs B 50 j = 0 := fun j hj => (er 50 j (by omega)).trans ((mo_bg_50 (by omega) (by omega) (by omega) (by omega) (by omega)).trans (by rcases hj with e | e | e | e | e <;> subst e <;> assumption))
  have e56 : ∀ j, j < 4 → mo_rs B 56 j = 1 ∧ mo_rs B 57 j = 60 := fun j hj => by
    rw [er 56 j (by omega), er 57 j (by omega), mo_bg_k (by decide) (by omega), mo_bg_k (by decide) (by omega)]
    exact x6 j hj
  have eA : ∀ a j, 0 < a → a < 26 ∨ 36 < a → a ≠ 48 → sd_zg A a j = sd_z0 A a j := fun a j p1 p2 p3 => sd_zg_k p1 p2 p3
  have eA2 : ∀ a j, (1 < a ∧ a < 7) ∨ (10 < a ∧ a ≠ 14 ∧ a < 26) ∨ (36 < a ∧ a ≠ 48) → sd_zg A a j = A a j := fun a j p => (eA a j (by omega) (by omega) (by omega)).trans (sd_z0_k (by omega))
  have t15 : sd_zg A 1 5 = 0 := (eA 1 5 (by omega) (by omega) (by omega)).trans y1
  have t08 : sd_zg A 0 8 = 0 := (am_up_j _ _ (by decide)).trans (am_up_s _ _ _ _)
  have t09 : sd_zg A 0 9 = 0 := am_up_s _ _ _ _
  have n0 : mo_rs B 50 1 = 0 := e5 1 (by omega)
  have t10 : sd_zg A 10 3 = 0 := (eA 10 3 (by omega) (by omega) (by omega)).trans y4
  have t14 : sd_zg A 14 3 = 0 := (eA 14 3 (by omega) (by omega) (by omega)).trans y5
  have e26 : mo_rs B 50 26 = 0 := (er 50 26 (by omega)).trans v4
  have e19 : mo_rs B 50 19 = 0 := (er 50 19 (by omega)).trans v1
  have t48 : sd_zg A 48 3 = 0 ∧ sd_zg A 48 4 = 0 ∧ sd_zg A 48 5 = 0 := by
    unfold sd_zg sd_z1
    simp only [g_RF_clear]
    refine ⟨?_, ?_, ?_⟩
    · rw [am_up_k _ _ (by decide), am_up_k _ _ (by decide), am_up_j _ _ (by decide), am_up_j _ _ (by decide), am_up_s]
    · rw [am_up_k _ _ (by decide), am_up_k _ _ (by decide), am_up_j _ _ (by decide), am_up_s]
    · rw [am_up_k _ _ (by decide), am_up_k _ _ (by decide), am_up_s]
  have e43 : mo_rs B 50 43 = 0 ∧ mo_rs B 50 44 = 0 ∧ mo_rs B 50 45 = 0 := by
    unfold mo_rs
    refine ⟨?_, ?_, ?_⟩
    · rw [am_up_j _ _ (by decide), am_up_j _ _ (by decide), am_up_s]
    · rw [am_up_j _ _ (by decide), am_up_s]
    · rw [am_up_s]
  have cl : ∀ a j, 28 ≤ a ∧ a ≤ 31 → sd_zg A a j = A a j := fun a j p => by
    rw [sd_zg_l (by omega), co_bg_l (by omega)]
    simp only [g_LO_begin]
    rw [am_col_ge (by rw [y1]; omega)]
    exact sd_z0_k (by omega)
  have cq : ∀ j, sd_zg A 33 j = A 33 j := fun j => by
    rw [sd_zg_l (by omega), co_bg_k (by omega)]
    exact sd_z0_k (by omega)
  refine ⟨⟨⟨by rw [n0, t15], fun j hj => ?_⟩, ⟨by rw [t15]; omega, fun r hr => by rw [t15] at hr; omega⟩, ⟨fun r s hr => by rw [t15] at hr; omega, fun t ht => by rw [t15] at ht; omega⟩, ?_, fun n hn => ?_, ?_, ?_, fun j hj => ?_, fun j hj => ?_, ?_⟩, ⟨⟨by rw [t08, e5 10 (by omega)], Or.inl t08⟩, ⟨by rw [e19, t09], by omega, by omega⟩, ⟨?_, by rw [e26, t10]⟩, fun q => by omega, fun _ => ⟨t09, t10, t14, ⟨?_, (er 50 29 (by omega)).trans v5⟩, ?_, ?_, (er 50 20 (by omega)).trans v2⟩⟩, ⟨⟨⟨by rw [e5 11 (by omega), t10], by omega, by omega⟩, fun j hj => ?_, fun j hj => by omega, fun i j _ hj => by omega⟩, ⟨⟨by rw [e5 15 (by omega), t14], by omega, by omega⟩, fun j hj => ?_, fun j hj => by omega, fun i j _ hj => by omega⟩, fun j hj => by omega, fun j hj => by omega⟩, ⟨fun j hj => ?_, fun j hj => ?_, sm_x_of z1.2.2 (fun k j _ _ => eA2 k j (by omega))⟩, cv_0_of z2 (fun k j _ _ => eA2 k j (by omega)) (fun j => eA2 13 j (by omega)) (fun k j _ _ => eA2 k j (by omega)), fun j hj => ?_, fun j hj => ?_, fun j hj => ?_, fun q hq => by omega, fun q hq => ?_, by omega⟩
  · rw [eB 51 j (by decide) (by decide) (by decide) (by omega), eB 52 j (by decide) (by decide) (by decide) (by omega), eB 53 j (by decide) (by decide) (by decide) (by omega), eB 54 j (by decide) (by decide) (by decide) (by omega), eB 55 j (by decide) (by decide) (by decide) (by omega), eA2 2 j (by omega), eA2 3 j (by omega), eA2 4 j (by omega), eA2 5 j (by omega), eA2 6 j (by omega)]
    exact h1.2 j hj
  · unfold vr_H
    rw [n0, eA 1 6 (by omega) (by omega) (by omega), y2]
    rfl
  · rw [show n = 0 by omega]
    show (1 : Int) ≤ 1 ∧ (1 : Int) ≤ 2000
    omega
  · unfold vr_B
    rw [(e56 1 (by omega)).1, (e56 1 (by omega)).2, (e56 2 (by omega)).1, (e56 2 (by omega)).2, eA 8 1 (by omega) (by omega) (by omega), eA 8 2 (by omega) (by omega) (by omega), eA 9 1 (by omega) (by omega) (by omega), eA 9 2 (by omega) (by omega) (by omega), (y6 1 (by omega)).1, (y6 1 (by omega)).2, (y6 2 (by omega)).1, (y6 2 (by omega)).2]
    exact ⟨⟨rfl, rfl⟩, rfl, rfl⟩
  · unfold rb_ok
    rw [eA 8 1 (by omega) (by omega) (by omega), eA 8 2 (by omega) (by omega) (by omega), eA 9 1 (by omega) (by omega) (by omega), eA 9 2 (by omega) (by omega) (by omega), (y6 1 (by omega)).1, (y6 1 (by omega)).2, (y6 2 (by omega)).1, (y6 2 (by omega)).2, eA 7 2 (by omega) (by omega) (by omega), y3]
    omega
  · rw [eA 9 j (by omega) (by omega) (by omega), (y6 j hj).2]; omega
  · rw [eA2 4 j (by omega)]; exact h8b j hj
  · rw [e5 7 (by omega), eA 7 2 (by omega) (by omega) (by omega), y3]
  · rw [sd_zg_l (by omega), t10]; exact c3
  · rw [sd_zg_l (by omega)]; exact c2
  · rw [sd_zg_l (by omega)]; exact c4
  · rw [sd_zg_l (by omega), show g_CO_begin [.inr (.inl 26), .inr (.inl 7), .inl (sd_z0 A 7 2)] (sd_z0 A) 35 4 = _ from c8, y3, if_neg (by omega)]
  · rw [eA2 11 j (by omega)]; exact hL.1.2.1 j hj
  · rw [eA2 15 j (by omega), eA2 16 j (by omega), eA2 17 j (by omega)]; exact hL.2.1.2.1 j hj
  · rw [cl _ j (by omega), cl _ j (by omega), cl _ j (by omega), cl _ j (by omega)]; exact z1.1 j hj
  · rw [show sd_zg A (26 + 6 + 1) j = A (26 + 6 + 1) j from cq j, eA2 13 j (by omega)]; exact z1.2.1 j hj
  · rw [eB 60 j (by decide) (by decide) (by decide) (by omega), eB 68 j (by decide) (by decide) (by decide) (by omega)]; exact z3 j hj
  · rw [er 64 j (by omega), er 65 j (by omega), er 66 j (by omega), w1 64 j (by omega) (by omega) hj, w1 65 j (by omega) (by omega) hj, w1 66 j (by omega) (by omega) hj]; omega
  · rw [eB 60 j (by decide) (by decide) (by decide) (by omega), eA2 13 j (by omega)]; exact z5 j hj
  · rw [eB 70 q (by decide) (by decide) (by decide) (by omega)]; exact z7 q hq
