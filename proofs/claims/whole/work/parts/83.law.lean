/-! THE LAW'S INVARIANT: class (A) and reference (B) -/
def lw_T (A B : am_M) : Prop := vr_T A B ∧ ts_ok A ∧ ts_pm A ∧ vr_H A B ∧ (∀ n : Nat, (n : Int) ≤ B 50 1 → 1 ≤ mo_hy B n ∧ mo_hy B n ≤ 2000) ∧ vr_B A B ∧ rb_ok A ∧ (∀ j, j < 4 → 1 ≤ A 9 j ∧ A 9 j ≤ 60) ∧ (∀ j, j < 5 → 0 ≤ A 4 j ∧ A 4 j ≤ 60) ∧ B 50 7 = A 7 2
def lw_R (A B : am_M) : Prop := (B 50 10 = A 0 8 ∧ (A 0 8 = 0 ∨ A 0 8 = 1)) ∧ (B 50 19 = A 0 9 ∧ 0 ≤ A 0 9 ∧ A 0 9 ≤ 2000) ∧ (A 32 3 = A 10 3 ∧ B 50 26 = A 10 3) ∧ (A 0 8 = 1 → cv_A 26 (A 0 9) A B ∧ A 26 5 = A 7 2) ∧ (A 0 8 = 0 → A 0 9 = 0 ∧ A 10 3 = 0 ∧ A 14 3 = 0 ∧ (A 26 6 = 0 ∧ B 50 29 = 0) ∧ A 32 4 = 0 ∧ A 35 4 = 0 ∧ B 50 20 = 0)
def lw_L (A B : am_M) : Prop := lg_J A B ∧ lg_E A B ∧ (∀ j : Nat, (j : Int) < A 10 3 → A 11 j ≤ A 0 9) ∧ ∀ j : Nat, (j : Int) < A 14 3 → A 15 j ≤ A 0 9
def lw_Z (A B : am_M) : Prop := cv_0 26 A ∧ cv_0 37 A ∧ re_0 B ∧ re_b B ∧ (∀ j, j < 40 → B 60 j = A 13 j) ∧ (∀ q : Nat, (q : Int) < A 0 9 → A 49 q = B 70 q) ∧ (∀ q, q < 2001 → -50 ≤ B 70 q ∧ B 70 q ≤ 50) ∧ (A 48 3 = B 50 43 ∧ A 48 4 = B 50 44 ∧ A 48 5 = B 50 45)
def lw_I (A B : am_M) : Prop := lw_T A B ∧ lw_R A B ∧ lw_L A B ∧ lw_Z A B
/-- the class's cells lie below 50, the reference's from 50 on -/
theorem lw_T_of {A B A' B' : am_M} (h : lw_T A B) (e : ∀ k j, 1 ≤ k → k ≤ 9 → A' k j = A k j) (e1 : B' 50 1 = B 50 1 ∧ B' 50 7 = B 50 7) (e2 : ∀ k j, 51 ≤ k → k ≤ 57 → B' k j = B k j) : lw_T A' B' := by
  obtain ⟨h1, h2, h3, h4, h5, h6, h7, h8, h8b, h9⟩ := h
  have hy : ∀ n, mo_hy B' n = mo_hy B n := fun n => mo_hy_c2 n (fun j _ => e2 51 j (by omega) (by omega))
  refine ⟨vr_T_of h1 (fun k j _ _ => e k j (by omega) (by omega)) e1.1 (fun k j _ _ => e2 k j (by omega) (by omega)), ts_ok_of h2 (fun k j _ _ => e k j (by omega) (by omega)), ts_pm_of h3 (fun k j _ _ => e k j (by omega) (by omega)), ?_, fun n hn => ?_, ?_, ?_, fun j hj => ?_, fun j hj => ?_, ?_⟩
  · unfold vr_H; rw [e 1 6 (by omega) (by omega), hy, e1.1]; exact h4
  · rw [hy]; exact h5 n (by rw [← e1.1]; exact hn)
  · unfold vr_B; rw [e2 56 1 (by omega) (by omega), e2 57 1 (by omega) (by omega), e2 56 2 (by omega) (by omega), e2 57 2 (by omega) (by omega), e 8 1 (by omega) (by omega), e 8 2 (by omega) (by omega), e 9 1 (by omega) (by omega), e 9 2 (by omega) (by omega)]; exact h6
  · unfold rb_ok; rw [e 8 1 (by omega) (by omega), e 8 2 (by omega) (by omega), e 9 1 (by omega) (by omega), e 9 2 (by omega) (by omega), e 7 2 (by omega) (by omega)]; exact h7
  · rw [e 9 j (by omega) (by omega)]; exact h8 j hj
  · rw [e 4 j (by omega) (by omega)]; exact h8b j hj
  · rw [e1.2, e 7 2 (by omega) (by omega)]; exact h9
theorem cv_b_of {d : Nat} {m : Int} {A A' : am_M} (h : cv_b d m A) (e : ∀ k j, d + 1 ≤ k → k ≤ d + 10 → A' k j = A k j) (e2 : ∀ j, A' 13 j = A 13 j) (e3 : ∀ k j, 20 ≤ k → k ≤ 25 → A' k j = A k j) : cv_b d m A' := by
  obtain ⟨b1, b2, b3, b4, b5⟩ := h
  refine ⟨fun j hj => ?_, fun j hj => ?_, ?_, fun j hj => ?_, sm_x_of b5 e3⟩
  · rw [e _ j (by omega) (by omega), e _ j (by omega) (by omega), e _ j (by omega) (by omega), e _ j (by omega) (by omega)]; exact b1 j hj
  · rw [e _ j (by omega) (by omega)]; exact b2 j hj
  · rw [e _ 2 (by omega) (by omega)]; exact b3
  · rw [e _ j (by omega) (by omega), e2]; exact b4 j hj
theorem re_b_of {B B' : am_M} (h : re_b B) (e : ∀ k j, 64 ≤ k → k ≤ 66 → B' k j = B k j) : re_b B' := fun j hj => by
  rw [e 64 j (by omega) (by omega), e 65 j (by omega) (by omega), e 66 j (by omega) (by omega)]; exact h j hj
/-- a course of which other cells have changed -/
theorem cv_A_of {d : Nat} {m : Int} {A B A' B' : am_M} (h : cv_A d m A B) (e : ∀ k j, d ≤ k → k ≤ d + 10 → A' k j = A k j) (e1 : ∀ k j, 1 ≤ k → k ≤ 6 → A' k j = A k j) (e2 : ∀ j, A' 13 j = A 13 j) (e3 : ∀ k j, 20 ≤ k → k ≤ 25 → A' k j = A k j) (f1 : B' 50 1 = B 50 1) (f19 : B' 50 19 = B 50 19) (f20 : B' 50 20 = B 50 20) (f24 : B' 50 24 = B 50 24) (f26 : B' 50 26 = B 50 26) (f29 : B' 50 29 = B 50 29) (f : ∀ k j, 51 ≤ k → k ≤ 57 ∨ k = 60 ∨ 64 ≤ k → k ≤ 69 → B' k j = B k j) : cv_A d m A' B' := by
  obtain ⟨⟨⟨v1, v2, v3, v4, v5, v6⟩, vp, vr, vl⟩, vc, vb, vq⟩ := h
  obtain ⟨r1, r2, r3, r4, r5⟩ := vr
  refine ⟨⟨⟨vr_T_of v1 e1 f1 (fun k j _ _ => f k j (by omega) (by omega) (by omega)), ts_ok_of v2 e1, vr_L_of v3 e1 (fun k j _ _ => e k j (by omega) (by omega)) (fun k j _ _ => f k j (by omega) (by omega) (by omega)), vr_Q_of v4 (fun k j _ _ => e k j (by omega) (by omega)) e2 f26 (fun k j hk => f k j (by omega) (by omega) (by omega)), ⟨by rw [f19]; exact v5.1, v5.2⟩, vr_U_of v6 (e d 5 (by omega) (by omega)) (fun k j _ _ => e k j (by omega) (by omega)) ⟨f20, f24⟩ (fun k j hk => f k j (by omega) (by omega) (by omega))⟩, ts_pm_of vp e1, ⟨by rw [f20]; exact r1, ?_, bg_of r3 f19 f20 f24 (fun k j hk => f k j (by omega) (by omega) (by omega)), fun c => ?_, fun c => ?_⟩, by rw [f29, e d 6 (by omega) (by omega)]; exact vl⟩, cv_b_of vc (fun k j _ _ => e k j (by omega) (by omega)) e2 e3, re_b_of vb (fun k j _ _ => f k j (by omega) (by omega) (by omega)), re_q_of vq f26 (fun k j hk => f k j (by omega) (by omega) (by omega))⟩
  · rw [f20, mo_a_of f1 (fun k j a b => f k j a (by omega) (by omega))]; exact r2
  · rw [f20] at c
    exact tl_I_of (r4 c) f1 f19 (fun k j a b c => f k j a (by omega) (by omega))
  · rw [f20] at c
    exact tl_J_of (r5 c) f1 f19 f20 (fun k j a b c => f k j a (by omega) (by omega))
theorem cv_0_of {d : Nat} {A A' : am_M} (h : cv_0 d A) (e : ∀ k j, d + 2 ≤ k → k ≤ d + 7 → A' k j = A k j) (e2 : ∀ j, A' 13 j = A 13 j) (e3 : ∀ k j, 20 ≤ k → k ≤ 25 → A' k j = A k j) : cv_0 d A' := by
  refine ⟨fun j hj => ?_, fun j hj => ?_, sm_x_of h.2.2 e3⟩
  · rw [e _ j (by omega) (by omega), e _ j (by omega) (by omega), e _ j (by omega) (by omega), e _ j (by omega) (by omega)]; exact h.1 j hj
  · rw [e _ j (by omega) (by omega), e2]; exact h.2.1 j hj
theorem re_0_of {B B' : am_M} (h : re_0 B) (e : ∀ k j, k = 60 ∨ k = 68 → B' k j = B k j) : re_0 B' := fun j hj => by
  rw [e 60 j (by decide), e 68 j (by decide)]; exact h j hj
theorem lw_L_of {A B A' B' : am_M} (h : lw_L A B) (e : ∀ k j, k = 1 ∨ k = 4 ∨ (10 ≤ k ∧ k ≤ 17) → A' k j = A k j) (e0 : A 0 9 ≤ A' 0 9) (f11 : B' 50 11 = B 50 11) (f15 : B' 50 15 = B 50 15) (f : ∀ k j, 58 ≤ k → k ≤ 63 → B' k j = B k j) : lw_L A' B' := by
  refine ⟨lg_J_of h.1 (fun k j _ _ => e k j (by omega)) f11 (fun k j _ _ => f k j (by omega) (by omega)), lg_E_of h.2.1 (fun k j hk => e k j (by omega)) f15 (fun k j _ _ => f k j (by omega) (by omega)), fun j hj => ?_, fun j hj => ?_⟩
  · rw [e 10 3 (by omega)] at hj
    rw [e 11 j (by omega)]
    have := h.2.2.1 j hj
    omega
  · rw [e 14 3 (by omega)] at hj
    rw [e 15 j (by omega)]
    have := h.2.2.2 j hj
    omega
/-- the law's invariant speaks of the class's cells in A, of the reference's in B -/
theorem lw_I_of {A B A' B' : am_M} (h : lw_I A B) (e : ∀ k j, k < 50 → A' k j = A k j) (f : ∀ k j, 50 ≤ k → k ≤ 70 → k ≠ 50 ∨ (j ≠ 0 ∧ (j < 31 ∨ 35 < j)) → B' k j = B k j) : lw_I A' B' := by
  obtain ⟨hT, ⟨a1, a2, a3, a4, a5⟩, hL, ⟨z1, z2, z3, z4, z5, z6, z7, z8⟩⟩ := h
  have f5 : ∀ j, (j ≠ 0 ∧ (j < 31 ∨ 35 < j)) → B' 50 j = B 50 j := fun j hj => f 50 j (by omega) (by omega) (Or.inr hj)
  have fk : ∀ k j, 51 ≤ k → k ≤ 70 → B' k j = B k j := fun k j a b => f k j (by omega) b (Or.inl (by omega))
  refine ⟨lw_T_of hT (fun k j _ _ => e k j (by omega)) ⟨f5 1 (by decide), f5 7 (by decide)⟩ (fun k j _ _ => fk k j (by omega) (by omega)), ⟨?_, ?_, ?_, fun c => ?_, fun c => ?_⟩, lw_L_of hL (fun k j hk => e k j (by omega)) (by rw [e 0 9 (by omega)]; exact Int.le_refl _) (f5 11 (by decide)) (f5 15 (by decide)) (fun k j _ _ => fk k j (by omega) (by omega)), cv_0_of z1 (fun k j _ _ => e k j (by omega)) (fun j => e 13 j (by omega)) (fun k j _ _ => e k j (by omega)), cv_0_of z2 (fun k j _ _ => e k j (by omega)) (fun j => e 13 j (by omega)) (fun k j _ _ => e k j (by omega)), re_0_of z3 (fun k j hk => fk k j (by omega) (by omega)), re_b_of z4 (fun k j _ _ => fk k j (by omega) (by omega)), fun j hj => ?_, fun q hq => ?_, fun q hq => ?_, ?_⟩
  · rw [f5 10 (by decide), e 0 8 (by omega)]; exact a1
  · rw [f5 19 (by decide), e 0 9 (by omega)]; exact a2
  · rw [e 32 3 (by omega), e 10 3 (by omega), f5 26 (by decide)]; exact a3
  · rw [e 0 8 (by omega)] at c
    rw [e 0 9 (by omega), e 26 5 (by omega), e 7 2 (by omega)]
    exact ⟨cv_A_of (a4 c).1 (fun k j _ _ => e k j (by omega)) (fun k j _ _ => e k j (by omega)) (fun j => e 13 j (by omega)) (fun k j _ _ => e k j (by omega)) (f5 1 (by decide)) (f5 19 (by decide)) (f5 20 (by decide)) (f5 24 (by decide)) (f5 26 (by decide)) (f5 29 (by decide)) (fun k j _ _ _ => fk k j (by omega) (by omega)), (a4 c).2⟩
  · rw [e 0 8 (by omega)] at c
    rw [e 0 9 (by omega), e 10 3 (by omega), e 14 3 (by omega), e 26 6 (by omega), e 32 4 (by omega), e 35 4 (by omega), f5 29 (by decide), f5 20 (by decide)]
    exact a5 c
  · rw [fk 60 j (by omega) (by omega), e 13 j (by omega)]; exact z5 j hj
  · rw [e 49 q (by omega), fk 70 q (by omega) (by omega)]
    rw [e 0 9 (by omega)] at hq
    exact z6 q hq
  · rw [fk 70 q (by omega) (by omega)]; exact z7 q hq
  · rw [e 48 3 (by omega), e 48 4 (by omega), e 48 5 (by omega), f5 43 (by decide), f5 44 (by decide), f5 45 (by decide)]; exact z8
