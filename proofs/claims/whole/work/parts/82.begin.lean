/-! a course begins -/
theorem mo_bg_k {B : am_M} {k : Int} {a j : Nat} (h : a ≠ 50) (h2 : a < 64 ∨ 67 < a) : g_MO_begin [.inr (.inl 50), .inl k] B a j = B a j := by
  simp only [g_MO_begin]
  unfold mo_b3 mo_b2 mo_b1
  rw [am_up_k _ _ h, am_up_k _ _ h]
  simp only [am_fill]
  rw [if_neg (by omega), am_up_k _ _ h]
  simp only [am_fill]
  rw [if_neg (by omega), if_neg (by omega), if_neg (by omega), am_up_k _ _ h, am_up_k _ _ h]
theorem mo_bg_50 {B : am_M} {k : Int} {j : Nat} (h1 : j ≠ 19) (h2 : j ≠ 20) (h3 : j ≠ 24) (h4 : j ≠ 26) (h5 : j ≠ 29) : g_MO_begin [.inr (.inl 50), .inl k] B 50 j = B 50 j := by
  simp only [g_MO_begin]
  unfold mo_b3 mo_b2 mo_b1
  rw [am_up_j _ _ h5, am_up_j _ _ h4]
  simp only [am_fill]
  rw [if_neg (by omega), am_up_j _ _ h3]
  simp only [am_fill]
  rw [if_neg (by omega), if_neg (by omega), if_neg (by omega), am_up_j _ _ h2, am_up_j _ _ h1]
theorem mo_bg_v {B : am_M} {k : Int} : g_MO_begin [.inr (.inl 50), .inl k] B 50 19 = 0 ∧ g_MO_begin [.inr (.inl 50), .inl k] B 50 20 = k ∧ g_MO_begin [.inr (.inl 50), .inl k] B 50 24 = (if k = 1 ∨ k = 2 then B 56 k.toNat else 0) ∧ g_MO_begin [.inr (.inl 50), .inl k] B 50 26 = 0 ∧ g_MO_begin [.inr (.inl 50), .inl k] B 50 29 = 0 := by
  simp only [g_MO_begin]
  unfold mo_b3 mo_b2 mo_b1
  refine ⟨?_, ?_, ?_, ?_, ?_⟩
  · rw [am_up_j _ _ (by decide), am_up_j _ _ (by decide)]
    simp only [am_fill]
    rw [if_neg (by omega), am_up_j _ _ (by decide)]
    simp only [am_fill]
    rw [if_neg (by omega), if_neg (by omega), if_neg (by omega), am_up_j _ _ (by decide), am_up_s]
  · rw [am_up_j _ _ (by decide), am_up_j _ _ (by decide)]
    simp only [am_fill]
    rw [if_neg (by omega), am_up_j _ _ (by decide)]
    simp only [am_fill]
    rw [if_neg (by omega), if_neg (by omega), if_neg (by omega), am_up_s]
  · rw [am_up_j _ _ (by decide), am_up_j _ _ (by decide)]
    simp only [am_fill]
    rw [if_neg (by omega), am_up_s]
  · rw [am_up_j _ _ (by decide), am_up_s]
  · rw [am_up_s]
theorem mo_bg_0 {B : am_M} {k : Int} : (∀ a j, 64 ≤ a → a ≤ 66 → j < 5 → g_MO_begin [.inr (.inl 50), .inl k] B a j = 0) ∧ (∀ j, j < 2001 → g_MO_begin [.inr (.inl 50), .inl k] B 67 j = 0) := by
  simp only [g_MO_begin]
  unfold mo_b3 mo_b2 mo_b1
  refine ⟨fun a j h1 h2 h3 => ?_, fun j h => ?_⟩
  · rw [am_up_k _ _ (by omega), am_up_k _ _ (by omega)]
    simp only [am_fill]
    rw [if_neg (by omega), am_up_k _ _ (by omega)]
    simp only [am_fill]
    rcases (show a = 64 ∨ a = 65 ∨ a = 66 by omega) with e | e | e
    · rw [if_neg (by omega), if_neg (by omega), if_pos ⟨e, h3⟩]
    · rw [if_neg (by omega), if_pos ⟨e, h3⟩]
    · rw [if_pos ⟨e, h3⟩]
  · rw [am_up_k _ _ (by decide), am_up_k _ _ (by decide)]
    simp only [am_fill]
    rw [if_pos ⟨trivial, h⟩]
/-- the class's course as it begins -/
theorem co_bg_k {d : Nat} {k : Int} {A : am_M} {a j : Nat} (h : a < d ∨ d + 10 < a ∨ (d + 6 < a ∧ a < d + 9)) : g_CO_begin [.inr (.inl d), .inr (.inl 7), .inl k] A a j = A a j := by
  simp only [g_CO_begin, g_BU_begin, g_QU_begin, g_LO_begin]
  rw [am_up_k _ _ (by omega), am_up_k _ _ (by omega), am_up_k _ _ (by omega), am_up_k _ _ (by omega), am_up_k _ _ (by omega), am_up_k _ _ (by omega)]
  simp only [am_fill]
  rw [if_neg (by omega), am_up_k _ _ (by omega), am_up_k _ _ (by omega)]
  refine am_col_k ?_
  unfold h_LO_begin
  rw [if_neg (by omega), if_neg (by omega), if_neg (by omega), if_neg (by omega)]
theorem co_bg_l {d : Nat} {k : Int} {A : am_M} {a j : Nat} (h : d + 2 ≤ a ∧ a ≤ d + 5) : g_CO_begin [.inr (.inl d), .inr (.inl 7), .inl k] A a j = g_LO_begin [.inr (.inl (d + 1))] A a j := by
  simp only [g_CO_begin, g_BU_begin, g_QU_begin]
  rw [am_up_k _ _ (by omega), am_up_k _ _ (by omega), am_up_k _ _ (by omega), am_up_k _ _ (by omega), am_up_k _ _ (by omega), am_up_k _ _ (by omega)]
  simp only [am_fill]
  rw [if_neg (by omega), am_up_k _ _ (by omega), am_up_k _ _ (by omega)]
theorem co_bg_v {d : Nat} {k : Int} {A : am_M} (hd : 25 < d) : (g_CO_begin [.inr (.inl d), .inr (.inl 7), .inl k] A d 5 = k ∧ g_CO_begin [.inr (.inl d), .inr (.inl 7), .inl k] A d 6 = 0) ∧ (g_CO_begin [.inr (.inl d), .inr (.inl 7), .inl k] A (d + 6) 3 = 0 ∧ g_CO_begin [.inr (.inl d), .inr (.inl 7), .inl k] A (d + 6) 4 = 0) ∧ (g_CO_begin [.inr (.inl d), .inr (.inl 7), .inl k] A (d + 9) 1 = k ∧ g_CO_begin [.inr (.inl d), .inr (.inl 7), .inl k] A (d + 9) 2 = (if k = 1 ∨ k = 2 then A 8 k.toNat else 0) ∧ g_CO_begin [.inr (.inl d), .inr (.inl 7), .inl k] A (d + 9) 3 = A 9 k.toNat ∧ g_CO_begin [.inr (.inl d), .inr (.inl 7), .inl k] A (d + 9) 4 = (if k = 1 ∨ k = 2 then A 8 k.toNat else 0)) ∧ ∀ j, j < 60 → g_CO_begin [.inr (.inl d), .inr (.inl 7), .inl k] A (d + 9 + 1) j = 0 := by
  have e : ∀ a j, a < 19 → g_QU_begin [.inr (.inl (d + 6))] (g_LO_begin [.inr (.inl (d + 1))] A) a j = A a j := fun a j ha => by
    simp only [g_QU_begin, g_LO_begin]
    rw [am_up_k _ _ (by omega), am_up_k _ _ (by omega)]
    refine am_col_k ?_
    unfold h_LO_begin
    rw [if_neg (by omega), if_neg (by omega), if_neg (by omega), if_neg (by omega)]
  simp only [g_CO_begin]
  refine ⟨⟨?_, ?_⟩, ⟨?_, ?_⟩, ⟨?_, ?_, ?_, ?_⟩, fun j hj => ?_⟩
  · rw [am_up_j _ _ (by decide), am_up_s]
  · rw [am_up_s]
  · rw [am_up_k _ _ (by omega), am_up_k _ _ (by omega)]
    simp only [g_BU_begin]
    rw [am_up_k _ _ (by omega), am_up_k _ _ (by omega), am_up_k _ _ (by omega), am_up_k _ _ (by omega)]
    simp only [am_fill]
    rw [if_neg (by omega)]
    simp only [g_QU_begin]
    rw [am_up_j _ _ (by decide), am_up_s]
  · rw [am_up_k _ _ (by omega), am_up_k _ _ (by omega)]
    simp only [g_BU_begin]
    rw [am_up_k _ _ (by omega), am_up_k _ _ (by omega), am_up_k _ _ (by omega), am_up_k _ _ (by omega)]
    simp only [am_fill]
    rw [if_neg (by omega)]
    simp only [g_QU_begin]
    rw [am_up_s]
  · rw [am_up_k _ _ (by omega), am_up_k _ _ (by omega)]
    simp only [g_BU_begin]
    rw [am_up_j _ _ (by decide), am_up_j _ _ (by decide), am_up_j _ _ (by decide), am_up_s]
  · rw [am_up_k _ _ (by omega), am_up_k _ _ (by omega)]
    simp only [g_BU_begin]
    rw [am_up_j _ _ (by decide), am_up_j _ _ (by decide), am_up_s, e 8 _ (by omega)]
  · rw [am_up_k _ _ (by omega), am_up_k _ _ (by omega)]
    simp only [g_BU_begin]
    rw [am_up_j _ _ (by decide), am_up_s, e 9 _ (by omega)]
  · rw [am_up_k _ _ (by omega), am_up_k _ _ (by omega)]
    simp only [g_BU_begin]
    rw [am_up_s, e 8 _ (by omega)]
  · rw [am_up_k _ _ (by omega), am_up_k _ _ (by omega)]
    simp only [g_BU_begin]
    rw [am_up_k _ _ (by omega), am_up_k _ _ (by omega), am_up_k _ _ (by omega), am_up_k _ _ (by omega)]
    simp only [am_fill]
    rw [if_pos ⟨trivial, hj⟩]
theorem vr_pm {A B : am_M} (h : vr_T A B) (h2 : ts_ok A) (hp : ts_pm A) : mo_pm B := by
  have e : ∀ r : Nat, (r : Int) < A 1 5 → B 55 r = A 6 r := fun r hr => (h.2 r (by have := h2.1; omega)).2.2.2.2
  refine ⟨fun r s hr hs q => ?_, fun t ht => ?_⟩
  · rw [h.1] at hr hs
    rw [e r hr, e s hs] at q
    exact hp.1 r s hr hs q
  · rw [h.1] at ht
    obtain ⟨r, r1, r2⟩ := hp.2 t ht
    exact ⟨r, by rw [h.1]; exact r1, by rw [e r r1]; exact r2⟩
/-- ranges of what a course leaves standing when it begins again -/
def cv_0 (d : Nat) (A : am_M) : Prop := cv_l d A ∧ (∀ j, j < 40 → (0 ≤ A (d + 6 + 1) j ∧ A (d + 6 + 1) j ≤ 30) ∧ (A 13 j = 0 ∨ A 13 j = 1)) ∧ sm_x A
def re_0 (B : am_M) : Prop := ∀ j, j < 40 → (B 60 j = 0 ∨ B 60 j = 1) ∧ (0 ≤ B 68 j ∧ B 68 j ≤ 30)
theorem cv_begin {d : Nat} {k : Int} {A B : am_M} (hd : d = 26 ∨ d = 37) (h1 : vr_T A B) (h2 : ts_ok A) (hp : ts_pm A) (hB : vr_B A B) (hr : rb_ok A) (h9 : 1 ≤ A 9 k.toNat ∧ A 9 k.toNat ≤ 60) (hk : 0 ≤ k ∧ k ≤ 3) (ha : mo_a B k ≠ 0) (h0 : cv_0 d A) (hq : re_0 B) : cv_A d 0 (g_CO_begin [.inr (.inl d), .inr (.inl 7), .inl k] A) (g_MO_begin [.inr (.inl 50), .inl k] B) := by
  obtain ⟨v1, v2, v3, v4, v5⟩ := mo_bg_v (B := B) (k := k)
  obtain ⟨w1, w2⟩ := mo_bg_0 (B := B) (k := k)
  obtain ⟨⟨c1, c2⟩, ⟨c3, c4⟩, ⟨c5, c6, c7, c8⟩, c9⟩ := co_bg_v (d := d) (k := k) (A := A) (by omega)
  have eb : ∀ a j, a ≠ 50 → a < 64 ∨ 67 < a → g_MO_begin [.inr (.inl 50), .inl k] B a j = B a j := fun a j x y => mo_bg_k x y
  have e01 : g_MO_begin [.inr (.inl 50), .inl k] B 50 1 = B 50 1 := mo_bg_50 (by decide) (by decide) (by decide) (by decide) (by decide)
  have ea : ∀ a j, a < d → g_CO_begin [.inr (.inl d), .inr (.inl 7), .inl k] A a j = A a j := fun a j x => co_bg_k (by omega)
  have rb : mo_rb B := vr_rb hB hr
  have rb' : mo_rb (g_MO_begin [.inr (.inl 50), .inl k] B) := by unfold mo_rb; rw [eb 57 1 (by decide) (by omega), eb 56 1 (by decide) (by omega), eb 57 2 (by decide) (by omega), eb 56 2 (by decide) (by omega)]; exact rb
  have t1 : vr_T (g_CO_begin [.inr (.inl d), .inr (.inl 7), .inl k] A) (g_MO_begin [.inr (.inl 50), .inl k] B) := vr_T_of h1 (fun k j _ _ => ea k j (by omega)) e01 (fun k j _ _ => eb k j (by omega) (by omega))
  have t2 : ts_ok (g_CO_begin [.inr (.inl d), .inr (.inl 7), .inl k] A) := ts_ok_of h2 (fun k j _ _ => ea k j (by omega))
  have ok := vr_ok h1 h2
  have okB : mo_ok (g_MO_begin [.inr (.inl 50), .inl k] B) := vr_ok t1 t2
  have pm : mo_pm (g_MO_begin [.inr (.inl 50), .inl k] B) := vr_pm t1 t2 (ts_pm_of hp (fun k j _ _ => ea k j (by omega)))
  have n5 : ∀ t : Nat, (t : Int) < g_MO_begin [.inr (.inl 50), .inl k] B 50 1 → t < 5 := fun t ht => by have := okB.1; omega
  have sok : sl_ok (g_MO_begin [.inr (.inl 50), .inl k] B) := ⟨okB, fun j hj => by
    rw [w1 64 j (by omega) (by omega) (n5 j hj), w1 66 j (by omega) (by omega) (n5 j hj)]
    have := okB.2 j hj
    omega⟩
  have tD : tl_D (g_MO_begin [.inr (.inl 50), .inl k] B) 0 := fun t ht => by
    rw [w1 64 t (by omega) (by omega) (n5 t ht)]
    have := okB.2 t ht
    exact ⟨fun q => by omega, by omega⟩
  have pw0 : ∀ n : Nat, (n : Int) ≤ g_MO_begin [.inr (.inl 50), .inl k] B 50 1 → mo_pw (g_MO_begin [.inr (.inl 50), .inl k] B) n = 0 := fun n hn => ma_su_0 (fun j hj => by
    have := (okB.2 j (by omega)).1
    exact w1 64 _ (by omega) (by omega) (n5 _ (by omega)))
  have adm : mo_a (g_MO_begin [.inr (.inl 50), .inl k] B) k ≠ 0 := by
    rw [mo_a_of e01 (fun a j _ _ => eb a j (by omega) (by omega))]; exact ha
  have bg : bg_I (g_MO_begin [.inr (.inl 50), .inl k] B) 0 := by
    have U0 : ∀ y, y ≤ 0 → bg_U (g_MO_begin [.inr (.inl 50), .inl k] B) y = 0 := fun y hy => by rw [show y = 0 by omega]; rfl
    refine ⟨by omega, rb', ⟨?_, fun q => ?_⟩, fun x hx => by omega, fun x _ hx => w2 x (by omega), fun q => ⟨⟨0, by omega, ?_, ?_⟩, fun j w hw hN => ?_⟩, fun q => ⟨?_, fun y hy => ?_⟩⟩
    · rw [v3]
      split
      · rename_i c
        rcases c with c | c <;> subst c
        · have := rb.1; show 0 ≤ B 56 1; omega
        · have := rb.2; show 0 ≤ B 56 2; omega
      · omega
    · rw [v2] at q
      rw [v3, if_neg (by omega)]
    · have := rb'.1; omega
    · rw [v2] at q
      subst q
      rw [v1, U0 _ (by omega), U0 _ (by omega), v3, if_pos (Or.inl rfl), eb 56 1 (by decide) (by omega)]
      show B 56 1 + (0 - 0) = B 56 1
      omega
    · rw [v1] at hN
      have z1 : j * (g_MO_begin [.inr (.inl 50), .inl k] B 57 1).toNat + w ≤ 0 := hN
      rw [U0 _ z1, U0 _ (by omega)]
      have := rb'.1
      omega
    · rw [v2] at q
      subst q
      rw [v1, U0 _ (by omega), U0 _ (by omega), v3, if_pos (Or.inr rfl), eb 56 2 (by decide) (by omega)]
      show B 56 2 + (0 - 0) = B 56 2
      omega
    · rw [v1] at hy
      rw [U0 _ (by omega), U0 _ (by omega)]
      have := rb'.2
      omega
  refine ⟨⟨⟨t1, t2, ?_, ⟨⟨by rw [v4, c3], by omega, by omega⟩, fun j hj => by omega, by rw [c3, c4]; rfl⟩, ⟨v1, by omega⟩, ⟨⟨by rw [v2, c1], by rw [c5, c1]⟩, by rw [c1]; exact hk, by rw [c7]; exact h9, ?_, fun q => ?_, fun q => ?_, fun q => ?_, fun q x hx1 hx2 => ?_⟩⟩, ts_pm_of hp (fun k j _ _ => ea k j (by omega)), ⟨by rw [v2]; exact hk, by rw [v2]; exact adm, bg, fun q => ⟨sok, pm, tD, fun r hr => ?_⟩, fun q => ⟨sok, pm, tD, fun r hr => ?_⟩⟩, by rw [c2, v5]⟩, ⟨fun j hj => ?_, fun j hj => by rw [c9 j hj]; omega, ?_, fun j hj => ?_, sm_x_of h0.2.2 (fun k j _ _ => ea k j (by omega))⟩, fun j hj => ?_, by rw [v4]; omega, fun j hj => ?_⟩
  · refine vr_L_of (vr_begin (d := d) (A := A) (B := g_MO_begin [.inr (.inl 50), .inl k] B) (by omega) h2 (fun j hj => ⟨w1 64 j (by omega) (by omega) hj, w1 65 j (by omega) (by omega) hj, w1 66 j (by omega) (by omega) hj⟩)) (fun a j x y => ?_) (fun a j x y => co_bg_l ⟨x, y⟩) (fun _ _ _ _ => rfl)
    rw [ea a j (by omega)]
    simp only [g_LO_begin]
    refine (am_col_k ?_).symm
    unfold h_LO_begin
    rw [if_neg (by omega), if_neg (by omega), if_neg (by omega), if_neg (by omega)]
  · rw [v3, c8]
    split
    · rename_i c
      rcases c with c | c <;> subst c
      · exact hB.1.1
      · exact hB.2.1
    · rfl
  · rw [c1] at q
    subst q
    rw [c7, c6, eb 57 1 (by decide) (by omega), eb 56 1 (by decide) (by omega), if_pos (Or.inl rfl)]
    exact ⟨hB.1.2, hB.1.1⟩
  · rw [c1] at q
    subst q
    rw [c7, c6, eb 57 2 (by decide) (by omega), eb 56 2 (by decide) (by omega), if_pos (Or.inr rfl)]
    exact ⟨hB.2.2, hB.2.1⟩
  · rw [c1] at q
    rw [c8, if_neg (by omega)]
  · rw [c7] at hx1 ⊢
    rw [if_neg (by omega)]
    have m1 := Int.emod_lt_of_pos x (show 0 < A 9 k.toNat by omega)
    have m2 := Int.emod_nonneg x (show A 9 k.toNat ≠ 0 by omega)
    exact c9 _ (by omega)
  · refine ⟨0, by omega, ?_, ?_⟩
    · rw [v1]
      unfold mo_en
      have tr := (okB.2 r hr).1
      have br := okB.2 (g_MO_begin [.inr (.inl 50), .inl k] B 55 r).toNat (by omega)
      rw [w1 64 _ (by omega) (by omega) (n5 _ (by omega)), if_neg (by omega)]
      have := ma_nx_ge (o := g_MO_begin [.inr (.inl 50), .inl k] B 52 (g_MO_begin [.inr (.inl 50), .inl k] B 55 r).toNat) (p := g_MO_begin [.inr (.inl 50), .inl k] B 51 (g_MO_begin [.inr (.inl 50), .inl k] B 55 r).toNat) (y := g_MO_begin [.inr (.inl 50), .inl k] B 50 19 + ((0 : Nat) : Int)) (by omega)
      unfold mo_nx
      omega
    · rw [pw0 (r + 1) (by omega)]
      show (0 : Int) + 0 ≤ ((0 : Nat) : Int)
      omega
  · obtain ⟨R, r1, r2, r3⟩ := tl_adm okB rb' adm hr
    refine tl_Y_0 (R := R) sok hr (by omega) ⟨r1, r2, ?_⟩ (by rw [pw0 (r + 1) (by omega)]; exact Int.le_refl _)
    rw [v2]
    omega
  · by_cases c : (j : Int) < A 1 5
    · have b := h2.2 j c
      have l : ∀ a, d + 2 ≤ a ∧ a ≤ d + 5 → g_CO_begin [.inr (.inl d), .inr (.inl 7), .inl k] A a j = h_LO_begin (d + 1) A a j := fun a x => by
        rw [co_bg_l x]
        simp only [g_LO_begin]
        exact am_col_lt (by omega)
      rw [l _ (by omega), l _ (by omega), l _ (by omega), l _ (by omega)]
      have l1 : h_LO_begin (d + 1) A (d + 1 + 1) j = A 3 j := by unfold h_LO_begin; rw [if_pos rfl]
      have l2 : h_LO_begin (d + 1) A (d + 1 + 2) j = A 4 j := by unfold h_LO_begin; rw [if_neg (by omega), if_pos rfl]
      have l3 : h_LO_begin (d + 1) A (d + 1 + 3) j = 0 := by unfold h_LO_begin; rw [if_neg (by omega), if_neg (by omega), if_pos rfl]
      have l4 : h_LO_begin (d + 1) A (d + 1 + 4) j = 0 := by unfold h_LO_begin; rw [if_neg (by omega), if_neg (by omega), if_neg (by omega), if_pos rfl]
      rw [l1, l2, l3, l4]
      omega
    · have l : ∀ a, d + 2 ≤ a ∧ a ≤ d + 5 → g_CO_begin [.inr (.inl d), .inr (.inl 7), .inl k] A a j = A a j := fun a x => by
        rw [co_bg_l x]
        simp only [g_LO_begin]
        exact am_col_ge (by omega)
      rw [l _ (by omega), l _ (by omega), l _ (by omega), l _ (by omega)]
      exact h0.1 j hj
  · rw [c6]
    split
    · rename_i c
      rcases c with c | c <;> subst c
      · have := hr.1; show 0 ≤ A 8 1 ∧ A 8 1 ≤ 60; omega
      · have := hr.2.1; show 0 ≤ A 8 2 ∧ A 8 2 ≤ 60; omega
    · omega
  · rw [show g_CO_begin [.inr (.inl d), .inr (.inl 7), .inl k] A (d + 6 + 1) j = A (d + 6 + 1) j from co_bg_k (by omega), ea 13 j (by omega)]
    exact h0.2.1 j hj
  · rw [w1 64 j (by omega) (by omega) hj, w1 65 j (by omega) (by omega) hj, w1 66 j (by omega) (by omega) hj]
    omega
  · rw [eb 60 j (by decide) (by omega), eb 68 j (by decide) (by omega), v4]
    have := hq j hj
    exact ⟨this.1, this.2, fun q => by omega⟩
