/-! early ones and jobs that come, on both sides -/
theorem mo_tell_k {B : am_M} {t k : Int} {a j : Nat} (h : a ≠ 66) : g_MO_tell [.inr (.inl 50), .inl t, .inl k] B a j = B a j := by
  simp only [g_MO_tell]
  exact am_up_k _ _ h
theorem mo_tell_66 {B : am_M} {t k : Int} {j : Nat} : g_MO_tell [.inr (.inl 50), .inl t, .inl k] B 66 j = if j = t.toNat then (if B 66 j = 0 ∨ k < B 66 j then k else B 66 j) else B 66 j := by
  simp only [g_MO_tell]
  by_cases c : j = t.toNat
  · rw [if_pos c, c, am_up_s]
  · rw [if_neg c, am_up_j _ _ c]
theorem lo_sh_k {b : Nat} {t k : Int} {A : am_M} {a j : Nat} (h : a ≠ b + 2) : g_LO_shorten [.inr (.inl b), .inl t, .inl k] A a j = A a j := by
  simp only [g_LO_shorten]
  split
  · exact am_up_k _ _ h
  · rfl
theorem lo_sh_2 {b : Nat} {t k : Int} {A : am_M} {j : Nat} : g_LO_shorten [.inr (.inl b), .inl t, .inl k] A (b + 2) j = A (b + 2) j ∨ (g_LO_shorten [.inr (.inl b), .inl t, .inl k] A (b + 2) j = k ∧ k < A (b + 2) j) := by
  simp only [g_LO_shorten]
  split
  · by_cases c : j = t.toNat
    · rw [c, am_up_s]
      split
      · rename_i w; exact Or.inr ⟨rfl, w⟩
      · exact Or.inl rfl
    · rw [am_up_j _ _ c]; exact Or.inl rfl
  · exact Or.inl rfl
theorem sl_ok_tell {B : am_M} {t k : Int} (h : sl_ok B) (hk : 1 ≤ k ∧ k ≤ B 53 t.toNat) : sl_ok (g_MO_tell [.inr (.inl 50), .inl t, .inl k] B) := by
  refine ⟨⟨by rw [mo_tell_k (by decide)]; exact h.1.1, fun r hr => ?_⟩, fun j hj => ?_⟩
  · rw [mo_tell_k (by decide)] at hr
    rw [mo_tell_k (by decide), mo_tell_k (by decide), mo_tell_k (by decide), mo_tell_k (by decide), mo_tell_k (by decide), mo_tell_k (by decide)]
    exact h.1.2 r hr
  · rw [mo_tell_k (by decide)] at hj
    rw [mo_tell_66, mo_tell_k (by decide), mo_tell_k (by decide)]
    have := h.2 j hj
    refine ⟨this.1, ?_⟩
    by_cases c : j = t.toNat
    · rw [if_pos c]
      rw [← c] at hk
      split <;> omega
    · rw [if_neg c]; exact this.2
/-- told, less work comes -/
theorem sl_a_tell {B : am_M} {z t k : Int} {n i : Nat} (h : sl_ok B) (hn : (n : Int) ≤ B 50 1) (hk : 1 ≤ k ∧ k ≤ B 53 t.toNat) : sl_a (g_MO_tell [.inr (.inl 50), .inl t, .inl k] B) z n i ≤ sl_a B z n i := by
  unfold sl_a mo_aw
  refine ma_su_le (fun j hj => ?_)
  have t1 := (h.1.2 j (by omega)).1
  have t2 := h.1.2 (B 55 j).toNat (by omega)
  have t3 := h.2 (B 55 j).toNat (by omega)
  show mo_aj (g_MO_tell [.inr (.inl 50), .inl t, .inl k] B) z (g_MO_tell [.inr (.inl 50), .inl t, .inl k] B 50 19 + (i : Int)) (g_MO_tell [.inr (.inl 50), .inl t, .inl k] B 55 j).toNat ≤ mo_aj B z (B 50 19 + i) (B 55 j).toNat
  rw [mo_tell_k (a := 50) (by decide), mo_tell_k (a := 55) (by decide)]
  unfold mo_aj mo_cm mo_nx
  rw [mo_tell_k (a := 52) (by decide), mo_tell_k (a := 51) (by decide), mo_tell_k (a := 53) (by decide), mo_tell_k (a := 50) (by decide), mo_tell_66]
  by_cases c0 : (B 52 (B 55 j).toNat ≤ B 50 19 + (i : Int) ∧ (B 50 19 + (i : Int) - B 52 (B 55 j).toNat) % B 51 (B 55 j).toNat = 0) ∧ (B 50 19 < B 50 19 + (i : Int) ∨ z = 0)
  · rw [if_pos c0, if_pos c0]
    by_cases c1 : (B 55 j).toNat = t.toNat
    · rw [if_pos c1]
      rw [← c1] at hk
      by_cases c2 : B 50 19 + (i : Int) = ma_nx (B 52 (B 55 j).toNat) (B 51 (B 55 j).toNat) (B 50 19 + z)
      · have p0 : 0 < (if B 66 (B 55 j).toNat = 0 ∨ k < B 66 (B 55 j).toNat then k else B 66 (B 55 j).toNat) := by split <;> omega
        have p1 : (if B 66 (B 55 j).toNat = 0 ∨ k < B 66 (B 55 j).toNat then k else B 66 (B 55 j).toNat) ≤ B 53 (B 55 j).toNat ∧ (0 < B 66 (B 55 j).toNat → (if B 66 (B 55 j).toNat = 0 ∨ k < B 66 (B 55 j).toNat then k else B 66 (B 55 j).toNat) ≤ B 66 (B 55 j).toNat) := by split <;> omega
        generalize (if B 66 (B 55 j).toNat = 0 ∨ k < B 66 (B 55 j).toNat then k else B 66 (B 55 j).toNat) = x at p0 p1 ⊢
        rw [if_pos ⟨p0, c2⟩]
        by_cases w : 0 < B 66 (B 55 j).toNat
        · rw [if_pos ⟨w, c2⟩]
          exact p1.2 w
        · rw [if_neg (fun q => w q.1)]
          exact p1.1
      · rw [if_neg (fun q => c2 q.2), if_neg (fun q => c2 q.2)]
        exact Int.le_refl _
    · rw [if_neg c1]
      exact Int.le_refl _
  · rw [if_neg c0, if_neg c0]
    exact Int.le_refl _
theorem re_tell {B : am_M} {t k : Int} (h : re_I B 0) (hk : 1 ≤ k ∧ k ≤ B 53 t.toNat) : re_I (g_MO_tell [.inr (.inl 50), .inl t, .inl k] B) 0 := by
  obtain ⟨o1, o2, o3⟩ := re_ok h
  obtain ⟨h1, h2, h3, h4, h5⟩ := h
  have e : ∀ a j, a ≠ 66 → g_MO_tell [.inr (.inl 50), .inl t, .inl k] B a j = B a j := fun a j ha => mo_tell_k ha
  have e20 := e 50 20 (by decide)
  have okT := sl_ok_tell o1 hk
  refine ⟨by rw [e20]; exact h1, ?_, bg_of h3 (e 50 19 (by decide)) e20 (e 50 24 (by decide)) (fun k j hk => e k j (by omega)), fun c => ?_, fun c => ?_⟩
  · rw [e20, mo_a_of (e 50 1 (by decide)) (fun k j a b => e k j (by omega))]; exact h2
  · rw [e20] at c
    obtain ⟨a1, a2, a3, a4⟩ := h4 c
    refine ⟨okT, mo_pm_of a2 (e 50 1 (by decide)) (fun j => e 55 j (by decide)), fun j hj => ?_, fun r hr => ?_⟩
    · rw [e 50 1 (by decide)] at hj
      have := a3 j hj
      unfold mo_nx at this ⊢
      rw [e 64 j (by decide), e 65 j (by decide), e 53 j (by decide), e 52 j (by decide), e 51 j (by decide), e 50 19 (by decide)]
      exact this
    · rw [e 50 1 (by decide)] at hr
      obtain ⟨q, q1, q2, q3⟩ := a4 r hr
      refine ⟨q, q1, ?_, ?_⟩
      · unfold mo_en mo_nx at q2 ⊢
        rw [e 55 r (by decide), e 64 _ (by decide), e 65 _ (by decide), e 54 _ (by decide), e 52 _ (by decide), e 51 _ (by decide), e 50 19 (by decide)]
        exact q2
      · have p : mo_pw (g_MO_tell [.inr (.inl 50), .inl t, .inl k] B) (r + 1) = mo_pw B (r + 1) := ma_su_eq (fun j _ => by rw [e 55 j (by decide), e 64 _ (by decide)])
        have s := ma_su_le (f := sl_a (g_MO_tell [.inr (.inl 50), .inl t, .inl k] B) ((0 : Nat) : Int) (r + 1)) (g := sl_a B ((0 : Nat) : Int) (r + 1)) (n := q) (fun i _ => sl_a_tell o1 (by omega) hk)
        rw [p]
        omega
  · rw [e20] at c
    obtain ⟨a1, a2, a3, a4⟩ := h5 c
    refine ⟨okT, mo_pm_of a2 (e 50 1 (by decide)) (fun j => e 55 j (by decide)), fun j hj => ?_, fun r hr => ?_⟩
    · rw [e 50 1 (by decide)] at hj
      have := a3 j hj
      unfold mo_nx at this ⊢
      rw [e 64 j (by decide), e 65 j (by decide), e 53 j (by decide), e 52 j (by decide), e 51 j (by decide), e 50 19 (by decide)]
      exact this
    · rw [e 50 1 (by decide)] at hr
      obtain ⟨R, s, b1, b2, b3, b4, b5⟩ := a4 r hr
      have eU : ∀ y, bg_U (g_MO_tell [.inr (.inl 50), .inl t, .inl k] B) y = bg_U B y := bg_U_of (e 50 19 (by decide)) (fun x _ => e 67 x (by decide))
      have p : mo_pw (g_MO_tell [.inr (.inl 50), .inl t, .inl k] B) (r + 1) = mo_pw B (r + 1) := ma_su_eq (fun j _ => by rw [e 55 j (by decide), e 64 _ (by decide)])
      refine ⟨R, s, tl_H_of b1 (fun k j _ _ => e k j (by omega)) e20, by rw [e 50 19 (by decide)]; exact b2, by rw [e 50 19 (by decide)]; exact b3, ?_, ?_⟩
      · rw [e 50 19 (by decide), eU, eU, p, tl_d_of (fun k j _ _ => e k j (by omega))]
        exact b4
      · rw [e 55 r (by decide), e 64 _ (by decide), e 65 _ (by decide), e 54 _ (by decide)]
        exact b5
/-- AN EARLY ONE is told, in one course -/
theorem cv_A_tell {d : Nat} {m t k : Int} {A B : am_M} (hd : d = 26 ∨ d = 37) (h : cv_A d m A B) (ht : 0 ≤ t ∧ t < A 1 5) (hk : 1 ≤ k ∧ k ≤ A 4 t.toNat) : cv_A d m (g_LO_shorten [.inr (.inl (d + 1)), .inl t, .inl k] A) (g_MO_tell [.inr (.inl 50), .inl t, .inl k] B) := by
  obtain ⟨⟨⟨h1, h2, h3, h4, h5, h6⟩, hp, hr, hl⟩, ⟨b1, b2, b3, b4, b5⟩, hb, hq⟩ := h
  have e : ∀ a j, a ≠ 66 → g_MO_tell [.inr (.inl 50), .inl t, .inl k] B a j = B a j := fun a j ha => mo_tell_k ha
  have f : ∀ a j, a ≠ d + 3 → g_LO_shorten [.inr (.inl (d + 1)), .inl t, .inl k] A a j = A a j := fun a j ha => lo_sh_k (by omega)
  have k53 : B 53 t.toNat = A 4 t.toNat := (h1.2 t.toNat (by have := h2.1; omega)).2.2.1
  refine ⟨⟨⟨vr_T_of h1 (fun k j _ _ => f k j (by omega)) (e 50 1 (by decide)) (fun k j _ _ => e k j (by omega)), ts_ok_of h2 (fun k j _ _ => f k j (by omega)), vr_tell (by omega) h2 h3 ht hk (fun j hj => (hb j hj).2.2.1), vr_Q_of h4 (fun k j _ _ => f k j (by omega)) (fun j => f 13 j (by omega)) (e 50 26 (by decide)) (fun k j hk => e k j (by omega)), ⟨by rw [e 50 19 (by decide)]; exact h5.1, h5.2⟩, vr_U_of h6 (f d 5 (by omega)) (fun k j _ _ => f k j (by omega)) ⟨e 50 20 (by decide), e 50 24 (by decide)⟩ (fun k j hk => e k j (by omega))⟩, ts_pm_of hp (fun k j _ _ => f k j (by omega)), re_tell hr (by rw [k53]; exact hk), by rw [f d 6 (by omega), e 50 29 (by decide)]; exact hl⟩, ⟨fun j hj => ?_, fun j hj => ?_, ?_, fun j hj => ?_, sm_x_of b5 (fun k j _ _ => f k j (by omega))⟩, fun j hj => ?_, re_q_of hq (e 50 26 (by decide)) (fun k j hk => e k j (by omega))⟩
  · rw [f (d + 1 + 1) j (by omega), f (d + 1 + 3) j (by omega), f (d + 1 + 4) j (by omega)]
    have := b1 j hj
    refine ⟨this.1, ?_, this.2.2⟩
    rcases lo_sh_2 (b := d + 1) (t := t) (k := k) (A := A) (j := j) with q | q
    · rw [q]; exact this.2.1
    · rw [q.1]; omega
  · rw [f (d + 9 + 1) j (by omega)]; exact b2 j hj
  · rw [f (d + 9) 2 (by omega)]; exact b3
  · rw [f (d + 6 + 1) j (by omega), f 13 j (by omega)]; exact b4 j hj
  · rw [e 64 j (by decide), e 65 j (by decide), mo_tell_66]
    have := hb j hj
    have a4 := h2.2 t.toNat (by omega)
    refine ⟨this.1, this.2.1, ?_⟩
    by_cases c : j = t.toNat
    · rw [if_pos c]
      split <;> omega
    · rw [if_neg c]; exact this.2.2
theorem mo_in_k {B : am_M} {a j : Nat} (h : a ≠ 50) (h2 : a ≠ 68) (h3 : a ≠ 69) : g_MO_comesIn [.inr (.inl 50)] B a j = B a j := by
  simp only [g_MO_comesIn]
  rw [am_up_k _ _ h, am_up_k _ _ h3, am_up_k _ _ h2]
theorem mo_in_50 {B : am_M} {j : Nat} (h : j ≠ 26) : g_MO_comesIn [.inr (.inl 50)] B 50 j = B 50 j := by
  simp only [g_MO_comesIn]
  rw [am_up_j _ _ h, am_up_k _ _ (by decide), am_up_k _ _ (by decide)]
theorem qu_tk_k {c a x : Nat} {A : am_M} {k j : Nat} (h : k < c ∨ c + 2 < k) : qu_tk c a x A k j = A k j := by
  unfold qu_tk
  rw [if_neg (by omega), if_neg (by omega), if_neg (by omega), if_neg (by omega)]
theorem re_of_in {B B' : am_M} (h : re_I B 0) (e1 : ∀ j, j ≠ 26 → B' 50 j = B 50 j) (e : ∀ k j, 51 ≤ k → k ≤ 57 ∨ 64 ≤ k → k ≤ 67 → B' k j = B k j) : re_I B' 0 := by
  obtain ⟨h1, h2, h3, h4, h5⟩ := h
  have e20 := e1 20 (by decide)
  refine ⟨by rw [e20]; exact h1, ?_, bg_of h3 (e1 19 (by decide)) e20 (e1 24 (by decide)) (fun k j hk => e k j (by omega) (by omega) (by omega)), fun c => ?_, fun c => ?_⟩
  · rw [e20, mo_a_of (e1 1 (by decide)) (fun k j a b => e k j a (by omega) (by omega))]; exact h2
  · rw [e20] at c
    exact tl_I_of (h4 c) (e1 1 (by decide)) (e1 19 (by decide)) (fun k j a b c => e k j a (by omega) (by omega))
  · rw [e20] at c
    exact tl_J_of (h5 c) (e1 1 (by decide)) (e1 19 (by decide)) e20 (fun k j a b c => e k j a (by omega) (by omega))
/-- A JOB comes in, in one course -/
theorem cv_A_in {d : Nat} {m : Int} {A B : am_M} (hd : d = 26 ∨ d = 37) (h : cv_A d m A B) (hn : A (d + 6) 3 < 40) (g1 : B 58 (A (d + 6) 3).toNat = A 12 (A (d + 6) 3).toNat) (g2 : 1 ≤ A 12 (A (d + 6) 3).toNat ∧ A 12 (A (d + 6) 3).toNat ≤ 30) (g3 : B 60 (A (d + 6) 3).toNat = A 13 (A (d + 6) 3).toNat) : cv_A d m (qu_tk (d + 6) (A (d + 6) 3).toNat ((A (d + 6) 3).toNat + 1) A) (g_MO_comesIn [.inr (.inl 50)] B) := by
  obtain ⟨⟨⟨h1, h2, h3, h4, h5, h6⟩, hp, hr, hl⟩, ⟨b1, b2, b3, b4, b5⟩, hb, hq⟩ := h
  have e : ∀ a j, a ≠ 50 → a ≠ 68 → a ≠ 69 → g_MO_comesIn [.inr (.inl 50)] B a j = B a j := fun a j x y z => mo_in_k x y z
  have e5 : ∀ j, j ≠ 26 → g_MO_comesIn [.inr (.inl 50)] B 50 j = B 50 j := fun j hj => mo_in_50 hj
  have f : ∀ a j, a < d + 6 ∨ d + 8 < a → qu_tk (d + 6) (A (d + 6) 3).toNat ((A (d + 6) 3).toNat + 1) A a j = A a j := fun a j ha => qu_tk_k (by omega)
  have n0 := h4.1
  refine ⟨⟨⟨vr_T_of h1 (fun k j _ _ => f k j (by omega)) (e5 1 (by decide)) (fun k j _ _ => e k j (by omega) (by omega) (by omega)), ts_ok_of h2 (fun k j _ _ => f k j (by omega)), vr_L_of h3 (fun k j _ _ => f k j (by omega)) (fun k j _ _ => f k j (by omega)) (fun k j _ _ => e k j (by omega) (by omega) (by omega)), vr_Qin (by omega) h4 hn g1 g2.1 g3, ⟨by rw [e5 19 (by decide)]; exact h5.1, h5.2⟩, vr_U_of h6 (f d 5 (by omega)) (fun k j _ _ => f k j (by omega)) ⟨e5 20 (by decide), e5 24 (by decide)⟩ (fun k j hk => e k j (by omega) (by omega) (by omega))⟩, ts_pm_of hp (fun k j _ _ => f k j (by omega)), re_of_in hr e5 (fun k j _ _ _ => e k j (by omega) (by omega) (by omega)), by rw [f d 6 (by omega), e5 29 (by decide)]; exact hl⟩, ⟨fun j hj => ?_, fun j hj => ?_, ?_, fun j hj => ?_, sm_x_of b5 (fun k j _ _ => f k j (by omega))⟩, fun j hj => ?_, ?_, fun j hj => ?_⟩
  · rw [f (d + 1 + 1) j (by omega), f (d + 1 + 2) j (by omega), f (d + 1 + 3) j (by omega), f (d + 1 + 4) j (by omega)]
    exact b1 j hj
  · rw [f (d + 9 + 1) j (by omega)]; exact b2 j hj
  · rw [f (d + 9) 2 (by omega)]; exact b3
  · rw [f 13 j (by omega)]
    refine ⟨?_, (b4 j hj).2⟩
    have q := (b4 j hj).1
    unfold qu_tk
    by_cases c : j = (A (d + 6) 3).toNat
    · rw [if_pos ⟨rfl, by omega, by omega⟩, c]
      omega
    · rw [if_neg (by omega), if_neg (by omega), if_neg (by omega), if_neg (by omega)]
      exact q
  · rw [e 64 j (by decide) (by decide) (by decide), e 65 j (by decide) (by decide) (by decide), e 66 j (by decide) (by decide) (by decide)]
    exact hb j hj
  · simp only [g_MO_comesIn]
    rw [am_up_s]
    omega
  · rw [e 60 j (by decide) (by decide) (by decide)]
    have q := hq.2 j hj
    refine ⟨q.1, ?_⟩
    simp only [g_MO_comesIn]
    rw [am_up_s, am_up_k (a := 68) _ _ (by decide), am_up_k (a := 68) _ _ (by decide), am_up_k (a := 69) _ _ (by decide), n0.1]
    by_cases c : j = (A (d + 6) 3).toNat
    · rw [c, am_up_s, am_up_s, g1]
      exact ⟨by omega, fun _ => ⟨⟨fun _ => by omega, fun _ => rfl⟩, by omega⟩⟩
    · rw [am_up_j _ _ c, am_up_j _ _ c, am_up_k _ _ (by decide)]
      exact ⟨q.2.1, fun w => q.2.2 (by omega)⟩
