/-! ranges of one course, and what the tick's two contracts ask for -/
theorem cv_nx {o p y : Int} (hp : 1 ≤ p ∧ p ≤ 60) (ho : 0 ≤ o ∧ o < p) (hy : 0 ≤ y) : 0 ≤ ma_nx o p y ∧ ma_nx o p y ≤ y + 60 := by
  have g := ma_nx_ge (o := o) (y := y) (show 0 < p by omega)
  by_cases c : o ≤ y
  · have := ma_nx_lt (y := y) (show 0 < p by omega) c
    omega
  · have : ma_nx o p y = o := by unfold ma_nx; rw [ma_rc_le (by omega)]; omega
    omega
/-- the reference's load -/
def re_b (B : am_M) : Prop := ∀ j, j < 5 → (0 ≤ B 64 j ∧ B 64 j ≤ 60) ∧ (0 ≤ B 65 j ∧ B 65 j ≤ 3000) ∧ (0 ≤ B 66 j ∧ B 66 j ≤ 60)
/-- the class's course -/
def cv_b (d : Nat) (m : Int) (A : am_M) : Prop := (∀ j, j < 5 → (0 ≤ A (d + 1 + 1) j ∧ A (d + 1 + 1) j ≤ 3000) ∧ (0 ≤ A (d + 1 + 2) j ∧ A (d + 1 + 2) j ≤ 60) ∧ (0 ≤ A (d + 1 + 3) j ∧ A (d + 1 + 3) j ≤ 60) ∧ (0 ≤ A (d + 1 + 4) j ∧ A (d + 1 + 4) j ≤ 3000)) ∧ (∀ j, j < 60 → 0 ≤ A (d + 9 + 1) j ∧ A (d + 9 + 1) j ≤ m) ∧ (0 ≤ A (d + 9) 2 ∧ A (d + 9) 2 ≤ 60) ∧ (∀ j, j < 40 → (0 ≤ A (d + 6 + 1) j ∧ A (d + 6 + 1) j ≤ 30) ∧ (A 13 j = 0 ∨ A 13 j = 1)) ∧ sm_x A
theorem mo_fg_ge {B : am_M} {k j : Nat} (hk : k ≠ 50) (h : B 50 1 ≤ j) : mo_fg B k j = B k j := by
  rw [mo_fg_e]
  unfold mo_gr
  rw [am_up_k _ _ hk, am_col_ge (by omega)]
theorem re_b_fg {B : am_M} (h : re_b B) (hs : sl_ok (mo_fg B)) (hD : tl_D (mo_fg B) 1) (hb : mo_ok B) (hn : 0 ≤ B 50 19 ∧ B 50 19 ≤ 2900) : re_b (mo_fg B) := fun j hj => by
  have e1 : mo_fg B 50 1 = B 50 1 := mo_fg_50 (by decide)
  have r := h j hj
  by_cases c : (j : Int) < B 50 1
  · have a1 := hs.2 j (by rw [e1]; exact c)
    have a2 := hD j (by rw [e1]; exact c)
    have b := hb.2 j c
    rw [mo_fg_c (k := 53) (by omega)] at a1 a2
    obtain ⟨g1, g2, g3⟩ := mo_fg_at c
    refine ⟨by omega, ?_, by omega⟩
    rw [g2]
    split <;> omega
  · rw [mo_fg_ge (by decide) (by omega), mo_fg_ge (by decide) (by omega), mo_fg_ge (by decide) (by omega)]
    exact r
theorem re_b_t1 {B : am_M} (h : re_b B) (hr : re_I B 0) (hm : B 50 19 ≤ 2000) : re_b (mo_t1 B) := by
  have ek : ∀ k j, k ≠ 50 → mo_t0 B k j = B k j := fun k j hk => mo_cb_k hk
  have e50 : ∀ j, j ≠ 24 → mo_t0 B 50 j = B 50 j := fun j hj => mo_cb_50 hj
  obtain ⟨q1, q2⟩ := re_top hr hm
  obtain ⟨o1, o2, o3⟩ := re_ok q1
  have ok := (re_ok hr).1.1
  have n := hr.2.2.1.1
  refine re_b_fg (B := mo_t0 B) (fun j hj => ?_) o1 o3 ?_ ?_
  · rw [ek 64 j (by decide), ek 65 j (by decide), ek 66 j (by decide)]
    exact h j hj
  · refine ⟨by rw [e50 1 (by decide)]; exact ok.1, fun r hr => ?_⟩
    rw [e50 1 (by decide)] at hr ⊢
    rw [ek 55 r (by decide), ek 51 r (by decide), ek 52 r (by decide), ek 53 r (by decide), ek 54 r (by decide)]
    exact ok.2 r hr
  · rw [e50 19 (by decide)]; omega
theorem re_b_tick {B : am_M} (h : re_b B) (hr : re_I B 0) (hm : B 50 19 < 2000) : re_b (g_MO_tickOne [.inr (.inl 50)] B) := fun j hj => by
  have t := re_b_t1 h hr (by omega) j hj
  obtain ⟨q1, q2⟩ := re_tick hr hm
  obtain ⟨o1, o2, o3⟩ := re_ok q1
  obtain ⟨p1, p2, p3, p4⟩ := mo_one_e (B := B)
  have e : ∀ k, k = 65 ∨ k = 66 → g_MO_tickOne [.inr (.inl 50)] B k j = mo_t1 B k j := fun k hk => (p1 k j (by omega) (by omega)).trans (by
    unfold mo_wm
    split
    · exact (mo_s3_k (by omega)).trans (mo_s2_k (by omega) (by omega))
    · split
      · rfl
      · exact am_up_k _ _ (by omega))
  have n1 : g_MO_tickOne [.inr (.inl 50)] B 50 1 = B 50 1 := by
    rw [p2 1 (by decide), mo_wm_50 (by decide), mo_t1_50 (by decide) (by decide)]
  have ok := (re_ok hr).1.1
  refine ⟨?_, by rw [e 65 (by decide)]; exact t.2.1, by rw [e 66 (by decide)]; exact t.2.2⟩
  by_cases c : (j : Int) < B 50 1
  · have a1 := o1.2 j (by rw [n1]; exact c)
    have a2 := o3 j (by rw [n1]; exact c)
    have b := ok.2 j c
    rw [show g_MO_tickOne [.inr (.inl 50)] B 53 j = B 53 j from mo_one_k (by omega) (by omega)] at a2
    omega
  · rw [p1 64 j (by decide) (by decide)]
    obtain ⟨v, v1, v2, v3, v4, v5⟩ := re_wm (B := mo_t1 B) (re_top hr (by omega)).1.2.2.1.2.2.1.2 (re_top hr (by omega)).1.2.2.1.1
    rcases v5 with ⟨w1, w2⟩ | ⟨w1, w2, w3⟩
    · rw [w1]; exact t.1
    · rw [w3, if_neg]
      · exact t.1
      · intro q
        have ok1 := (re_ok (re_top hr (by omega)).1).1.1
        have e1 : mo_t1 B 50 1 = B 50 1 := mo_t1_50 (by decide) (by decide)
        unfold mo_rt at q w1
        by_cases w : (mo_rk (mo_t1 B) : Int) < mo_t1 B 50 1
        · rw [if_pos w] at q
          have := (ok1.2 _ w).1
          omega
        · rw [if_neg w] at w1
          exact w1 rfl
theorem re_P {B : am_M} (h : re_b B) (hr : re_I B 0) (hm : B 50 19 < 2000) (hq : (0 ≤ B 50 26 ∧ B 50 26 ≤ 40) ∧ ∀ j, j < 40 → (0 ≤ B 68 j ∧ B 68 j ≤ 30) ∧ (B 60 j = 0 ∨ B 60 j = 1)) : P_MO_tickOne [.inr (.inl 50)] B := by
  have ek : ∀ k j, k ≠ 50 → mo_t0 B k j = B k j := fun k j hk => mo_cb_k hk
  have e50 : ∀ j, j ≠ 24 → mo_t0 B 50 j = B 50 j := fun j hj => mo_cb_50 hj
  have fk : ∀ k j, k ≠ 50 → (k < 64 ∨ 66 < k) → mo_t1 B k j = B k j := fun k j hk h2 => mo_t1_k hk h2
  have f50 : ∀ j, j ≠ 24 → j ≠ 29 → mo_t1 B 50 j = B 50 j := fun j a b => mo_t1_50 a b
  obtain ⟨q1, q2⟩ := re_top hr (by omega)
  have t1 := re_b_t1 h hr (by omega)
  have ok := (re_ok hr).1.1
  have ok1 := (re_ok q1).1.1
  have n := hr.2.2.1.1
  have kd := hr.1
  have l0 := q1.2.2.1.2.2.1.1
  have g24 : mo_t1 B 50 24 ≤ 60 := by
    obtain ⟨c1, c2, c3, c4, c5⟩ := q1
    obtain ⟨d1, d2, d3, d4, d5, d6, d7⟩ := c3
    have U : ∀ x y : Nat, x ≤ y → 0 ≤ bg_U (mo_t1 B) y - bg_U (mo_t1 B) x := fun x y hxy => by
      have := ma_su_s (bg_u (mo_t1 B)) (fun m => (bg_u_nn (z := 1) ⟨d1, d2, d3, d4, d5, d6, d7⟩ m).1) hxy
      unfold bg_U
      omega
    by_cases k1 : mo_t1 B 50 20 = 1
    · obtain ⟨i, i1, i2, i3⟩ := (d6 k1).1
      have := U (i * (mo_t1 B 57 1).toNat) (mo_t1 B 50 19).toNat (by omega)
      have := d2.1
      omega
    · by_cases k2 : mo_t1 B 50 20 = 2
      · have a := (d7 k2).1
        have := U ((mo_t1 B 50 19).toNat + 1 - (mo_t1 B 57 2).toNat) (mo_t1 B 50 19).toNat (by have := d2.2; omega)
        have := d2.2
        omega
      · have := d3.2 (by omega)
        omega
  refine ⟨rfl, ⟨rfl, by omega, ⟨by omega, by omega⟩, hr.2.2.1.2.1⟩, ⟨rfl, ?_, ?_, fun j hj => ?_⟩, ⟨rfl, ?_, fun j hj => ?_⟩, ⟨rfl, ok1, fun j hj => ?_⟩, ⟨rfl, ⟨ok1, ?_, fun j hj => ?_⟩, ?_, ?_⟩, ?_, fun j hj => ?_⟩
  · refine ⟨by rw [e50 1 (by decide)]; exact ok.1, fun r hr => ?_⟩
    rw [e50 1 (by decide)] at hr ⊢
    rw [ek 55 r (by decide), ek 51 r (by decide), ek 52 r (by decide), ek 53 r (by decide), ek 54 r (by decide)]
    exact ok.2 r hr
  · rw [e50 19 (by decide)]; omega
  · rw [ek 64 j (by decide), ek 65 j (by decide), ek 66 j (by decide)]
    have := h j hj
    exact ⟨⟨by omega, by omega⟩, ⟨by omega, by omega⟩, ⟨by omega, by omega⟩⟩
  · rw [f50 26 (by decide) (by decide)]; exact hq.1
  · rw [fk 68 j (by decide) (by omega), fk 60 j (by decide) (by omega)]
    have := hq.2 j hj
    exact ⟨⟨by omega, by omega⟩, this.2⟩
  · have := t1 j hj
    exact ⟨by omega, by omega⟩
  · rw [f50 19 (by decide) (by decide)]; omega
  · have := t1 j hj
    omega
  · rw [f50 20 (by decide) (by decide)]; exact ⟨by omega, by omega⟩
  · exact ⟨by omega, by omega⟩
  · rw [f50 19 (by decide) (by decide)]; omega
  · rw [fk 68 j (by decide) (by omega)]
    have := hq.2 j hj
    omega
theorem bg_left {B : am_M} (h : bg_I B 0) (hk : 0 ≤ B 50 20 ∧ B 50 20 ≤ 3) : B 50 24 ≤ 60 := by
  obtain ⟨d1, d2, d3, d4, d5, d6, d7⟩ := h
  have U : ∀ x y : Nat, x ≤ y → 0 ≤ bg_U B y - bg_U B x := fun x y hxy => by
    have := ma_su_s (bg_u B) (fun m => (bg_u_nn (z := 0) ⟨d1, d2, d3, d4, d5, d6, d7⟩ m).1) hxy
    unfold bg_U
    omega
  by_cases k1 : B 50 20 = 1
  · obtain ⟨i, i1, i2, i3⟩ := (d6 k1).1
    have := U (i * (B 57 1).toNat) (B 50 19).toNat (by omega)
    have := d2.1
    omega
  · by_cases k2 : B 50 20 = 2
    · have a := (d7 k2).1
      have := U ((B 50 19).toNat + 0 - (B 57 2).toNat) (B 50 19).toNat (by have := d2.2; omega)
      have := d2.2
      omega
    · have := d3.2 (by omega)
      omega
theorem cv_at {d : Nat} (hd : d = 26 ∨ d = 37) : co_at d := by
  rcases hd with e | e <;> subst e
  · exact ⟨rfl, ⟨rfl, rfl, rfl, rfl, rfl, by decide, by decide⟩, ⟨rfl, rfl, rfl, by decide, by decide⟩, ⟨rfl, rfl, by decide, by decide⟩, Or.inl rfl⟩
  · exact ⟨rfl, ⟨rfl, rfl, rfl, rfl, rfl, by decide, by decide⟩, ⟨rfl, rfl, rfl, by decide, by decide⟩, ⟨rfl, rfl, by decide, by decide⟩, Or.inr rfl⟩
theorem cv_P {d : Nat} {m : Int} {A B : am_M} (hd : d = 26 ∨ d = 37) (h : cv_I d m A B) (hb : cv_b d m A) (hm : m < 2000) : P_CO_step [.inr (.inl d), .inl m] A := by
  obtain ⟨⟨h1, h2, h3, h4, h5, h6⟩, hp, hr, hl⟩ := h
  obtain ⟨b1, b2, b3, b4, b5⟩ := hb
  obtain ⟨u1, u2, u3, u4, u5, u55, u7, u8⟩ := h6
  have w40 : A (d + 6) 4 ≤ 40 ∧ 0 ≤ A (d + 6) 4 := by
    rw [h4.2.2]
    have a1 := ma_su_le (f := fun j => if 0 < A (d + 6 + 1) j then 1 else 0) (g := fun _ => 1) (n := (A (d + 6) 3).toNat) (fun j _ => by show (if 0 < A (d + 6 + 1) j then (1 : Int) else 0) ≤ 1; split <;> omega)
    have a2 : ∀ n : Nat, ma_su (fun _ => (1 : Int)) n = n := fun n => by
      induction n with
      | zero => rfl
      | succ n ih => simp only [ma_su]; rw [ih]; omega
    have a3 : 0 ≤ ma_su (fun j => if 0 < A (d + 6 + 1) j then (1 : Int) else 0) (A (d + 6) 3).toNat := ma_su_nn (fun j _ => by split <;> omega)
    rw [a2] at a1
    have := h4.1
    omega
  have l1 := bg_left hr.2.2.1 hr.1
  have l0 := hr.2.2.1.2.2.1.1
  refine ⟨cv_at hd, h2, fun j hj => ?_, b5, by omega, ⟨by have := h4.1; omega, by omega, fun j hj => ?_, u3, by omega, u2, by omega, b3, fun j hj => ?_⟩⟩
  · have := b1 j hj
    omega
  · have c := b4 j hj
    exact ⟨by omega, c.2⟩
  · have := b2 j hj
    omega
theorem co_rd_ge {d : Nat} {m : Int} {A : am_M} {k j : Nat} (h : A 1 5 ≤ j) : co_rd d m A k j = A k j := am_col_ge (by omega)
theorem co_rn_ge {d r : Nat} {A : am_M} {k j : Nat} (h2 : ts_ok A) (h : A 1 5 ≤ j) : co_rn d r A k j = A k j := by
  unfold co_rn
  simp only [g_LO_run]
  split
  · rename_i c
    have := (h2.2 r (by omega)).1
    refine am_up_j _ _ (fun q => ?_)
    rw [Int.toNat_natCast] at q
    omega
  · rfl
/-- a course's cells of tasks that are not there stay -/
theorem co_step_ge {d : Nat} {m : Int} {A : am_M} {k j : Nat} (hd : 25 < d) (h2 : ts_ok A) (h : A 1 5 ≤ j) (hk : d + 2 ≤ k ∧ k ≤ d + 5) : g_CO_step [.inr (.inl d), .inl m] A k j = A k j := by
  simp only [g_CO_step]
  rw [am_up_k _ _ (by omega)]
  have e0 : ∀ k, (k < 7 ∨ (d + 2 ≤ k ∧ k ≤ d + 5)) → ∀ j : Nat, A 1 5 ≤ j ∨ k < 7 → co_s0 d m A k j = A k j := fun k hk j hj => by
    unfold co_s0
    have c : co_cb d m A k j = A k j := bu_cb_k (by omega) (by omega)
    have c1 : co_cb d m A 1 5 = A 1 5 := bu_cb_k (by omega) (by omega)
    by_cases q : k < 7
    · rw [co_rd_k (by omega), c]
    · rw [co_rd_ge (by rw [c1]; omega), c]
  have f : co_s0 d m A k j = A k j := e0 k (by omega) j (by omega)
  have g2 : ts_ok (co_s0 d m A) := ts_ok_of h2 (fun k j _ _ => e0 k (by omega) j (by omega))
  have g15 : co_s0 d m A 1 5 = A 1 5 := e0 1 (by omega) 5 (by omega)
  unfold co_s1
  simp only [g_CO_runOne]
  have m2 : ts_ok (co_mm d m (co_s0 d m A)) := ts_ok_of g2 (fun k j _ _ => co_mm_k (by omega))
  have m15 : co_mm d m (co_s0 d m A) 1 5 = A 1 5 := (co_mm_k (by omega)).trans g15
  have mk : co_mm d m (co_s0 d m A) k j = A k j := (co_mm_k (by omega)).trans f
  split
  · split
    · exact f
    · rw [co_rn_ge g2 (by omega), f]
  · split
    · rw [co_sv_k2 (by omega), f]
    · split
      · split
        · rw [co_sv_k2 (by omega), mk]
        · rw [co_rn_ge m2 (by omega), mk]
      · rw [co_rn_ge g2 (by omega), f]
theorem sm_lp_B : ∀ (n : Nat) (a s q : Int) (M : am_M), sm_B M q → (0 ≤ a ∧ a + n ≤ 150000) → (0 ≤ q ∧ q + n ≤ 150000) → sm_x (sm_lp n a s M).2
  | 0, _, _, _, _, h, _, _ => h.2.1
  | n + 1, a, s, q, M, h, ha, hq => by
    simp only [sm_lp]
    split
    · exact sm_lp_B n (a + 1) _ (q + 1) _ (sm_tk_B h (by omega) (by omega)) (by omega) (by omega)
    · exact h.2.1
theorem cv_mm_x {d : Nat} {m : Int} {A : am_M} (hd : 25 < d) (h2 : ts_ok A) (h3 : lo_in (d + 1) A) (h : sm_x A) (hm : 0 ≤ m ∧ m ≤ 40000) : sm_x (co_mm d m A) := by
  have L := sm_L_b (b := d + 1) (m := m) (by omega) h2 h3 (by omega)
  have q := sm_lp_B (sm_L (d + 1) A m - m).toNat m 1 0 (sm_P (d + 1) A) (sm_P_B (by omega) h2 h3 h) (by omega) (by omega)
  exact q
theorem sm_x_of {A A' : am_M} (h : sm_x A) (e : ∀ k j, 20 ≤ k → k ≤ 25 → A' k j = A k j) : sm_x A' := fun j hj => by
  rw [e 20 j (by omega) (by omega), e 21 j (by omega) (by omega), e 22 j (by omega) (by omega), e 23 j (by omega) (by omega), e 24 j (by omega) (by omega), e 25 j (by omega) (by omega)]
  exact h j hj
/-- the meter's cells stay small -/
theorem co_step_x {d : Nat} {m : Int} {A : am_M} (hd : 25 < d) (h2 : ts_ok A) (h3 : lo_st d A) (h : sm_x A) (hm : 0 ≤ m ∧ m ≤ 40000) : sm_x (g_CO_step [.inr (.inl d), .inl m] A) := by
  have c2 : ts_ok (co_cb d m A) := ts_ok_of h2 (fun k j _ _ => bu_cb_k (by omega) (by omega))
  have c3 : lo_st d (co_cb d m A) := fun j hj => by
    have e : ∀ k, k < d + 6 → co_cb d m A k j = A k j := fun k hk => bu_cb_k (by omega) (by omega)
    rw [e _ (by omega), e _ (by omega), e _ (by omega), e _ (by omega)]
    exact h3 j hj
  have x0 : sm_x (co_s0 d m A) := sm_x_of h (fun k j _ _ => (co_rd_k (by omega)).trans (bu_cb_k (by omega) (by omega)))
  have t0 : ts_ok (co_s0 d m A) := ts_ok_of c2 (fun k j _ _ => co_rd_k (by omega))
  have l0 : lo_in (d + 1) (co_s0 d m A) := co_rd_in c2 c3 (by omega)
  have xm : sm_x (co_mm d m (co_s0 d m A)) := cv_mm_x hd t0 l0 x0 hm
  have xs : sm_x (co_s1 d m A) := by
    unfold co_s1
    simp only [g_CO_runOne]
    split
    · split
      · exact x0
      · exact sm_x_of x0 (fun k j _ _ => co_rn_k (by omega))
    · split
      · exact sm_x_of x0 (fun k j _ _ => co_sv_k2 (by omega))
      · split
        · split
          · exact sm_x_of xm (fun k j _ _ => co_sv_k2 (by omega))
          · exact sm_x_of xm (fun k j _ _ => co_rn_k (by omega))
        · exact sm_x_of x0 (fun k j _ _ => co_rn_k (by omega))
  simp only [g_CO_step]
  exact sm_x_of xs (fun k j _ _ => am_up_k _ _ (by omega))
/-- a row of cells that a run changes only in one way -/
theorem co_step_one {d : Nat} {m : Int} {A : am_M} {Z : am_M → Prop} (h0 : Z (co_s0 d m A)) (hm : ∀ X, Z X → Z (co_mm d m X)) (hs : ∀ X r, Z X → Z (co_sv d m r X)) (hr : ∀ X r, Z X → Z (co_rn d r X)) (he : ∀ X v, Z X → Z (am_up X d 6 v)) : Z (g_CO_step [.inr (.inl d), .inl m] A) := by
  simp only [g_CO_step]
  refine he _ _ ?_
  unfold co_s1
  simp only [g_CO_runOne]
  split
  · split
    · exact h0
    · exact hr _ _ h0
  · split
    · exact hs _ _ h0
    · split
      · split
        · exact hs _ _ (hm _ h0)
        · exact hr _ _ (hm _ h0)
      · exact hr _ _ h0
theorem qu_sv_le {c : Nat} {r m : Int} {M : am_M} {j : Nat} : g_QU_serve [.inr (.inl c), .inl r, .inl m] M (c + 1) j ≤ M (c + 1) j := by
  simp only [g_QU_serve]
  split
  · split
    · rw [am_up_k _ _ (by omega), am_up_k _ _ (by omega)]
      by_cases q : j = r.toNat
      · rw [q, am_up_s]; omega
      · rw [am_up_j _ _ q]; exact Int.le_refl _
    · by_cases q : j = r.toNat
      · rw [q, am_up_s]; omega
      · rw [am_up_j _ _ q]; exact Int.le_refl _
  · exact Int.le_refl _
theorem cv_b_tick {d : Nat} {m : Int} {A B : am_M} (hd : d = 26 ∨ d = 37) (h : cv_I d m A B) (hb : cv_b d m A) (hrb : re_b B) (hm : m < 2000) : cv_b d (m + 1) (g_CO_step [.inr (.inl d), .inl m] A) := by
  obtain ⟨-, hI'⟩ := cv_tick hd h hm
  obtain ⟨⟨h1, h2, h3, h4, h5, h6⟩, hp, hr, hl⟩ := h
  obtain ⟨⟨k1, k2, k3, k4, k5, k6⟩, kp, kr, kl⟩ := hI'
  obtain ⟨b1, b2, b3, b4, b5⟩ := hb
  have rb := re_b_tick hrb hr (by omega)
  have e15 : g_CO_step [.inr (.inl d), .inl m] A 1 5 = A 1 5 := co_step_k (by omega) (by omega)
  have st : lo_st d A := fun j hj => by have := b1 j hj; omega
  refine ⟨fun j hj => ?_, fun j hj => ?_, ?_, fun j hj => ⟨⟨?_, ?_⟩, ?_⟩, co_step_x (by omega) h2 st b5 (by omega)⟩
  · by_cases c : (j : Int) < A 1 5
    · obtain ⟨l1, l2, l3, l4⟩ := k3 j (by rw [e15]; exact c)
      have t := k2.2 j (by rw [e15]; exact c)
      have q := rb j hj
      have nx := cv_nx (o := g_CO_step [.inr (.inl d), .inl m] A 3 j) (p := g_CO_step [.inr (.inl d), .inl m] A 2 j) (y := m + 1) (by omega) (by omega) (by omega)
      rw [l1, l2, ← l3, ← l4]
      refine ⟨by omega, ?_, q.1, q.2.1⟩
      split <;> omega
    · rw [co_step_ge (by omega) h2 (by omega) (by omega), co_step_ge (by omega) h2 (by omega) (by omega), co_step_ge (by omega) h2 (by omega) (by omega), co_step_ge (by omega) h2 (by omega) (by omega)]
      exact b1 j hj
  · have top : 0 ≤ co_s0 d m A (d + 9 + 1) j ∧ co_s0 d m A (d + 9 + 1) j ≤ m := by
      have e : co_s0 d m A (d + 9 + 1) j = co_cb d m A (d + 9 + 1) j := co_rd_k (by omega)
      rw [e]
      unfold co_cb
      simp only [g_BU_comeBack]
      have := b2 j hj
      split
      · rw [am_up_k _ _ (by omega)]; exact this
      · split
        · by_cases q : j = (m % A (d + 9) 3).toNat
          · rw [q, am_up_s]; omega
          · rw [am_up_j _ _ q, am_up_k _ _ (by omega)]; exact this
        · exact this
    have key : ∀ X : am_M, X (d + 9 + 1) j = co_s0 d m A (d + 9 + 1) j → ∀ r, 0 ≤ co_sv d m r X (d + 9 + 1) j ∧ co_sv d m r X (d + 9 + 1) j ≤ m + 1 := fun X hX r => by
      rw [(co_sv_b (d := d) (m := m) (r := r) (X := X)).2.2 j]
      simp only [g_BU_take]
      split
      · by_cases q : j = (m % X (d + 9) 3).toNat
        · rw [q, am_up_s, ← q]; omega
        · rw [am_up_j _ _ q, am_up_k _ _ (by omega)]; omega
      · omega
    simp only [g_CO_step]
    rw [am_up_k _ _ (by omega)]
    unfold co_s1
    simp only [g_CO_runOne]
    have mk : co_mm d m (co_s0 d m A) (d + 9 + 1) j = co_s0 d m A (d + 9 + 1) j := co_mm_k (by omega)
    split
    · split
      · omega
      · rw [co_rn_k (by omega)]; omega
    · split
      · exact key _ rfl _
      · split
        · split
          · exact key _ mk _
          · rw [co_rn_k (by omega), mk]; omega
        · rw [co_rn_k (by omega)]; omega
  · have Z := co_step_one (d := d) (m := m) (A := A) (Z := fun X => X (d + 9) 2 = A (d + 9) 2) ?_ (fun X hX => (co_mm_k (by omega)).trans hX) (fun X r hX => ((co_sv_b).1 2 (by decide)).trans hX) (fun X r hX => (co_rn_k (by omega)).trans hX) (fun X v hX => (am_up_k _ _ (by omega)).trans hX)
    · rw [Z]; exact b3
    · have e : co_s0 d m A (d + 9) 2 = co_cb d m A (d + 9) 2 := co_rd_k (by omega)
      show co_s0 d m A (d + 9) 2 = A (d + 9) 2
      rw [e]
      unfold co_cb
      simp only [g_BU_comeBack]
      split
      · exact am_up_j _ _ (by decide)
      · split
        · rw [am_up_k _ _ (by omega), am_up_j _ _ (by decide)]
        · rfl
  · have e3 : g_CO_step [.inr (.inl d), .inl m] A (d + 6) 3 = A (d + 6) 3 := k4.1.1.symm.trans ((mo_one_e.2.1 26 (by decide)).trans ((mo_wm_50 (by decide)).trans ((mo_t1_50 (by decide) (by decide)).trans h4.1.1)))
    by_cases c : (j : Int) < A (d + 6) 3
    · exact (k4.2.1 j (by rw [e3]; exact c)).2.1
    · have Z := co_step_one (d := d) (m := m) (A := A) (Z := fun X => X (d + 6) 3 = A (d + 6) 3 ∧ X (d + 6 + 1) j = A (d + 6 + 1) j) ?_ (fun X hX => ⟨(co_mm_k (by omega)).trans hX.1, (co_mm_k (by omega)).trans hX.2⟩) (fun X r hX => ?_) (fun X r hX => ⟨(co_rn_k (by omega)).trans hX.1, (co_rn_k (by omega)).trans hX.2⟩) (fun X v hX => ⟨(am_up_k _ _ (by omega)).trans hX.1, (am_up_k _ _ (by omega)).trans hX.2⟩)
      · rw [Z.2]; exact (b4 j hj).1.1
      · exact ⟨(co_rd_k (by omega)).trans (bu_cb_k (by omega) (by omega)), (co_rd_k (by omega)).trans (bu_cb_k (by omega) (by omega))⟩
      · have t3 : g_BU_take [.inr (.inl (d + 9)), .inl m] X (d + 6) 3 = A (d + 6) 3 := (bu_tk_k (by omega) (by omega)).trans hX.1
        have t1 : g_BU_take [.inr (.inl (d + 9)), .inl m] X (d + 6 + 1) j = A (d + 6 + 1) j := (bu_tk_k (by omega) (by omega)).trans hX.2
        show co_sv d m r X (d + 6) 3 = A (d + 6) 3 ∧ co_sv d m r X (d + 6 + 1) j = A (d + 6 + 1) j
        unfold co_sv
        simp only [g_QU_serve]
        split
        · rename_i w
          rw [t3] at w
          split
          · rw [am_up_j _ _ (by decide), am_up_k _ _ (by omega), am_up_k _ _ (by omega), am_up_k _ _ (by omega), am_up_k _ _ (by omega), am_up_j _ _ (by omega)]
            exact ⟨t3, t1⟩
          · rw [am_up_k _ _ (by omega), am_up_j _ _ (by omega)]
            exact ⟨t3, t1⟩
        · exact ⟨t3, t1⟩
  · refine co_step_one (d := d) (m := m) (A := A) (Z := fun X => X (d + 6 + 1) j ≤ 30) ?_ (fun X hX => ?_) (fun X r hX => ?_) (fun X r hX => ?_) (fun X v hX => ?_)
    · show co_s0 d m A (d + 6 + 1) j ≤ 30
      have e : co_s0 d m A (d + 6 + 1) j = A (d + 6 + 1) j := (co_rd_k (by omega)).trans (bu_cb_k (by omega) (by omega))
      rw [e]; exact (b4 j hj).1.2
    · show co_mm d m X (d + 6 + 1) j ≤ 30
      rw [co_mm_k (by omega)]; exact hX
    · show co_sv d m r X (d + 6 + 1) j ≤ 30
      unfold co_sv
      have a := qu_sv_le (c := d + 6) (r := r) (m := m) (M := g_BU_take [.inr (.inl (d + 9)), .inl m] X) (j := j)
      rw [bu_tk_k (u := d + 9) (k := d + 6 + 1) (by omega) (by omega)] at a
      have hX' : X (d + 6 + 1) j ≤ 30 := hX
      omega
    · show co_rn d r X (d + 6 + 1) j ≤ 30
      rw [co_rn_k (by omega)]; exact hX
    · show am_up X d 6 v (d + 6 + 1) j ≤ 30
      rw [am_up_k _ _ (by omega)]; exact hX
  · rw [co_step_k (by omega) (by omega)]
    exact (b4 j hj).2
/-- the reference's queue -/
def re_q (B : am_M) : Prop := (0 ≤ B 50 26 ∧ B 50 26 ≤ 40) ∧ ∀ j, j < 40 → (B 60 j = 0 ∨ B 60 j = 1) ∧ (0 ≤ B 68 j ∧ B 68 j ≤ 30) ∧ ((j : Int) < B 50 26 → (B 69 j = -1 ↔ 0 < B 68 j) ∧ (-1 ≤ B 69 j ∧ B 69 j ≤ 2001))
theorem re_q_of {B B' : am_M} (h : re_q B) (e1 : B' 50 26 = B 50 26) (e : ∀ k j, k = 60 ∨ k = 68 ∨ k = 69 → B' k j = B k j) : re_q B' := by
  refine ⟨by rw [e1]; exact h.1, fun j hj => ?_⟩
  rw [e1, e 60 j (by omega), e 68 j (by omega), e 69 j (by omega)]
  exact h.2 j hj
theorem re_q_s2 {B : am_M} (h : re_q B) (hf : mo_fj B ≠ -1) (hm : 0 ≤ B 50 19 ∧ B 50 19 ≤ 2000) : re_q (mo_s2 B) := by
  have p := mo_fj_p h.1.1 hf
  have e1 : mo_s2 B 50 26 = B 50 26 := mo_s2_k (by decide) (by decide)
  have e60 : ∀ j, mo_s2 B 60 j = B 60 j := fun j => mo_s2_k (by decide) (by decide)
  refine ⟨by rw [e1]; exact h.1, fun j hj => ?_⟩
  obtain ⟨a, b, c⟩ := h.2 j hj
  rw [e1, e60]
  refine ⟨a, ?_⟩
  unfold mo_s2 mo_s1
  rw [am_up_s, am_up_k (a := 50) _ _ (by decide)]
  by_cases z : B 68 (mo_fj B).toNat - 1 = 0
  · rw [if_pos z, am_up_k (a := 68) _ _ (by decide)]
    by_cases q : j = (mo_fj B).toNat
    · rw [q, am_up_s, am_up_s, z]
      exact ⟨by omega, fun _ => ⟨⟨fun w => by omega, fun w => by omega⟩, by omega⟩⟩
    · rw [am_up_j _ _ q, am_up_j _ _ q, am_up_j _ _ q]
      exact ⟨b, c⟩
  · rw [if_neg z, am_up_k (a := 69) _ _ (by decide)]
    by_cases q : j = (mo_fj B).toNat
    · rw [q, am_up_s]
      rw [q] at b c
      refine ⟨by omega, fun w => ?_⟩
      have := c w
      exact ⟨⟨fun _ => by omega, fun _ => this.1.2 p.2⟩, this.2⟩
    · rw [am_up_j _ _ q]
      exact ⟨b, c⟩
theorem re_q_tick {B : am_M} (h : re_q B) (hm : 0 ≤ B 50 19 ∧ B 50 19 ≤ 2000) : re_q (g_MO_tickOne [.inr (.inl 50)] B) := by
  obtain ⟨o1, o2, o3, o4⟩ := mo_one_e (B := B)
  have e19 : mo_t1 B 50 19 = B 50 19 := mo_t1_50 (by decide) (by decide)
  have t : re_q (mo_t1 B) := re_q_of h (mo_t1_50 (by decide) (by decide)) (fun k j hk => mo_t1_k (by omega) (by omega))
  have w : re_q (mo_wm (mo_t1 B)) := by
    unfold mo_wm
    split
    · rename_i c
      exact re_q_of (re_q_s2 t c.1 (by omega)) ((mo_s3_50 (by decide)).trans (mo_s2_k (by decide) (by decide)).symm) (fun k j hk => mo_s3_k (by omega))
    · split
      · exact t
      · exact re_q_of t (am_up_k _ _ (by decide)) (fun k j hk => am_up_k _ _ (by omega))
  exact re_q_of w (o2 26 (by decide)) (fun k j hk => o1 k j (by omega) (by omega))
/-- ONE TICK, all together -/
def cv_A (d : Nat) (m : Int) (A B : am_M) : Prop := cv_I d m A B ∧ cv_b d m A ∧ re_b B ∧ re_q B
theorem cv_A_tick {d : Nat} {m : Int} {A B : am_M} (hd : d = 26 ∨ d = 37) (h : cv_A d m A B) (hm : m < 2000) : P_CO_step [.inr (.inl d), .inl m] A ∧ P_MO_tickOne [.inr (.inl 50)] B ∧ mo_wh (mo_t1 B) = co_rw d m (co_s0 d m A) ∧ cv_A d (m + 1) (g_CO_step [.inr (.inl d), .inl m] A) (g_MO_tickOne [.inr (.inl 50)] B) := by
  obtain ⟨h1, h2, h3, h4⟩ := h
  obtain ⟨w, n⟩ := cv_tick hd h1 hm
  have e19 := h1.1.2.2.2.2.1
  refine ⟨cv_P hd h1 h2 hm, re_P h3 h1.2.2.1 (by omega) ⟨h4.1, fun j hj => ⟨(h4.2 j hj).2.1, (h4.2 j hj).1⟩⟩, w, n, cv_b_tick hd h1 h2 h3 hm, re_b_tick h3 h1.2.2.1 (by omega), re_q_tick h4 (by omega)⟩
