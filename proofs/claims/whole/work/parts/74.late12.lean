/-! nobody is late: rules 1 and 2 -/
/-- the most that the ranks below n can ask for in a window -/
def tl_d (B : am_M) (x y : Int) (n : Nat) : Int := ma_A (fun j => B 52 (B 55 j).toNat) (fun j => B 51 (B 55 j).toNat) (fun j => B 53 (B 55 j).toNat) (fun _ => 0) x y n
def tl_H (B : am_M) (k : Nat) (R : Int) : Prop := 0 ≤ R ∧ R ≤ B 54 (B 55 k).toNat ∧ B 53 (B 55 k).toNat + mo_dem B (B 50 20) R + ma_f (fun j => B 51 (B 55 j).toNat) (fun j => B 53 (B 55 j).toNat) k R ≤ R
/-- s: nothing of the rank or above it waited then -/
def tl_Y (B : am_M) (z : Int) (k : Nat) : Prop := ∃ (R : Int) (s : Nat), tl_H B k R ∧ (s : Int) ≤ B 50 19 ∧ (B 50 19 = s ∨ B 50 19 - s < R) ∧ B 50 19 - s + mo_pw B (k + 1) ≤ tl_d B s (B 50 19 + z) (k + 1) + (bg_U B (B 50 19).toNat - bg_U B s) ∧ (0 < B 64 (B 55 k).toNat → s + B 54 (B 55 k).toNat ≤ B 65 (B 55 k).toNat)
def tl_J (B : am_M) (z : Int) : Prop := sl_ok B ∧ mo_pm B ∧ tl_D B z ∧ ∀ k : Nat, (k : Int) < B 50 1 → tl_Y B z k
theorem tl_dueJ {B : am_M} {z : Int} (h : tl_J B z) {t : Nat} (ht : (t : Int) < B 50 1) (hp : 0 < B 64 t) : B 50 19 < B 65 t := by
  obtain ⟨hb, hpm, hD, hX⟩ := h
  obtain ⟨r, hr, e⟩ := hpm.2 t ht
  obtain ⟨R, s, a1, a2, a3, a4, a5⟩ := hX r hr
  have b := hb.1.2 t ht
  have e1 : (B 55 r).toNat = t := by omega
  rw [e1] at a5
  have a6 := a5 hp
  have a7 := a1.2.1
  rw [e1] at a7
  omega
theorem tl_enJ {B : am_M} {z : Int} (hz : 0 ≤ z) (h : tl_J B z) {r : Nat} (hr : (r : Int) < B 50 1) : B 50 19 < mo_en B z (B 55 r).toNat := by
  have t1 := (h.1.1.2 r hr).1
  have t2 := h.1.1.2 (B 55 r).toNat (by omega)
  unfold mo_en
  by_cases c : 0 < B 64 (B 55 r).toNat
  · rw [if_pos c]; exact tl_dueJ h (by omega) c
  · rw [if_neg c]
    have := ma_nx_ge (o := B 52 (B 55 r).toNat) (p := B 51 (B 55 r).toNat) (y := B 50 19 + z) (by omega)
    unfold mo_nx
    omega
theorem tl_d_of {B B' : am_M} (e : ∀ k j, 51 ≤ k → k ≤ 55 → B' k j = B k j) (x y : Int) (n : Nat) : tl_d B' x y n = tl_d B x y n := by
  unfold tl_d
  simp only [e 55 _ (show 51 ≤ 55 by omega) (show 55 ≤ 55 by omega), e 51 _ (show 51 ≤ 51 by omega) (show 51 ≤ 55 by omega), e 52 _ (show 51 ≤ 52 by omega) (show 52 ≤ 55 by omega), e 53 _ (show 51 ≤ 53 by omega) (show 53 ≤ 55 by omega)]
theorem tl_H_of {B B' : am_M} {k : Nat} {R : Int} (h : tl_H B k R) (e : ∀ k j, 51 ≤ k → k ≤ 57 → B' k j = B k j) (e2 : B' 50 20 = B 50 20) : tl_H B' k R := by
  unfold tl_H mo_dem
  simp only [e2, e 55 _ (show 51 ≤ 55 by omega) (show 55 ≤ 57 by omega), e 51 _ (show 51 ≤ 51 by omega) (show 51 ≤ 57 by omega), e 53 _ (show 51 ≤ 53 by omega) (show 53 ≤ 57 by omega), e 54 _ (show 51 ≤ 54 by omega) (show 54 ≤ 57 by omega), e 56 _ (show 51 ≤ 56 by omega) (show 56 ≤ 57 by omega), e 57 _ (show 51 ≤ 57 by omega) (show 57 ≤ 57 by omega)]
  exact h
/-- INSTANCES BECOME READY -/
theorem tl_readyJ {B : am_M} (h : tl_J B 0) : tl_J (mo_fg B) 1 ∧ mo_fg B 50 29 = B 50 29 := by
  obtain ⟨hb, hpm, hD, hX⟩ := h
  have h : tl_J B 0 := ⟨hb, hpm, hD, hX⟩
  have e1 : mo_fg B 50 1 = B 50 1 := mo_fg_50 (by decide)
  have e19 : mo_fg B 50 19 = B 50 19 := mo_fg_50 (by decide)
  have e20 : mo_fg B 50 20 = B 50 20 := mo_fg_50 (by decide)
  have ec : ∀ k j, 51 ≤ k → k ≤ 57 → mo_fg B k j = B k j := fun k j h1 h2 => mo_fg_c (by omega)
  have tt : ∀ j : Nat, (j : Int) < B 50 1 → (((B 55 j).toNat : Nat) : Int) < B 50 1 := fun j hj => by
    have := (hb.1.2 j hj).1
    omega
  have h0 : ∀ t : Nat, (t : Int) < B 50 1 → (B 52 t ≤ B 50 19 ∧ (B 50 19 - B 52 t) % B 51 t = 0) → B 64 t = 0 := fun t ht c => by
    have b := hb.1.2 t ht
    have b2 := hb.2 t ht
    by_cases z : 0 < B 64 t
    · have d1 := tl_dueJ h ht z
      have d2 := (hD t ht).1 z
      have e0 : mo_nx B 0 t = B 50 19 := by unfold mo_nx; rw [Int.add_zero]; exact ma_be_nx (by omega) c
      omega
    · omega
  have eU : ∀ y, bg_U (mo_fg B) y = bg_U B y := bg_U_of e19 (fun x _ => mo_fg_k (by omega) (by omega))
  refine ⟨⟨sl_ok_fg hb, mo_pm_of hpm e1 (fun j => mo_fg_c (by omega)), fun t ht => ?_, fun k hk => ?_⟩, ?_⟩
  · rw [e1] at ht
    have b := hb.1.2 t ht
    have b2 := hb.2 t ht
    have d := hD t ht
    obtain ⟨g1, g2, g3⟩ := mo_fg_at ht
    rw [(tl_fg_t hb ht (h0 t ht)).2, g1, g2, mo_fg_c (by omega)]
    by_cases c : B 52 t ≤ B 50 19 ∧ (B 50 19 - B 52 t) % B 51 t = 0
    · have z := h0 t ht c
      rw [if_pos c, if_pos c, if_pos c, z]
      refine ⟨fun _ => by omega, ?_⟩
      split <;> omega
    · rw [if_neg c, if_neg c, if_neg c, Int.add_zero]
      exact d
  · rw [e1] at hk
    obtain ⟨R, s, a1, a2, a3, a4, a5⟩ := hX k hk
    rw [Int.add_zero] at a4
    refine ⟨R, s, tl_H_of a1 ec e20, by rw [e19]; exact a2, by rw [e19]; exact a3, ?_, ?_⟩
    · rw [e19, eU, eU, tl_d_of (B := B) (fun k j h1 h2 => ec k j h1 (by omega))]
      have key : mo_pw (mo_fg B) (k + 1) ≤ mo_pw B (k + 1) + (tl_d B s (B 50 19 + 1) (k + 1) - tl_d B s (B 50 19) (k + 1)) := by
        have q : mo_pw (mo_fg B) (k + 1) + tl_d B s (B 50 19) (k + 1) ≤ mo_pw B (k + 1) + tl_d B s (B 50 19 + 1) (k + 1) := by
          unfold mo_pw tl_d ma_A
          rw [← ma_su_add, ← ma_su_add]
          refine ma_su_le (fun j hj => ?_)
          have t1 := tt j (by omega)
          have b := hb.1.2 _ t1
          have b2 := hb.2 _ t1
          have hp : 0 < B 51 (B 55 j).toNat := by omega
          rw [ec 55 j (by omega) (by omega), (mo_fg_at t1).1]
          unfold ma_tm
          by_cases c : B 52 (B 55 j).toNat ≤ B 50 19 ∧ (B 50 19 - B 52 (B 55 j).toNat) % B 51 (B 55 j).toNat = 0
          · rw [if_pos c, ma_rc_be hp c, Int.sub_mul, Int.sub_mul, Int.add_mul]
            have : (if 0 < B 66 (B 55 j).toNat then B 66 (B 55 j).toNat else B 53 (B 55 j).toNat) ≤ B 53 (B 55 j).toNat := by split <;> omega
            simp only [show ¬ (0 : Int) < 0 by omega, false_and, if_false]
            omega
          · rw [if_neg c, ma_rc_nb hp c]
            simp only [show ¬ (0 : Int) < 0 by omega, false_and, if_false]
            omega
        omega
      omega
    · rw [ec 55 k (by omega) (by omega), ec 54 _ (by omega) (by omega)]
      obtain ⟨g1, g2, g3⟩ := mo_fg_at (tt k hk)
      rw [g1, g2]
      by_cases c : B 52 (B 55 k).toNat ≤ B 50 19 ∧ (B 50 19 - B 52 (B 55 k).toNat) % B 51 (B 55 k).toNat = 0
      · rw [if_pos c, if_pos c]
        exact fun _ => by omega
      · rw [if_neg c, if_neg c, Int.add_zero]
        exact a5
  · rw [mo_fg_e]
    unfold mo_gr
    rw [am_up_s]
    have : mo_lt B (B 50 1).toNat = 0 := ma_su_0 (fun j hj => by
      rw [if_neg]
      rintro ⟨w1, w2⟩
      have := tl_dueJ h (t := j) (by omega) w1
      omega)
    omega
theorem tl_dem_nn {B : am_M} (h : mo_rb B) (k : Int) {r : Int} (hr : 0 ≤ r) : 0 ≤ mo_dem B k r := by
  unfold mo_dem
  have b := h
  split
  · have := ma_ru_nn (r := if B 56 1 < r then r - B 56 1 else 0) (p := B 57 1) (by have := b.1; omega) (by split <;> omega)
    exact Int.mul_nonneg (by omega) (by have := b.1; omega)
  · split
    · exact Int.mul_nonneg (ma_ru_nn (by have := b.2; omega) hr) (by have := b.2; omega)
    · omega
/-- an empty level at the moment -/
theorem tl_Y_0 {B : am_M} {k : Nat} {R : Int} (hb : sl_ok B) (hk : (k : Int) < B 50 1) (hn : 0 ≤ B 50 19) (H : tl_H B k R) (h0 : mo_pw B (k + 1) ≤ 0) : tl_Y B 0 k := by
  have tt : ∀ j : Nat, (j : Int) < B 50 1 → (((B 55 j).toNat : Nat) : Int) < B 50 1 := fun j hj => by
    have := (hb.1.2 j hj).1
    omega
  have p0 : B 64 (B 55 k).toNat ≤ 0 := by
    have a1 := sl_pw_nn (n := k) hb (by omega)
    have a2 : mo_pw B (k + 1) = mo_pw B k + B 64 (B 55 k).toNat := rfl
    omega
  refine ⟨R, (B 50 19).toNat, H, by omega, Or.inl (by omega), ?_, fun w => by omega⟩
  rw [show (((B 50 19).toNat : Nat) : Int) = B 50 19 by omega, Int.add_zero]
  unfold tl_d
  rw [ma_A_0 (fun j hj => by have := hb.1.2 _ (tt j (by omega)); omega)]
  omega
/-- the next moment -/
theorem tl_Y_n {B : am_M} {k s : Nat} {R : Int} (hb : sl_ok B) (hg : bg_I B 0) (hkd : B 50 20 = 1 ∨ B 50 20 = 2) (hk : (k : Int) < B 50 1) (H : tl_H B k R) (hs : (s : Int) ≤ B 50 19 - 1) (hR : B 50 19 - 1 = s ∨ B 50 19 - 1 - s < R) (hq : B 50 19 - s + mo_pw B (k + 1) ≤ tl_d B s (B 50 19) (k + 1) + (bg_U B (B 50 19).toNat - bg_U B s)) (hd : 0 < B 64 (B 55 k).toNat → s + B 54 (B 55 k).toNat ≤ B 65 (B 55 k).toNat) : tl_Y B 0 k := by
  have tt : ∀ j : Nat, (j : Int) < B 50 1 → (((B 55 j).toNat : Nat) : Int) < B 50 1 := fun j hj => by
    have := (hb.1.2 j hj).1
    omega
  have bk := hb.1.2 _ (tt k hk)
  have f0 : 0 ≤ ma_f (fun j => B 51 (B 55 j).toNat) (fun j => B 53 (B 55 j).toNat) k R := ma_su_nn (fun j hj => by
    have b := hb.1.2 _ (tt j (by omega))
    exact Int.mul_nonneg (ma_ru_nn (show 0 < B 51 (B 55 j).toNat by omega) H.1) (show 0 ≤ B 53 (B 55 j).toNat by omega))
  have d0 := tl_dem_nn hg.2.1 (B 50 20) H.1
  have R1 : 1 ≤ R := by have := H.2.2; omega
  by_cases c : B 50 19 - s < R
  · exact ⟨R, s, H, by omega, Or.inr c, by rw [Int.add_zero]; exact hq, hd⟩
  · have e : B 50 19 = s + R := by omega
    refine tl_Y_0 hb hk (by omega) H ?_
    have w := bg_win hg hkd s R.toNat (by omega)
    rw [show (R.toNat : Int) = R by omega, show s + R.toNat = (B 50 19).toNat by omega] at w
    have own : tl_d B s (B 50 19) (k + 1) ≤ ma_f (fun j => B 51 (B 55 j).toNat) (fun j => B 53 (B 55 j).toNat) k R + B 53 (B 55 k).toNat := by
      have e2 : tl_d B s (B 50 19) (k + 1) = tl_d B s (B 50 19) k + ma_tm (B 52 (B 55 k).toNat) (B 51 (B 55 k).toNat) (B 53 (B 55 k).toNat) 0 s (B 50 19) := rfl
      have q1 : tl_d B s (B 50 19) k ≤ ma_f (fun j => B 51 (B 55 j).toNat) (fun j => B 53 (B 55 j).toNat) k R := by
        have q := ma_A_w (o := fun j => B 52 (B 55 j).toNat) (p := fun j => B 51 (B 55 j).toNat) (c := fun j => B 53 (B 55 j).toNat) (to := fun _ => 0) (x := s) (u := s) (y := B 50 19) (k := k) (fun j hj => by have := hb.1.2 _ (tt j (by omega)); omega) (fun j hj => by have := hb.1.2 _ (tt j (by omega)); omega) (fun j hj => by have := hb.1.2 _ (tt j (by omega)); omega) (by omega)
        rw [ma_A_0 (fun j hj => by have := hb.1.2 _ (tt j (by omega)); omega), show B 50 19 - (s : Int) = R by omega] at q
        unfold tl_d
        omega
      have q2 := ma_tm_w (o := B 52 (B 55 k).toNat) (p := B 51 (B 55 k).toNat) (c := B 53 (B 55 k).toNat) (to := 0) (x := s) (u := s) (y := B 50 19) (by omega) (by omega) (by omega) (by omega)
      rw [ma_tm_0 (by omega)] at q2
      have q3 := ma_ru_le (r := B 50 19 - s) (p := B 51 (B 55 k).toNat) (q := 1) (by omega) (by have := H.2.1; omega)
      have q4 := Int.mul_le_mul_of_nonneg_right q3 (show 0 ≤ B 53 (B 55 k).toNat by omega)
      rw [Int.one_mul] at q4
      omega
    have := H.2.2
    omega
/-- what a tick leaves: the load's rest, the rule, and v of the budget used in it -/
def tl_M (B B' : am_M) (v : Int) : Prop := tl_N B B' ∧ 0 ≤ B 50 19 ∧ B' 50 20 = B 50 20 ∧ (∀ k j, k = 56 ∨ k = 57 → B' k j = B k j) ∧ bg_I B' 0 ∧ (∀ y : Nat, (y : Int) ≤ B 50 19 → bg_U B' y = bg_U B y) ∧ bg_U B' ((B 50 19).toNat + 1) = bg_U B (B 50 19).toNat + v
theorem tl_M_c {B B' : am_M} {v : Int} (h : tl_M B B' v) (k j : Nat) (h1 : 51 ≤ k) (h2 : k ≤ 57) : B' k j = B k j := by
  by_cases c : k ≤ 55
  · exact h.1.2.2.1 k j h1 c
  · exact h.2.2.2.1 k j (by omega)
/-- the same s serves on -/
theorem tl_M_s {B B' : am_M} {v : Int} {k : Nat} (h : tl_M B B' v) (hb' : sl_ok B') (hkd : B 50 20 = 1 ∨ B 50 20 = 2) (hk : (k : Int) < B 50 1) (hY : tl_Y B 1 k) (hw : mo_pw B' (k + 1) + 1 ≤ mo_pw B (k + 1) + v) (h4 : 0 < B' 64 (B 55 k).toNat → 0 < B 64 (B 55 k).toNat) : tl_Y B' 0 k := by
  obtain ⟨R, s, a1, a2, a3, a4, a5⟩ := hY
  have e19 := h.1.1
  refine tl_Y_n (R := R) (s := s) hb' h.2.2.2.2.1 (by rw [h.2.2.1]; exact hkd) (by rw [h.1.2.1]; exact hk) (tl_H_of a1 (tl_M_c h) h.2.2.1) (by omega) (by rw [e19, Int.add_sub_cancel]; exact a3) ?_ ?_
  · rw [e19, tl_d_of (B := B) (fun k j h1 h2 => tl_M_c h k j h1 (by omega)), show (B 50 19 + 1).toNat = (B 50 19).toNat + 1 by have := h.2.1; omega, h.2.2.2.2.2.2, h.2.2.2.2.2.1 s a2]
    omega
  · rw [tl_M_c h 55 k (by omega) (by omega), tl_M_c h 54 _ (by omega) (by omega), (h.1.2.2.2 _).1]
    exact fun w => a5 (h4 w)
theorem tl_M_0 {B B' : am_M} {v : Int} {k : Nat} (h : tl_M B B' v) (hb' : sl_ok B') (hk : (k : Int) < B 50 1) (hY : tl_Y B 1 k) (h0 : mo_pw B' (k + 1) ≤ 0) : tl_Y B' 0 k := by
  obtain ⟨R, s, a1, a2, a3, a4, a5⟩ := hY
  exact tl_Y_0 hb' (by rw [h.1.2.1]; exact hk) (by have := h.1.1; have := h.2.1; omega) (tl_H_of a1 (tl_M_c h) h.2.2.1) h0
/-- a tick that no task has: nobody is ready, or it is the budget's -/
theorem tl_freeJ {B B' : am_M} {v : Int} (h : tl_J B 1) (hM : tl_M B B' v) (hkd : B 50 20 = 1 ∨ B 50 20 = 2) (h4 : ∀ t : Nat, (t : Int) < B 50 1 → B' 64 t = B 64 t) (hf : mo_rt B = -1 ∨ v = 1) : tl_J B' 0 := by
  obtain ⟨hb, hpm, hD, hX⟩ := h
  have hN := hM.1
  have hb' := tl_N_ok hN hb (fun t ht => by rw [h4 t ht]; exact (hb.2 t ht).1)
  have e55 : ∀ j, B' 55 j = B 55 j := fun j => hN.2.2.1 55 j (by omega) (by omega)
  have tt : ∀ j : Nat, (j : Int) < B 50 1 → (((B 55 j).toNat : Nat) : Int) < B 50 1 := fun j hj => by
    have := (hb.1.2 j hj).1
    omega
  have epw : ∀ n : Nat, (n : Int) ≤ B 50 1 → mo_pw B' n = mo_pw B n := fun n hn => ma_su_eq (fun j hj => by rw [e55, h4 _ (tt j (by omega))])
  refine ⟨hb', mo_pm_of hpm hN.2.1 e55, fun t ht => ?_, fun k hk => ?_⟩
  · rw [hN.2.1] at ht
    rw [h4 t ht, tl_N_nx hN, (hN.2.2.2 t).1, hN.2.2.1 53 t (by omega) (by omega)]
    exact hD t ht
  · rw [hN.2.1] at hk
    by_cases c : mo_rt B = -1
    · have z := mo_rt_n hb c
      refine tl_M_0 hM hb' hk (hX k hk) ?_
      rw [epw (k + 1) (by omega), tl_pw_0 hb (by omega) (fun j hj => z j (by omega))]
      exact Int.le_refl _
    · have s1 : v = 1 := hf.resolve_left c
      refine tl_M_s hM hb' hkd hk (hX k hk) ?_ ?_
      · rw [epw (k + 1) (by omega)]; omega
      · rw [h4 _ (tt k hk)]; exact id
/-- a tick that the ready task has -/
theorem tl_taskJ {B B' : am_M} (h : tl_J B 1) (hM : tl_M B B' 0) (hkd : B 50 20 = 1 ∨ B 50 20 = 2) (hr : mo_rt B ≠ -1) (h4 : ∀ t : Nat, (t : Int) < B 50 1 → B' 64 t = if t = (mo_rt B).toNat then B 64 t - 1 else B 64 t) : tl_J B' 0 := by
  obtain ⟨hb, hpm, hD, hX⟩ := h
  have hN := hM.1
  have c : (mo_rk B : Int) < B 50 1 := by
    by_cases q : (mo_rk B : Int) < B 50 1
    · exact q
    · exact absurd (by unfold mo_rt; rw [if_neg q]) hr
  have er : mo_rt B = B 55 (mo_rk B) := by unfold mo_rt; rw [if_pos c]
  have tt : ∀ j : Nat, (j : Int) < B 50 1 → 0 ≤ B 55 j ∧ (((B 55 j).toNat : Nat) : Int) < B 50 1 := fun j hj => by
    have := (hb.1.2 j hj).1
    omega
  have pos : 0 < B 64 (B 55 (mo_rk B)).toNat := of_decide_eq_true ((am_fi_sp (fun r => decide (0 < B 64 (B 55 r).toNat)) (B 50 1).toNat 0).2.2 (by unfold mo_rk at c; omega))
  have z : ∀ j : Nat, j < mo_rk B → ¬ 0 < B 64 (B 55 j).toNat := fun j hj => of_decide_eq_false (am_fi_b (fun r => decide (0 < B 64 (B 55 r).toNat)) _ _ j (by omega) hj)
  have n4 : ∀ t : Nat, (t : Int) < B 50 1 → 0 ≤ B' 64 t := fun t ht => by
    rw [h4 t ht]
    have := (hb.2 t ht).1
    split
    · rename_i w
      rw [er] at w
      rw [w]
      omega
    · exact this
  have hb' := tl_N_ok hN hb n4
  have e55 : ∀ j, B' 55 j = B 55 j := fun j => hN.2.2.1 55 j (by omega) (by omega)
  have epw : ∀ n : Nat, (n : Int) ≤ B 50 1 → mo_pw B' n = mo_pw B n - (if mo_rk B < n then 1 else 0) := fun n hn => by
    unfold mo_pw
    refine sl_run (n := (B 50 1).toNat) (fun j hj hne => ?_) (fun _ => ?_) n (by omega)
    · rw [e55, h4 _ (tt j (by omega)).2, if_neg]
      intro w
      have a1 := tt j (by omega)
      have a2 := tt (mo_rk B) c
      exact hne (hpm.1 j (mo_rk B) (by omega) c (by omega))
    · rw [e55, h4 _ (tt _ c).2, er, if_pos rfl]
  refine ⟨hb', mo_pm_of hpm hN.2.1 e55, fun t ht => ?_, fun k hk => ?_⟩
  · rw [hN.2.1] at ht
    have d := hD t ht
    rw [h4 t ht, tl_N_nx hN, (hN.2.2.2 t).1, hN.2.2.1 53 t (by omega) (by omega)]
    split
    · exact ⟨fun w => d.1 (by omega), by omega⟩
    · exact d
  · rw [hN.2.1] at hk
    by_cases c2 : k < mo_rk B
    · refine tl_M_0 hM hb' hk (hX k hk) ?_
      rw [epw (k + 1) (by omega), tl_pw_0 hb (by omega) (fun j hj => z j (by omega))]
      split <;> omega
    · refine tl_M_s hM hb' hkd hk (hX k hk) ?_ ?_
      · rw [epw (k + 1) (by omega), if_pos (by omega)]
        omega
      · rw [h4 _ (tt k hk).2]
        split
        · exact fun w => by omega
        · exact id
