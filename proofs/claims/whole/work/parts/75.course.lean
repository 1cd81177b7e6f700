/-! the reference's course: nobody is ever late -/
theorem am_rta_R {D : Int → Int} {most : Int} (hD : ∀ r, 0 ≤ r → 0 ≤ D r) : ∀ (n : Nat) (r : Int), 0 ≤ r → am_rta D most n r ≠ 0 → ∃ R, 0 ≤ R ∧ R ≤ most ∧ D R = R
  | 0, _, _, h => absurd rfl h
  | n + 1, r, hr, h => by
    rw [am_rta] at h
    by_cases c : r ≤ most
    · rw [if_pos c] at h
      by_cases c2 : D r = r
      · exact ⟨r, hr, c, c2⟩
      · rw [if_neg c2] at h
        exact am_rta_R hD n (D r) (hD r hr) h
    · rw [if_neg c] at h
      exact absurd rfl h
/-- an admitted rule: each rank answers its equation -/
theorem tl_adm {B : am_M} {k : Int} (hb : mo_ok B) (hr : mo_rb B) (h : mo_a B k ≠ 0) {r : Nat} (h2 : (r : Int) < B 50 1) : ∃ R : Int, 0 ≤ R ∧ R ≤ B 54 (B 55 r).toNat ∧ B 53 (B 55 r).toNat + mo_dem B k R + ma_f (fun j => B 51 (B 55 j).toNat) (fun j => B 53 (B 55 j).toNat) r R = R := by
  have tt : ∀ j : Nat, (j : Int) < B 50 1 → (((B 55 j).toNat : Nat) : Int) < B 50 1 := fun j hj => by
    have := (hb.2 j hj).1
    omega
  have c : ¬ am_fi (fun r => decide (mo_it B k r = 0)) (B 50 1).toNat 0 < (B 50 1).toNat := fun q => h (by unfold mo_a; rw [if_pos q])
  have c2 := of_decide_eq_false (am_fi_n (p := fun r => decide (mo_it B k r = 0)) (i := 0) (k := (B 50 1).toNat) (by omega) r (by omega) (by omega))
  have b := hb.2 _ (tt r h2)
  obtain ⟨R, r1, r2, r3⟩ := am_rta_R (D := mo_D B k r) (most := B 54 (B 55 r).toNat) (fun x hx => by
    unfold mo_D
    have a := tl_dem_nn hr k hx
    have a2 : 0 ≤ ma_su (mo_tm B x) r := ma_su_nn (fun j hj => by
      have b := hb.2 _ (tt j (by omega))
      unfold mo_tm
      exact Int.mul_nonneg (ma_ru_nn (by omega) hx) (by omega))
    omega) 61 (B 53 (B 55 r).toNat) (by omega) c2
  exact ⟨R, r1, r2, r3⟩
theorem tl_I_of {B B' : am_M} {z : Int} (h : tl_I B z) (e1 : B' 50 1 = B 50 1) (e2 : B' 50 19 = B 50 19) (e3 : ∀ k j, 51 ≤ k → k ≤ 55 ∨ 64 ≤ k → k ≤ 66 → B' k j = B k j) : tl_I B' z := by
  obtain ⟨hb, hp, hD, hY⟩ := h
  have f : ∀ k j, 51 ≤ k → k ≤ 55 → B' k j = B k j := fun k j a b => e3 k j a (by omega) (by omega)
  have f64 : ∀ j, B' 64 j = B 64 j := fun j => e3 64 j (by omega) (by omega) (by omega)
  have f65 : ∀ j, B' 65 j = B 65 j := fun j => e3 65 j (by omega) (by omega) (by omega)
  have f66 : ∀ j, B' 66 j = B 66 j := fun j => e3 66 j (by omega) (by omega) (by omega)
  have fn : ∀ t, mo_nx B' z t = mo_nx B z t := fun t => by unfold mo_nx; rw [e2, f 51 t (by omega) (by omega), f 52 t (by omega) (by omega)]
  have fa : ∀ n, sl_a B' z n = sl_a B z n := fun n => by
    funext i
    unfold sl_a mo_aw
    refine ma_su_eq (fun j _ => ?_)
    unfold mo_aj mo_cm
    rw [fn, e2, f66, f 55 j (by omega) (by omega), f 51 _ (by omega) (by omega), f 52 _ (by omega) (by omega), f 53 _ (by omega) (by omega)]
  refine ⟨⟨⟨by rw [e1]; exact hb.1.1, fun r hr => ?_⟩, fun t ht => ?_⟩, mo_pm_of hp e1 (fun j => f 55 j (by omega) (by omega)), fun t ht => ?_, fun k hk => ?_⟩
  · rw [e1] at hr ⊢
    rw [f 55 r (by omega) (by omega), f 51 r (by omega) (by omega), f 52 r (by omega) (by omega), f 53 r (by omega) (by omega), f 54 r (by omega) (by omega)]
    exact hb.1.2 r hr
  · rw [e1] at ht
    rw [f64, f66, f 53 t (by omega) (by omega)]
    exact hb.2 t ht
  · rw [e1] at ht
    rw [f64, f65, fn, f 53 t (by omega) (by omega)]
    exact hD t ht
  · rw [e1] at hk
    obtain ⟨q, a1, a2, a3⟩ := hY k hk
    refine ⟨q, a1, ?_, ?_⟩
    · unfold mo_en at a2 ⊢
      rw [e2, f 55 k (by omega) (by omega), f64, f65, fn, f 54 _ (by omega) (by omega)]
      exact a2
    · have : mo_pw B' (k + 1) = mo_pw B (k + 1) := ma_su_eq (fun j hj => by rw [f 55 j (by omega) (by omega), f64])
      rw [this, fa]
      exact a3
theorem tl_J_of {B B' : am_M} {z : Int} (h : tl_J B z) (e1 : B' 50 1 = B 50 1) (e2 : B' 50 19 = B 50 19) (e4 : B' 50 20 = B 50 20) (e3 : ∀ k j, 51 ≤ k → k ≤ 57 ∨ 64 ≤ k → k ≤ 67 → B' k j = B k j) : tl_J B' z := by
  have eU : ∀ y, bg_U B' y = bg_U B y := bg_U_of e2 (fun x _ => e3 67 x (by omega) (by omega) (by omega))
  obtain ⟨hb, hp, hD, hY⟩ := h
  have f : ∀ k j, 51 ≤ k → k ≤ 55 → B' k j = B k j := fun k j a b => e3 k j a (by omega) (by omega)
  have f64 : ∀ j, B' 64 j = B 64 j := fun j => e3 64 j (by omega) (by omega) (by omega)
  have f65 : ∀ j, B' 65 j = B 65 j := fun j => e3 65 j (by omega) (by omega) (by omega)
  have f66 : ∀ j, B' 66 j = B 66 j := fun j => e3 66 j (by omega) (by omega) (by omega)
  refine ⟨⟨⟨by rw [e1]; exact hb.1.1, fun r hr => ?_⟩, fun t ht => ?_⟩, mo_pm_of hp e1 (fun j => f 55 j (by omega) (by omega)), fun t ht => ?_, fun k hk => ?_⟩
  · rw [e1] at hr ⊢
    rw [f 55 r (by omega) (by omega), f 51 r (by omega) (by omega), f 52 r (by omega) (by omega), f 53 r (by omega) (by omega), f 54 r (by omega) (by omega)]
    exact hb.1.2 r hr
  · rw [e1] at ht
    rw [f64, f66, f 53 t (by omega) (by omega)]
    exact hb.2 t ht
  · rw [e1] at ht
    have := hD t ht
    unfold mo_nx at this ⊢
    rw [f64, f65, e2, f 51 t (by omega) (by omega), f 52 t (by omega) (by omega), f 53 t (by omega) (by omega)]
    exact this
  · rw [e1] at hk
    obtain ⟨R, s, a1, a2, a3, a4, a5⟩ := hY k hk
    refine ⟨R, s, tl_H_of a1 (fun k j a b => e3 k j a (by omega) (by omega)) e4, by rw [e2]; exact a2, by rw [e2]; exact a3, ?_, ?_⟩
    · rw [e2, eU, eU, tl_d_of f]
      have : mo_pw B' (k + 1) = mo_pw B (k + 1) := ma_su_eq (fun j hj => by rw [f 55 j (by omega) (by omega), f64])
      rw [this]
      exact a4
    · rw [f 55 k (by omega) (by omega), f64, f65, f 54 _ (by omega) (by omega)]
      exact a5
theorem mo_a_of {B B' : am_M} (e1 : B' 50 1 = B 50 1) (e3 : ∀ k j, 51 ≤ k → k ≤ 57 → B' k j = B k j) (k : Int) : mo_a B' k = mo_a B k := by
  have c : ∀ r, mo_it B' k r = mo_it B k r := fun r => by
    unfold mo_it mo_D mo_dem
    simp only [show ∀ x, mo_tm B' x = mo_tm B x from fun x => by funext j; unfold mo_tm; rw [e3 55 j (by omega) (by omega), e3 51 _ (by omega) (by omega), e3 53 _ (by omega) (by omega)], e3 55 _ (show 51 ≤ 55 by omega) (show 55 ≤ 57 by omega), e3 53 _ (show 51 ≤ 53 by omega) (show 53 ≤ 57 by omega), e3 54 _ (show 51 ≤ 54 by omega) (show 54 ≤ 57 by omega), e3 56 _ (show 51 ≤ 56 by omega) (show 56 ≤ 57 by omega), e3 57 _ (show 51 ≤ 57 by omega) (show 57 ≤ 57 by omega)]
  unfold mo_a
  simp only [c, e1]
/-- THE REFERENCE'S COURSE, before a tick (z = 0) or behind its beginning (z = 1) -/
def re_I (B : am_M) (z : Nat) : Prop := (0 ≤ B 50 20 ∧ B 50 20 ≤ 3) ∧ mo_a B (B 50 20) ≠ 0 ∧ bg_I B z ∧ (B 50 20 = 0 ∨ B 50 20 = 3 → tl_I B z) ∧ (B 50 20 = 1 ∨ B 50 20 = 2 → tl_J B z)
theorem re_ok {B : am_M} {z : Nat} (h : re_I B z) : sl_ok B ∧ mo_pm B ∧ tl_D B z := by
  obtain ⟨h1, h2, h3, h4, h5⟩ := h
  by_cases c : B 50 20 = 0 ∨ B 50 20 = 3
  · have q := h4 c
    exact ⟨q.1, q.2.1, q.2.2.1⟩
  · have q := h5 (by omega)
    exact ⟨q.1, q.2.1, q.2.2.1⟩
theorem re_due {B : am_M} {z : Nat} (h : re_I B z) {t : Nat} (ht : (t : Int) < B 50 1) (hp : 0 < B 64 t) : B 50 19 < B 65 t := by
  obtain ⟨h1, h2, h3, h4, h5⟩ := h
  by_cases c : B 50 20 = 0 ∨ B 50 20 = 3
  · exact tl_due (h4 c) ht hp
  · exact tl_dueJ (h5 (by omega)) ht hp
theorem re_en {B : am_M} {z : Nat} (h : re_I B z) {r : Nat} (hr : (r : Int) < B 50 1) : B 50 19 < mo_en B z (B 55 r).toNat := by
  obtain ⟨h1, h2, h3, h4, h5⟩ := h
  by_cases c : B 50 20 = 0 ∨ B 50 20 = 3
  · exact tl_en (by omega) (h4 c) hr
  · exact tl_enJ (by omega) (h5 (by omega)) hr
theorem tl_dem_0 {B : am_M} {k R : Int} (h : k = 0 ∨ k = 3) : mo_dem B k R = 0 := by
  unfold mo_dem
  rw [if_neg (by omega), if_neg (by omega)]
/-- the beginning of a tick -/
theorem re_top {B : am_M} (h : re_I B 0) (hm : B 50 19 ≤ 2000) : re_I (mo_t1 B) 1 ∧ mo_t1 B 50 29 = B 50 29 := by
  obtain ⟨h1, h2, h3, h4, h5⟩ := h
  obtain ⟨o1, o2, o3⟩ := re_ok (z := 0) ⟨h1, h2, h3, h4, h5⟩
  have ek : ∀ k j, k ≠ 50 → mo_t0 B k j = B k j := fun k j hk => mo_cb_k hk
  have e50 : ∀ j, j ≠ 24 → mo_t0 B 50 j = B 50 j := fun j hj => mo_cb_50 hj
  have g0 : bg_I (mo_t0 B) 1 := bg_cb h3 hm
  have fk : ∀ k j, k ≠ 50 → (k < 64 ∨ 66 < k) → mo_t1 B k j = B k j := fun k j hk h2 => mo_t1_k hk h2
  have f50 : ∀ j, j ≠ 24 → j ≠ 29 → mo_t1 B 50 j = B 50 j := fun j a b => mo_t1_50 a b
  have e : mo_t1 B = mo_fg (mo_t0 B) := rfl
  have g1 : bg_I (mo_t1 B) 1 := bg_of g0 (mo_fg_50 (by decide)) (mo_fg_50 (by decide)) (mo_fg_50 (by decide)) (fun k j hk => mo_fg_k (by omega) (by omega))
  have ea : mo_a (mo_t1 B) (B 50 20) = mo_a B (B 50 20) := mo_a_of (f50 1 (by decide) (by decide)) (fun k j _ _ => fk k j (by omega) (by omega)) _
  by_cases c : B 50 20 = 0 ∨ B 50 20 = 3
  · have t := tl_I_of (B' := mo_t0 B) (h4 c) (e50 1 (by decide)) (e50 19 (by decide)) (fun k j _ _ _ => ek k j (by omega))
    have hR : ∀ k : Nat, (k : Int) < mo_t0 B 50 1 → tl_R (mo_t0 B) k := fun k hk => by
      rw [e50 1 (by decide)] at hk
      obtain ⟨R, r1, r2, r3⟩ := tl_adm o1.1 h3.2.1 h2 hk
      rw [tl_dem_0 c] at r3
      unfold tl_R
      simp only [ek 55 _ (show 55 ≠ 50 by decide), ek 54 _ (show 54 ≠ 50 by decide), ek 53 _ (show 53 ≠ 50 by decide), ek 51 _ (show 51 ≠ 50 by decide)]
      exact ⟨R, r1, r2, by omega⟩
    obtain ⟨q1, q2⟩ := tl_ready t hR
    refine ⟨⟨?_, ?_, g1, fun _ => q1, fun w => ?_⟩, ?_⟩
    · rw [f50 20 (by decide) (by decide)]; exact h1
    · rw [f50 20 (by decide) (by decide), ea]; exact h2
    · rw [f50 20 (by decide) (by decide)] at w; omega
    · rw [e, q2, e50 29 (by decide)]
  · have t := tl_J_of (B' := mo_t0 B) (h5 (by omega)) (e50 1 (by decide)) (e50 19 (by decide)) (e50 20 (by decide)) (fun k j _ _ _ => ek k j (by omega))
    obtain ⟨q1, q2⟩ := tl_readyJ t
    refine ⟨⟨?_, ?_, g1, fun w => ?_, fun _ => q1⟩, ?_⟩
    · rw [f50 20 (by decide) (by decide)]; exact h1
    · rw [f50 20 (by decide) (by decide), ea]; exact h2
    · rw [f50 20 (by decide) (by decide)] at w; omega
    · rw [e, q2, e50 29 (by decide)]
/-- a tick's run, in the reference -/
theorem mo_wm_50 {B : am_M} {j : Nat} (hj : j ≠ 24) : mo_wm B 50 j = B 50 j := by
  unfold mo_wm
  split
  · exact mo_s3_50 hj
  · split
    · rfl
    · exact am_up_k _ _ (by decide)
/-- v: what the tick used of the budget -/
theorem re_wm {B : am_M} (h0 : B 50 20 = 0 ∨ B 50 20 = 3 → B 50 24 = 0) (hm : 0 ≤ B 50 19) : ∃ v : Int, (v = 0 ∨ v = 1) ∧ (v = 1 → 0 < B 50 24) ∧ mo_wm B 50 24 = B 50 24 - v ∧ (∀ j : Nat, mo_wm B 67 j = if (j : Int) = B 50 19 then B 67 j + v else B 67 j) ∧ ((∀ t, mo_wm B 64 t = B 64 t) ∧ (mo_rt B = -1 ∨ (B 50 20 = 3 ∧ 0 < mo_sn B 1 (B 50 1).toNat) ∨ v = 1) ∨ mo_rt B ≠ -1 ∧ v = 0 ∧ ∀ t, mo_wm B 64 t = if t = (mo_rt B).toNat then B 64 t - 1 else B 64 t) := by
  unfold mo_wm
  by_cases c : mo_fj B ≠ -1 ∧ (mo_ga B = 1 ∨ mo_rt B = -1)
  · rw [if_pos c]
    obtain ⟨b1, b2⟩ := mo_s3_b h0
    have e64 : ∀ t, mo_s3 B 64 t = B 64 t := fun t => (mo_s3_k (by decide)).trans (mo_s2_k (by decide) (by decide))
    by_cases w : 0 < B 50 24
    · refine ⟨1, Or.inr rfl, fun _ => w, by rw [b1, if_pos w], fun j => ?_, Or.inl ⟨e64, Or.inr (Or.inr rfl)⟩⟩
      rw [b2]
      by_cases q : (j : Int) = B 50 19
      · rw [if_pos q, if_pos ⟨w, by omega⟩]
      · rw [if_neg q, if_neg (fun r => by omega)]
    · refine ⟨0, Or.inl rfl, fun q => by omega, by rw [b1, if_neg w]; omega, fun j => ?_, Or.inl ⟨e64, ?_⟩⟩
      · rw [b2, if_neg (fun q => w q.1)]
        split <;> omega
      · by_cases q : mo_rt B = -1
        · exact Or.inl q
        · have g := c.2.resolve_right q
          unfold mo_ga at g
          by_cases k3 : B 50 20 = 3
          · rw [if_pos k3] at g
            refine Or.inr (Or.inl ⟨k3, ?_⟩)
            by_cases s : 0 < mo_sn B 1 (B 50 1).toNat
            · exact s
            · rw [if_neg s] at g; exact absurd g (by decide)
          · rw [if_neg k3, if_neg (fun r => w r.2)] at g
            exact absurd g (by decide)
  · rw [if_neg c]
    by_cases q : mo_rt B = -1
    · rw [if_pos q]
      refine ⟨0, Or.inl rfl, fun q => by omega, by omega, fun j => ?_, Or.inl ⟨fun _ => rfl, Or.inl q⟩⟩
      split <;> omega
    · rw [if_neg q]
      have e67 : ∀ j, mo_rx B 67 j = B 67 j := fun j => am_up_k _ _ (by decide)
      refine ⟨0, Or.inl rfl, fun q => by omega, ?_, fun j => ?_, Or.inr ⟨q, rfl, fun t => ?_⟩⟩
      · unfold mo_rx
        rw [am_up_k _ _ (by decide)]
        omega
      · rw [e67]
        split <;> omega
      · unfold mo_rx
        by_cases w : t = (mo_rt B).toNat
        · rw [if_pos w, w, am_up_s]
        · rw [if_neg w, am_up_j _ _ w]
/-- the moment is one later: a run's memory B' with the cells of a tick's end -/
theorem re_end {B B' : am_M} (h : re_I B 1) (hm : B 50 19 < 2000) (e1 : B' 50 19 = B 50 19 + 1) (e50 : ∀ j, j ≠ 19 → B' 50 j = mo_wm B 50 j) (ek : ∀ k j, k ≠ 50 → k ≠ 70 → B' k j = mo_wm B k j) : re_I B' 0 := by
  obtain ⟨h1, h2, h3, h4, h5⟩ := h
  obtain ⟨v, v1, v2, v3, v4, v5⟩ := re_wm h3.2.2.1.2 h3.1
  have e20 : B' 50 20 = B 50 20 := (e50 20 (by decide)).trans (mo_wm_50 (by decide))
  have e01 : B' 50 1 = B 50 1 := (e50 1 (by decide)).trans (mo_wm_50 (by decide))
  have ec : ∀ k j, 51 ≤ k → k ≤ 63 → B' k j = B k j := fun k j a b => (ek k j (by omega) (by omega)).trans (mo_wm_k (by omega) (by omega))
  have e5 : ∀ k j, k = 65 ∨ k = 66 → B' k j = B k j := fun k j hk => (ek k j (by omega) (by omega)).trans (by
    unfold mo_wm
    split
    · exact (mo_s3_k (by omega)).trans (mo_s2_k (by omega) (by omega))
    · split
      · rfl
      · exact am_up_k _ _ (by omega))
  have e64 : ∀ t, B' 64 t = mo_wm B 64 t := fun t => ek 64 t (by decide) (by decide)
  obtain ⟨g, u1, u2⟩ := bg_run h3 v1 v2 hm e1 e20 ((e50 24 (by decide)).trans v3) (fun k j hk => ec k j (by omega) (by omega)) (fun j => (ek 67 j (by decide) (by decide)).trans (v4 j))
  have hN : tl_N B B' := ⟨e1, e01, fun k j a b => ec k j a (by omega), fun j => ⟨e5 65 j (by decide), e5 66 j (by decide)⟩⟩
  refine ⟨by rw [e20]; exact h1, ?_, g, fun c => ?_, fun c => ?_⟩
  · rw [e20, mo_a_of e01 (fun k j a b => ec k j a (by omega))]; exact h2
  · rw [e20] at c
    have v0 : v ≠ 1 := fun q => by have := v2 q; have := h3.2.2.1.2 c; omega
    rcases v5 with ⟨w1, w2⟩ | ⟨w1, w2, w3⟩
    · refine tl_free (h4 c) hN (fun t _ => (e64 t).trans (w1 t)) ?_
      rcases w2 with w | w | w
      · exact Or.inl w
      · exact Or.inr w.2
      · exact absurd w v0
    · exact tl_task (h4 c) hN w1 (fun t _ => (e64 t).trans (w3 t))
  · rw [e20] at c
    have hM : tl_M B B' v := ⟨hN, h3.1, e20, fun k j hk => ec k j (by omega) (by omega), g, u1, u2⟩
    rcases v5 with ⟨w1, w2⟩ | ⟨w1, w2, w3⟩
    · refine tl_freeJ (h5 c) hM c (fun t _ => (e64 t).trans (w1 t)) ?_
      rcases w2 with w | w | w
      · exact Or.inl w
      · omega
      · exact Or.inr w
    · subst w2
      exact tl_taskJ (h5 c) hM c w1 (fun t _ => (e64 t).trans (w3 t))
theorem mo_one_e {B : am_M} : (∀ k j, k ≠ 50 → k ≠ 70 → g_MO_tickOne [.inr (.inl 50)] B k j = mo_wm (mo_t1 B) k j) ∧ (∀ j, j ≠ 19 → g_MO_tickOne [.inr (.inl 50)] B 50 j = mo_wm (mo_t1 B) 50 j) ∧ g_MO_tickOne [.inr (.inl 50)] B 50 19 = B 50 19 + 1 ∧ ∀ j, g_MO_tickOne [.inr (.inl 50)] B 70 j = if j = (B 50 19).toNat then mo_wh (mo_t1 B) else B 70 j := by
  have e19 : mo_wm (mo_t1 B) 50 19 = B 50 19 := (mo_wm_50 (by decide)).trans (mo_t1_50 (by decide) (by decide))
  have e70 : ∀ j, mo_wm (mo_t1 B) 70 j = B 70 j := fun j => (mo_wm_k (by omega) (by omega)).trans (mo_t1_k (by decide) (by omega))
  simp only [g_MO_tickOne]
  unfold mo_fi
  refine ⟨fun k j h1 h2 => ?_, fun j hj => ?_, ?_, fun j => ?_⟩
  · rw [am_up_k _ _ h1, am_up_k _ _ h2]
  · rw [am_up_j _ _ hj, am_up_k _ _ (by decide)]
  · rw [am_up_s, am_up_k _ _ (by decide), e19]
  · rw [am_up_k _ _ (by decide), e19]
    by_cases c : j = (B 50 19).toNat
    · rw [if_pos c, c, am_up_s]
    · rw [if_neg c, am_up_j _ _ c, e70]
/-- ONE TICK of the reference: nobody is late -/
theorem re_tick {B : am_M} (h : re_I B 0) (hm : B 50 19 < 2000) : re_I (g_MO_tickOne [.inr (.inl 50)] B) 0 ∧ g_MO_tickOne [.inr (.inl 50)] B 50 29 = B 50 29 := by
  obtain ⟨q1, q2⟩ := re_top h (by omega)
  obtain ⟨o1, o2, o3, o4⟩ := mo_one_e (B := B)
  have e19 : mo_t1 B 50 19 = B 50 19 := mo_t1_50 (by decide) (by decide)
  refine ⟨re_end q1 (by omega) (by rw [o3, e19]) o2 o1, ?_⟩
  rw [o2 29 (by decide), mo_wm_50 (by decide), q2]
