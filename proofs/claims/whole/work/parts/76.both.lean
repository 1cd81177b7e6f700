/-! one course, class and reference: a tick -/
def cv_I (d : Nat) (m : Int) (A B : am_M) : Prop := vr_C d m A B ∧ ts_pm A ∧ re_I B 0 ∧ A d 6 = B 50 29
theorem cv_slack {d : Nat} {m : Int} {A B : am_M} (hd : d = 26 ∨ d = 37) (h : cv_I d m A B) (hm : m ≤ 2000) : 0 < mo_sn (mo_t1 B) 1 (B 50 1).toNat ↔ 0 < co_ms d m (co_s0 d m A) := by
  obtain ⟨⟨h1, h2, h3, h4, h5, h6⟩, hp, hr, hl⟩ := h
  obtain ⟨t1, t2, t3, t4, t5⟩ := vr_top (by omega) h1 h2 h3 h4 h5.1
  obtain ⟨q1, q2⟩ := re_top hr (by omega)
  have e1 : mo_t1 B 50 1 = B 50 1 := mo_t1_50 (by decide) (by decide)
  have tp : ts_pm (co_s0 d m A) := ts_pm_of hp (fun k j _ _ => (co_rd_k (by omega)).trans (bu_cb_k (by omega) (by omega)))
  have s := sl_tick (d := d) (by omega) t5 t1 t2 tp (re_ok q1).1 t3 (fun r hr => re_en q1 hr)
  rw [e1] at s
  exact s
theorem cv_tick {d : Nat} {m : Int} {A B : am_M} (hd : d = 26 ∨ d = 37) (h : cv_I d m A B) (hm : m < 2000) : mo_wh (mo_t1 B) = co_rw d m (co_s0 d m A) ∧ cv_I d (m + 1) (g_CO_step [.inr (.inl d), .inl m] A) (g_MO_tickOne [.inr (.inl 50)] B) := by
  have hs := cv_slack hd h (by omega)
  obtain ⟨hC, hp, hr, hl⟩ := h
  have h19 := hC.2.2.2.2.1
  have u0 : B 67 m.toNat = 0 := hr.2.2.1.2.2.2.2.1 m.toNat (by omega) (by omega)
  obtain ⟨w, hC'⟩ := vr_tick hd hC u0 (fun _ => hs)
  obtain ⟨r1, r2⟩ := re_tick hr (by omega)
  refine ⟨w, hC', ts_pm_of hp (fun k j _ _ => co_step_k (by omega) (by omega)), r1, ?_⟩
  obtain ⟨c1, c2, c3, c4, c5, c6⟩ := hC'
  have e15 : ∀ j, co_s1 d m A 1 j = A 1 j := fun j => (co_one_k (by omega) (by omega)).trans ((co_rd_k (by omega)).trans (bu_cb_k (by omega) (by omega)))
  have es : ∀ k j, k ≠ d → g_CO_step [.inr (.inl d), .inl m] A k j = co_s1 d m A k j := fun k j hk => by
    simp only [g_CO_step]
    rw [am_up_k _ _ hk]
  have lt0 : co_lt d (m + 1) (co_s1 d m A) = 0 := by
    unfold co_lt
    rw [e15]
    refine ma_su_0 (fun j hj => ?_)
    rw [if_neg]
    rintro ⟨q1, q2⟩
    have l := c3 j (by rw [es 1 5 (by omega), e15]; omega)
    have n1 : g_MO_tickOne [.inr (.inl 50)] B 50 1 = B 50 1 := by
      rw [mo_one_e.2.1 1 (by decide), mo_wm_50 (by decide), mo_t1_50 (by decide) (by decide)]
    have due := re_due r1 (t := j) (by rw [n1]; have := hC.1.1; omega) (by rw [l.2.2.1, es _ _ (by omega)]; exact q1)
    rw [l.2.2.2, es _ _ (by omega), c5.1] at due
    omega
  have e6 : g_CO_step [.inr (.inl d), .inl m] A d 6 = co_s1 d m A d 6 + co_lt d (m + 1) (co_s1 d m A) := by
    simp only [g_CO_step]
    rw [am_up_s]
  have e7 : co_s1 d m A d 6 = A d 6 := by
    have : g_CO_runOne [.inr (.inl d), .inl m] (co_s0 d m A) d 6 = co_s0 d m A d 6 := co_ro_k (by omega) (by omega) (by omega)
    exact this.trans ((co_rd_k (by omega)).trans (bu_cb_k (by omega) (by omega)))
  rw [e6, lt0, e7, r2, hl]
  omega
