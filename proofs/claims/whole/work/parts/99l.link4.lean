theorem lk_kp {B : am_M} {k j : Nat} (h : lk_p k j) : mo_kp B k j = B k j := by
  unfold lk_p at h
  unfold mo_kp mo_kp3 mo_kp2 mo_kp1 mo_kp0
  rw [mo_cp_k _ _ _ _ (by omega), mo_cp_k _ _ _ _ (by omega), mo_cp_k _ _ _ _ (by omega), mo_cp_k _ _ _ _ (by omega), mo_cp_k _ _ _ _ (by omega), mo_cp_k _ _ _ _ (by omega), mo_cp_k _ _ _ _ (by omega), mo_mv_k (by omega), mo_mv_k (by omega), mo_mv_k (by omega), mo_mv_k (by omega), mo_mv_k (by omega)]
theorem lk_lb {B : am_M} {k j : Nat} (h : lk_p k j) : mo_lb B k j = B k j := by
  unfold lk_p at h
  exact mo_lb_k (by omega) (by omega)
theorem lk_fz {k j : Nat} (h : lk_p k j) : ∀ (n : Nat) (B : am_M), mo_fz n B k j = B k j
  | 0, B => rfl
  | n + 1, B => by
    have ih := lk_fz h n B
    unfold lk_p at h
    show mo_fn (mo_fz n B) k j = _
    unfold mo_fn
    have e1 : ∀ X : am_M, mo_fg X k j = X k j := fun X => by
      unfold mo_fg
      show mo_gr _ _ k j = _
      exact mo_gr_k (by omega) (by omega)
    have e2 : ∀ X : am_M, mo_fw X k j = X k j := fun X => by
      unfold mo_fw
      split
      · rfl
      · unfold mo_rx
        exact am_up_n (by omega)
    rw [am_up_n (by omega), e2, e1, ih]
theorem lk_free {B : am_M} {w : Int} {k j : Nat} (h : lk_p k j) : g_MO_free [.inr (.inl 50), .inl w] B k j = B k j := by
  simp only [g_MO_free]
  rw [lk_lb h, lk_fz h, lk_kp h]
theorem l_hard : lk_hard := by
  intro M a b hM ha hb
  have hcR : am_R (sd_hc M a b) := by unfold sd_hc am_R; (repeat' split) <;> omega
  obtain ⟨h1, h2, h3⟩ := lk_go (v := am_wr (hp_v (f_SD_hard [.inr (.inl 0), .inl a, .inl b] M))) (cd := sd_hc M a b) (gS := sd_hg a b M) (gR := g_MO_hard [.inr (.inl 50), .inl a, .inl b]) hM (fun k j h5 _ => by
    unfold sd_hg
    split
    · exact sd_hX_k (by omega)
    · rw [lk_tin h5]; exact sd_hX_k (by omega)) (fun B k j hk => by
    have hp : lk_p k j := by unfold lk_p; omega
    simp only [g_MO_hard]
    (repeat' split)
    · rw [lk_arr hp, lk_free hp]; exact am_up_k _ _ (by omega)
    · rw [lk_free hp]; exact am_up_k _ _ (by omega)
    · exact am_up_k _ _ (by omega)) (fun B hB => (sd_hard hB ⟨ha, hb⟩).2.1)
  replace h1 : lw_I M (g_LW_hard [.inr (.inl 0), .inl a, .inl b, .inr (.inl 78)] M) := h1
  have hk := sd_hard h1 ⟨ha, hb⟩
  have hf := hk.2.2.1
  refine ⟨hk.1, hcR, ?_, h2, fun h0 => (h3 h0).trans ?_⟩
  · have e := sd_hc_eq (c := a) (w := b) h1
    have hp : lk_p 50 0 := by unfold lk_p; omega
    show g_MO_hard _ _ 50 0 = sd_hc M a b
    simp only [g_MO_hard]
    split
    · rename_i h0
      refine Eq.trans ?_ (h0.symm.trans e)
      split
      · rw [lk_arr hp, lk_free hp, am_up_s]
      · rw [lk_free hp, am_up_s]
    · rw [am_up_s]; exact e
  · have h0' : sd_hc M a b = 0 := h0
    refine congrArg am_wr (Eq.trans ?_ (congrArg hp_v hf).symm)
    show sd_hf a b M = if sd_hc M a b = 0 then _ else 0
    rw [if_pos h0']
theorem lk_in {B : am_M} {k j : Nat} (h : lk_p k j) : g_MO_comesIn [.inr (.inl 50)] B k j = B k j := by
  unfold lk_p at h
  simp only [g_MO_comesIn]
  rw [am_up_n (by omega), am_up_n (by omega), am_up_n (by omega)]
theorem lk_pj {k j : Nat} (h : lk_p k j) : ∀ (f : Nat) (i : Int) (B : am_M), (mo_pj f i B).2 k j = B k j
  | 0, i, B => rfl
  | f + 1, i, B => by
    simp only [mo_pj]
    split
    · rw [lk_pj h f, lk_in h]
    · rfl
theorem lk_pe {k j : Nat} (h : lk_p k j) : ∀ (f : Nat) (i : Int) (B : am_M), (mo_pe f i B).2 k j = B k j
  | 0, i, B => rfl
  | f + 1, i, B => by
    simp only [mo_pe]
    split
    · rw [lk_pe h f]
      unfold mo_tl
      unfold lk_p at h
      exact mo_tell_k (by omega)
    · rfl
theorem lk_pr {k j : Nat} (h : lk_p k j) : ∀ (f : Nat) (N a b : Int) (B : am_M), mo_pr f N a b B k j = B k j
  | 0, N, a, b, B => rfl
  | f + 1, N, a, b, B => by
    simp only [mo_pr]
    split
    · rw [lk_pr h f]
      unfold mo_tk
      rw [lk_one h, lk_pe h, lk_pj h]
    · rfl
theorem lk_bg {B : am_M} {c : Int} {k j : Nat} (h : lk_p k j) : g_MO_begin [.inr (.inl 50), .inl c] B k j = B k j := by
  unfold lk_p at h
  rcases h with h | h | ⟨rfl, rfl⟩
  · exact mo_bg_k (by omega) (by omega)
  · exact mo_bg_k (by omega) (by omega)
  · exact mo_bg_00
theorem lk_pf {B : am_M} {n : Nat} {k j : Nat} (h : lk_p k j) : mo_pf B n k j = B k j := by
  unfold lk_p at h
  unfold mo_pf mo_pd mo_pb
  rw [am_up_n (by omega), am_up_n (by omega), am_up_n (by omega), am_up_n (by omega), am_up_n (by omega)]
theorem lk_tu {k j : Nat} (h : 50 ≤ k) : ∀ (f t : Nat) (m : Int) (A : am_M), (rf_tu m f t A).2 k j = A k j
  | 0, t, m, A => rfl
  | f + 1, t, m, A => by
    simp only [rf_tu]
    split
    · rfl
    · rw [lk_tu h f]
      exact lo_sh_k (by omega)
theorem lk_it {k j : Nat} (h : 50 ≤ k) (p : Nat × am_M) : ∀ n : Nat, (ra_it p n).2 k j = p.2 k j
  | 0 => rfl
  | n + 1 => by
    have ih := lk_it (j := j) h p n
    show (ra_n n (ra_it p n)).2 k j = _
    have e : ra_m2 n (ra_it p n) k j = p.2 k j := by
      unfold ra_m2
      rw [co_step_k (by omega) (by omega)]
      unfold ra_q
      rw [lk_tu h]
      unfold ra_m1
      simp only [g_QU_takeUpTo]
      rw [qu_tk_k (by omega), ih]
    unfold ra_n
    show (if _ then _ else _ : am_M) k j = _
    split
    · rw [am_up_k _ _ (by omega)]; exact e
    · exact e
theorem lk_ra {A : am_M} {c n : Int} {k j : Nat} (h : 50 ≤ k) : g_RF_runAgain [.inr (.inl 48), .inr (.inl 7), .inl c, .inr (.inl 49), .inl n] A k j = A k j := by
  simp only [g_RF_runAgain, g_RF_sumOfTimes]
  rw [am_up_k _ _ (by omega)]
  unfold ra_e
  rw [am_up_k _ _ (by omega), lk_it h]
  exact (rf_cl_k (by omega)).trans (co_bg_k (by omega))
theorem l_replay : lk_replay := by
  intro M a hM ha
  have hcR : am_R (sd_yc M a) := by unfold sd_yc am_R; (repeat' split) <;> omega
  have hrep : ∀ (B : am_M) (k j : Nat), lk_p k j → mo_lb (mo_pf (mo_pY B a) (mo_pN B).toNat) k j = am_up B 50 0 0 k j := fun B k j hp => by
    rw [lk_lb hp, lk_pf hp]
    unfold mo_pY mo_p0
    rw [lk_pr hp, lk_bg hp, lk_kp hp]
  obtain ⟨h1, h2, h3⟩ := lk_go (v := am_wr (hp_v (f_SD_replay [.inr (.inl 0), .inl a] M))) (cd := sd_yc M a) (gS := g_SD_replay [.inr (.inl 0), .inl a] M) (gR := g_MO_replay [.inr (.inl 50), .inl a]) hM (fun k j h5 _ => lk_ra h5) (fun B k j hk => by
    simp only [g_MO_replay]
    split
    · rw [hrep B k j (by unfold lk_p; omega)]; exact am_up_k _ _ (by omega)
    · exact am_up_k _ _ (by omega)) (fun B hB => (sd_replay hB ha).2.1)
  replace h1 : lw_I M (g_LW_replay [.inr (.inl 0), .inl a, .inr (.inl 78)] M) := h1
  have hk := sd_replay h1 ha
  refine ⟨hk.1, hcR, ?_, h2, fun h0 => (h3 h0).trans ?_⟩
  · have e := sd_yc_eq (k := a) h1
    show g_MO_replay _ _ 50 0 = sd_yc M a
    simp only [g_MO_replay]
    split
    · rename_i h0
      refine Eq.trans ?_ (h0.symm.trans e)
      rw [hrep _ 50 0 (by unfold lk_p; omega), am_up_s]
    · rw [am_up_s]; exact e
  · have h0' : sd_yc M a = 0 := h0
    exact congrArg (fun z => am_wr (hp_v z)) (hk.2.2 h0').2.symm
theorem l_all : lk_all := ⟨l_reset, l_task, l_rule, l_start, l_tick, l_job, l_hard, l_early, l_ended, l_slack, l_trace, l_served, l_replay, l_state⟩
