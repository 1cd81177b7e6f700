theorem am_up_n {M : am_M} {a b k j : Nat} {v : Int} (h : ¬ (k = a ∧ j = b)) : am_up M a b v k j = M k j := by simp [am_up, h]
/-- the class's cells, the answer's, the number of what was thrown -/
def lk_p (k j : Nat) : Prop := k < 50 ∨ k = 78 ∨ (k = 50 ∧ j = 0)
theorem lk_one {B : am_M} {k j : Nat} (h : lk_p k j) : g_MO_tickOne [.inr (.inl 50)] B k j = B k j := by
  unfold lk_p at h
  have e1 : mo_t1 B k j = B k j := by
    unfold mo_t1 mo_t0
    show mo_gr _ _ k j = _
    rw [mo_gr_k (by omega) (by omega)]
    simp only [g_MO_comeBack]
    (repeat' split) <;> (first | rfl | exact am_up_n (by omega))
  have e2 : ∀ X : am_M, mo_s2 X k j = X k j := fun X => mo_s2_k (by omega) (by omega)
  have e3 : ∀ X : am_M, mo_wm X k j = X k j := fun X => by
    unfold mo_wm
    split
    · unfold mo_s3
      split
      · rw [am_up_n (by omega)]
        unfold mo_sy
        rw [am_up_n (by omega)]
        exact e2 X
      · exact e2 X
    · split
      · rfl
      · unfold mo_rx
        exact am_up_n (by omega)
  simp only [g_MO_tickOne]
  unfold mo_fi
  rw [am_up_n (by omega), am_up_n (by omega), e3, e1]
theorem lk_ti {k j : Nat} (h : lk_p k j) : ∀ (n : Nat) (B : am_M), mo_ti n B k j = B k j
  | 0, B => rfl
  | n + 1, B => (lk_one h).trans (lk_ti h n B)
theorem lk_sti {k j : Nat} (h : 50 ≤ k) : ∀ (n : Nat) (A : am_M), sd_ti n A k j = A k j
  | 0, A => rfl
  | n + 1, A => (sd_t1_k (by omega) (by omega) (by omega)).trans (lk_sti h n A)
theorem l_tick : lk_tick := by
  intro M a hM ha
  have hcR : am_R (sd_kc M a) := by unfold sd_kc am_R; (repeat' split) <;> omega
  obtain ⟨h1, h2, h3⟩ := lk_go (v := am_wr (hp_v (f_SD_tick [.inr (.inl 0), .inl a] M))) (cd := sd_kc M a) (gS := sd_ti a.toNat M) (gR := g_MO_tick [.inr (.inl 50), .inl a]) hM (fun k j h5 _ => lk_sti h5 _ _) (fun B k j hk => by
    simp only [g_MO_tick]
    split
    · rw [lk_ti (by unfold lk_p; omega)]; exact am_up_k _ _ (by omega)
    · exact am_up_k _ _ (by omega)) (fun B hB => (sd_tick hB).1)
  replace h1 : lw_I M (g_LW_tick [.inr (.inl 0), .inl a, .inr (.inl 78)] M) := h1
  have hf := (sd_tick (n := a) h1).2
  refine ⟨sd_tick_P h1 ha, hcR, ?_, h2, fun h0 => (h3 h0).trans ?_⟩
  · have e := sd_kc_eq (n := a) h1
    show g_MO_tick _ _ 50 0 = sd_kc M a
    simp only [g_MO_tick]
    split
    · rename_i h0
      refine Eq.trans ?_ (h0.symm.trans e)
      rw [lk_ti (by unfold lk_p; omega), am_up_s]
    · rw [am_up_s]; exact e
  · have h0' : sd_kc M a = 0 := h0
    refine congrArg am_wr (Eq.trans ?_ (congrArg hp_v hf).symm)
    show sd_tr M a.toNat = if sd_kc M a = 0 then _ else 0
    rw [if_pos h0']
theorem lk_arr {B : am_M} {c z : Int} {k j : Nat} (h : lk_p k j) : g_MO_arrive [.inr (.inl 50), .inl c, .inl z] B k j = B k j := by
  unfold lk_p at h
  simp only [g_MO_arrive, g_MO_comesIn]
  rw [am_up_n (by omega), am_up_n (by omega), am_up_n (by omega), am_up_n (by omega), am_up_n (by omega), am_up_n (by omega), am_up_n (by omega)]
theorem lk_tin {A : am_M} {c z : Int} {k j : Nat} (h : 50 ≤ k) : g_SD_takeIn [.inr (.inl 0), .inl c, .inl z] A k j = A k j := by
  simp only [g_SD_takeIn, g_QU_takeUpTo]
  rw [qu_tk_k (by omega), jl_k (by omega)]
theorem l_job : lk_job := by
  intro M a hM ha
  have hcR : am_R (sd_jc M a) := by unfold sd_jc am_R; (repeat' split) <;> omega
  obtain ⟨h1, h2, h3⟩ := lk_go (v := am_wr (hp_v (f_SD_job [.inr (.inl 0), .inl a] M))) (cd := sd_jc M a) (gS := g_SD_takeIn [.inr (.inl 0), .inl a, .inl 0] M) (gR := g_MO_job [.inr (.inl 50), .inl a]) hM (fun k j h5 _ => lk_tin h5) (fun B k j hk => by
    simp only [g_MO_job]
    split
    · rw [lk_arr (by unfold lk_p; omega)]; exact am_up_k _ _ (by omega)
    · exact am_up_k _ _ (by omega)) (fun B hB => (sd_job hB).1)
  replace h1 : lw_I M (g_LW_job [.inr (.inl 0), .inl a, .inr (.inl 78)] M) := h1
  have hf := (sd_job (c := a) h1).2
  refine ⟨sd_job_P h1 ha, hcR, ?_, h2, fun h0 => (h3 h0).trans ?_⟩
  · have e := sd_jc_eq (c := a) h1
    show g_MO_job _ _ 50 0 = sd_jc M a
    simp only [g_MO_job]
    split
    · rename_i h0
      refine Eq.trans ?_ (h0.symm.trans e)
      rw [lk_arr (by unfold lk_p; omega), am_up_s]
    · rw [am_up_s]; exact e
  · have h0' : sd_jc M a = 0 := h0
    refine congrArg am_wr (Eq.trans ?_ (congrArg hp_v hf).symm)
    show M 10 3 = if sd_jc M a = 0 then _ else 0
    rw [if_pos h0']
theorem l_reset : lk_reset := by
  intro M hM
  refine ⟨rfl, ?_⟩
  have h1 : lw_I M (sd_zg M) := lw_I_of hM (fun _ _ _ => rfl) (fun k j h5 _ _ => (sd_zg_k (by omega) (by omega) (by omega)).trans (sd_z0_k (by omega)))
  refine lw_I_of (sd_reset h1) (fun k j hk => ?_) (fun _ _ _ _ _ => rfl)
  show mo_rs (sd_zg M) k j = sd_zg M k j
  unfold mo_rs mo_z1 mo_z0
  rw [am_up_k _ _ (by omega), am_up_k _ _ (by omega), am_up_k _ _ (by omega), mo_bg_k (by omega) (by omega)]
  simp only [am_fill]
  rw [if_neg (by omega), if_neg (by omega), am_up_k _ _ (by omega), am_up_k _ _ (by omega), am_up_k _ _ (by omega), am_up_k _ _ (by omega), am_up_k _ _ (by omega), am_up_k _ _ (by omega)]
