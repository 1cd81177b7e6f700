theorem l_task : lk_task := by
  intro M a b c d hM ha hb hc hd
  have hcR : am_R (sd_tc M a b c d) := by unfold sd_tc am_R; (repeat' split) <;> omega
  obtain ⟨h1, h2, h3⟩ := lk_go (v := am_wr (hp_v (f_SD_task [.inr (.inl 0), .inl a, .inl b, .inl c, .inl d] M))) (cd := sd_tc M a b c d) (gS := ts_ad a b c d M) (gR := g_MO_task [.inr (.inl 50), .inl a, .inl b, .inl c, .inl d]) hM (fun k j h5 _ => ts_ad_k (by omega)) (fun B k j hk => by
    simp only [g_MO_task]
    split
    · exact mo_tg_k (by omega)
    · exact am_up_k _ _ (by omega)) (fun B hB => sd_task hB)
  replace h1 : lw_I M (g_LW_task [.inr (.inl 0), .inl a, .inl b, .inl c, .inl d, .inr (.inl 78)] M) := h1
  refine ⟨sd_task_P h1 ⟨ha, hb, hc, hd⟩, hcR, ?_, h2, fun h0 => (h3 h0).trans ?_⟩
  · have e := sd_tc_eq (p := a) (f := b) (c := c) (d := d) h1
    show g_MO_task _ _ 50 0 = sd_tc M a b c d
    simp only [g_MO_task]
    split
    · rename_i h0
      refine Eq.trans ?_ (h0.symm.trans e)
      unfold mo_tg mo_ts
      rw [am_up_j _ _ (by decide), am_ins_k (by decide), am_up_k _ _ (by decide), am_up_k _ _ (by decide), am_up_k _ _ (by decide), am_up_k _ _ (by decide), am_up_s]
    · rw [am_up_s]; exact e
  · have e := sd_tc_eq (p := a) (f := b) (c := c) (d := d) h1
    have e1 := h1.1.1.1
    have h0' : sd_tc M a b c d = 0 := h0
    refine congrArg am_wr ?_
    show M 1 5 = if mo_tc _ a b c d = 0 then _ else 0
    rw [if_pos (e.trans h0')]
    exact e1.symm
theorem l_rule : lk_rule := by
  intro M a b c hM ha hb hc
  have hcR : am_R (sd_rc M a b c) := by unfold sd_rc am_R; (repeat' split) <;> omega
  obtain ⟨h1, h2, h3⟩ := lk_go (v := am_wr (hp_v (f_SD_rule [.inr (.inl 0), .inl a, .inl b, .inl c] M))) (cd := sd_rc M a b c) (gS := sd_rg a b c M) (gR := g_MO_rule [.inr (.inl 50), .inl a, .inl b, .inl c]) hM (fun k j h5 _ => by
    unfold sd_rg
    split
    · exact sd_rX_k (by omega) (by omega)
    · rw [am_up_k _ _ (by omega)]; exact sd_rX_k (by omega) (by omega)) (fun B k j hk => by
    simp only [g_MO_rule]
    (repeat' split)
    · exact mo_rX_k (by omega) (by omega) (by omega)
    · rw [am_up_k _ _ (by omega)]; exact mo_rX_k (by omega) (by omega) (by omega)
    · exact am_up_k _ _ (by omega)) (fun B hB => (sd_rule hB).1)
  replace h1 : lw_I M (g_LW_rule [.inr (.inl 0), .inl a, .inl b, .inl c, .inr (.inl 78)] M) := h1
  have hf := (sd_rule (k := a) (b := b) (p := c) h1).2
  refine ⟨sd_rule_P h1 ⟨ha, hb, hc⟩, hcR, ?_, h2, fun h0 => (h3 h0).trans ?_, ?_⟩
  · have e := sd_rc_eq (k := a) (b := b) (p := c) h1
    have z : ∀ B : am_M, mo_rX B a b c 50 0 = 0 := fun B => by
      unfold mo_rX
      rw [am_up_k _ _ (by decide), am_up_k _ _ (by decide), am_up_s]
    show g_MO_rule _ _ 50 0 = sd_rc M a b c
    simp only [g_MO_rule]
    split
    · rename_i h0
      refine Eq.trans ?_ (h0.symm.trans e)
      split
      · exact z _
      · rw [am_up_j _ _ (by decide)]; exact z _
    · rw [am_up_s]; exact e
  · refine congrArg am_wr ?_
    have h0' : sd_rc M a b c = 0 := h0
    refine Eq.trans ?_ (congrArg hp_v hf).symm
    show ts_a (sd_rX a b c M) a = if sd_rc M a b c = 0 then _ else 0
    rw [if_pos h0']
  · have e2 := congrArg hp_v hf
    rw [e2]
    show (if sd_rc M a b c = 0 then ts_a (sd_rX a b c M) a else 0) = 0 ∨ (if sd_rc M a b c = 0 then ts_a (sd_rX a b c M) a else 0) = 1
    split
    · exact ts_a_01 _ _
    · exact Or.inl rfl
theorem mo_bg_00 {B : am_M} {k : Int} : g_MO_begin [.inr (.inl 50), .inl k] B 50 0 = B 50 0 := by
  simp only [g_MO_begin]
  unfold mo_b3 mo_b2 mo_b1
  rw [am_up_j _ _ (by decide), am_up_j _ _ (by decide)]
  simp only [am_fill]
  rw [if_neg (by omega), am_up_j _ _ (by decide)]
  simp only [am_fill]
  rw [if_neg (by omega), if_neg (by omega), if_neg (by omega), am_up_j _ _ (by decide), am_up_j _ _ (by decide)]
theorem l_start : lk_start := by
  intro M hM
  have hcR : am_R (sd_sc M) := by unfold sd_sc am_R; (repeat' split) <;> omega
  obtain ⟨h1, h2⟩ := lk_g0 (cd := sd_sc M) (gS := sd_sg M) (gR := g_MO_start [.inr (.inl 50)]) hM (fun k j h5 _ => by
    unfold sd_sg
    rw [co_bg_k (by omega), am_up_k _ _ (by omega)]) (fun B k j hk => by
    simp only [g_MO_start]
    split
    · rw [mo_bg_k (by omega) (by omega), am_up_k _ _ (by omega), am_up_k _ _ (by omega)]
    · exact am_up_k _ _ (by omega)) (fun B hB => sd_start hB)
  replace h1 : lw_I M (g_LW_start [.inr (.inl 0)] M) := h1
  refine ⟨sd_start_P h1, hcR, ?_, h2⟩
  have e := sd_sc_eq h1
  show g_MO_start _ _ 50 0 = sd_sc M
  simp only [g_MO_start]
  split
  · rename_i h0
    refine Eq.trans ?_ (h0.symm.trans e)
    rw [mo_bg_00, am_up_j _ _ (by decide), am_up_s]
  · rename_i h0
    have h9 : ∀ X : am_M, mo_sc X = 0 ∨ mo_sc X = 1 := fun X => by unfold mo_sc; split <;> simp
    rw [am_up_s, ← e]
    exact ((h9 _).resolve_left h0).symm
theorem l_early : lk_early := by
  intro M a b hM ha hb
  have hcR : am_R (sd_ec M a b) := by unfold sd_ec am_R; (repeat' split) <;> omega
  obtain ⟨h1, h2⟩ := lk_g0 (cd := sd_ec M a b) (gS := sd_eg a b M) (gR := g_MO_early [.inr (.inl 50), .inl a, .inl b]) hM (fun k j h5 _ => by
    unfold sd_eg sd_eX
    rw [lo_sh_k (by omega), el_k (by omega)]) (fun B k j hk => by
    simp only [g_MO_early]
    split
    · rw [mo_tell_k (by omega), mo_e2_k (by omega) (by omega)]
    · exact am_up_k _ _ (by omega)) (fun B hB => (sd_early hB).1)
  replace h1 : lw_I M (g_LW_early [.inr (.inl 0), .inl a, .inl b] M) := h1
  refine ⟨sd_early_P h1 ha hb, hcR, ?_, h2⟩
  have e := sd_ec_eq (t := a) (k := b) h1
  show g_MO_early _ _ 50 0 = sd_ec M a b
  simp only [g_MO_early]
  split
  · rename_i h0
    refine Eq.trans ?_ (h0.symm.trans e)
    rw [mo_tell_k (by decide)]
    unfold mo_e2 mo_e1
    rw [am_up_j _ _ (by decide), am_up_k _ _ (by decide), am_up_k _ _ (by decide), am_up_k _ _ (by decide), am_up_s]
  · rw [am_up_s]; exact e
