/-! what links both sides, call by call -/
theorem lk_go {M gS : am_M} {v cd : Int} {gR : am_M → am_M} (hI : lw_I M M) (hS : ∀ k j, 50 ≤ k → k ≤ 70 → gS k j = M k j) (hR : ∀ (B : am_M) (k j : Nat), k < 50 ∨ k = 78 → gR B k j = B k j) (hL : ∀ B, lw_I M B → lw_I (if cd = 0 then gS else M) (gR B)) :
    lw_I M (if cd = 0 then am_up gS 78 0 v else M) ∧ lw_I (gR (if cd = 0 then am_up gS 78 0 v else M)) (gR (if cd = 0 then am_up gS 78 0 v else M)) ∧ (cd = 0 → gR (if cd = 0 then am_up gS 78 0 v else M) 78 0 = v) := by
  have h1 : lw_I M (if cd = 0 then am_up gS 78 0 v else M) := lw_I_of hI (fun _ _ _ => rfl) (fun k j h1 h2 _ => by
    split
    · rw [am_up_k _ _ (by omega)]; exact hS k j h1 h2
    · rfl)
  refine ⟨h1, lw_I_of (hL _ h1) (fun k j hk => ?_) (fun _ _ _ _ _ => rfl), fun h => ?_⟩
  · rw [hR _ k j (Or.inl hk)]
    split
    · exact am_up_k _ _ (by omega)
    · rfl
  · rw [hR _ 78 0 (Or.inr rfl), if_pos h]
    exact am_up_s _ _ _ _
/-- without an answer -/
theorem lk_g0 {M gS : am_M} {cd : Int} {gR : am_M → am_M} (hI : lw_I M M) (hS : ∀ k j, 50 ≤ k → k ≤ 70 → gS k j = M k j) (hR : ∀ (B : am_M) (k j : Nat), k < 50 ∨ k = 78 → gR B k j = B k j) (hL : ∀ B, lw_I M B → lw_I (if cd = 0 then gS else M) (gR B)) :
    lw_I M (if cd = 0 then gS else M) ∧ lw_I (gR (if cd = 0 then gS else M)) (gR (if cd = 0 then gS else M)) := by
  have h1 : lw_I M (if cd = 0 then gS else M) := lw_I_of hI (fun _ _ _ => rfl) (fun k j h1 h2 _ => by
    split
    · exact hS k j h1 h2
    · rfl)
  exact ⟨h1, lw_I_of (hL _ h1) (fun k j hk => hR _ k j (Or.inl hk)) (fun _ _ _ _ _ => rfl)⟩
theorem lk_ite (c : Int) : c = c := rfl
theorem lk_upR {v : am_M → Int} : ∀ (B : am_M) (k j : Nat), k < 50 ∨ k = 78 → am_up B 50 0 (v B) k j = B k j := fun B k j h => am_up_k _ _ (by omega)
theorem l_ended : lk_ended := by
  intro M a hM ha
  have hc : am_R (sd_nc M a) := by unfold sd_nc am_R; split <;> omega
  obtain ⟨h1, h2, h3⟩ := lk_go (v := am_wr (hp_v (f_SD_ended [.inr (.inl 0), .inl a] M))) (cd := sd_nc M a) (gS := M) (gR := g_MO_ended [.inr (.inl 50), .inl a]) hM (fun _ _ _ _ => rfl) lk_upR (fun B hB => by rw [ite_self]; exact (sd_ended hB ha).2.1)
  have hk := sd_ended h1 ha
  refine ⟨hk.1, hc, hk.2.2.1, h2, fun h0 => (h3 h0).trans ?_⟩
  exact congrArg (fun z => am_wr (hp_v z)) (hk.2.2.2 h0).symm
theorem l_trace : lk_trace := by
  intro M a hM ha
  have hc : am_R (sd_xc M a) := by unfold sd_xc am_R; split <;> omega
  obtain ⟨h1, h2, h3⟩ := lk_go (v := am_wr (hp_v (f_SD_trace [.inr (.inl 0), .inl a] M))) (cd := sd_xc M a) (gS := M) (gR := g_MO_trace [.inr (.inl 50), .inl a]) hM (fun _ _ _ _ => rfl) lk_upR (fun B hB => by rw [ite_self]; exact (sd_trace hB ha).2.1)
  have hk := sd_trace h1 ha
  refine ⟨hk.1, hc, hk.2.2.1, h2, fun h0 => (h3 h0).trans ?_⟩
  exact congrArg (fun z => am_wr (hp_v z)) (hk.2.2.2 h0).symm
theorem l_state : lk_state := by
  intro M a hM ha
  have hc : am_R (sd_wc a) := by unfold sd_wc am_R; split <;> omega
  obtain ⟨h1, h2, h3⟩ := lk_go (v := am_wr (hp_v (f_SD_state [.inr (.inl 0), .inl a] M))) (cd := sd_wc a) (gS := M) (gR := g_MO_state [.inr (.inl 50), .inl a]) hM (fun _ _ _ _ => rfl) lk_upR (fun B hB => by rw [ite_self]; exact (sd_state hB ha).2.1)
  have hk := sd_state h1 ha
  refine ⟨hk.1, hc, hk.2.2.1, h2, fun h0 => (h3 h0).trans ?_⟩
  exact congrArg (fun z => am_wr (hp_v z)) (hk.2.2.2 h0).symm
theorem l_served : lk_served := by
  intro M a b hM ha hb
  have hc : am_R (sd_vc M a b) := by unfold sd_vc am_R; split <;> omega
  obtain ⟨h1, h2, h3⟩ := lk_go (v := am_wr (hp_v (f_SD_served [.inr (.inl 0), .inl a, .inl b] M))) (cd := sd_vc M a b) (gS := M) (gR := g_MO_served [.inr (.inl 50), .inl a, .inl b]) hM (fun _ _ _ _ => rfl) lk_upR (fun B hB => by rw [ite_self]; exact (sd_served hB ⟨ha, hb⟩).2.1)
  have hk := sd_served h1 ⟨ha, hb⟩
  refine ⟨hk.1, hc, hk.2.2.1, h2, fun h0 => (h3 h0).trans ?_⟩
  exact congrArg (fun z => am_wr (hp_v z)) (hk.2.2.2 h0).symm
theorem l_slack : lk_slack := by
  intro M hM
  have hc : am_R (sd_lc M) := by unfold sd_lc am_R; split <;> omega
  obtain ⟨h1, h2, h3⟩ := lk_go (v := am_wr (hp_v (f_SD_slack [.inr (.inl 0)] M))) (cd := sd_lc M) (gS := g_SD_slack [.inr (.inl 0)] M) (gR := g_MO_slack [.inr (.inl 50)]) hM (fun k j h5 _ => (sm_lp_k (Or.inr (by omega)) _ _ _ _).trans (sm_P_k (Or.inr (by omega)))) lk_upR (fun B hB => by
    have h := sd_slack hB
    by_cases c : sd_lc M = 0
    · rw [if_pos c]; exact (h.2.2.2 c).2.2 _ h.2.2.1
    · rw [if_neg c]; exact h.2.2.1)
  have hk := sd_slack h1
  refine ⟨hk.1, hc, hk.2.1, h2, fun h0 => (h3 h0).trans ?_⟩
  exact congrArg (fun z => am_wr (hp_v z)) (hk.2.2.2 h0).2.1.symm
