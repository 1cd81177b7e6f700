/-! the law's helpers (wip/whole/p98.py) -/
abbrev h_LW_task : List (Nat × Nat × Nat × Nat) := [(0, 14, 17, 13), (0, 14, 21, 15), (0, 14, 25, 17)]
abbrev w_LW_task : List Jvm.Cond := Jvm.Cond.codeWith y_LW_task b_LW_task 7 (some .int) h_LW_task :: vw_W
theorem c_LW_task : Jvm.Cond.codeWith y_LW_task b_LW_task 7 (some .int) h_LW_task ∈ vw_W := vw_t 374 (by decide +kernel) (by decide +kernel)
abbrev t_LW_task : Room := { frames := t_SD_task.frames + 1, cells := 1, slots := 6, locals := 8 + (5 + 11) + t_SD_task.locals }
def P_LW_task : am_P := fun av M => match av with
  | [.inr (.inl i), .inl a, .inl b, .inl c, .inl d, .inr (.inl o)] => i = 0 ∧ o = 78 ∧ P_SD_task [.inr (.inl i), .inl a, .inl b, .inl c, .inl d] M
  | _ => False
def f_LW_task : am_Fr := fun av M => match av with
  | [.inr (.inl i), .inl a, .inl b, .inl c, .inl d, .inr (.inl _)] => some (.inl (cd_SD_task [.inr (.inl i), .inl a, .inl b, .inl c, .inl d] M))
  | _ => none
def g_LW_task : am_Fm := fun av M => match av with
  | [.inr (.inl i), .inl a, .inl b, .inl c, .inl d, .inr (.inl _)] => if cd_SD_task [.inr (.inl i), .inl a, .inl b, .inl c, .inl d] M = 0 then am_up (g_SD_task [.inr (.inl i), .inl a, .inl b, .inl c, .inl d] M) 78 0 (am_wr (hp_v (f_SD_task [.inr (.inl i), .inl a, .inl b, .inl c, .inl d] M))) else M
  | _ => M
theorem cw_LW_task (s : State) (args : Array Value) {Ts : List Jvm.Cond} (hW : ∀ w ∈ vw_W, w ∈ Ts) (hts : ∀ w ∈ Ts, w.before args s = true) : CallW t_LW_task s args "ServerDeskLaw" "ServerDesk" 7 y_SD_task b_SD_task 5 (some .int) w_SD_task t_SD_task 1 6 4 := ⟨callB_of 4 hts (vw_G hW c_SD_task) rfl rfl rfl (hts _ (hW _ (vw_t 1 (by decide +kernel) (by decide +kernel)))) (hts _ (hW _ (vw_t 378 (by decide +kernel) (by decide +kernel)))) (by decide +kernel) ⟨by decide, by decide⟩, hts _ (hW _ (vw_t 379 (by decide +kernel) (by decide +kernel))), hts _ (hW _ (vw_t 380 (by decide +kernel) (by decide +kernel)))⟩
set_option maxHeartbeats 2000000 in
theorem m_LW_task (l : Launch) (hfl : l.flags = flags0) : am_MH l y_LW_task w_LW_task t_LW_task P_LW_task f_LW_task g_LW_task := by
  refine am_mkH (n := 4) (pcc := 9) (E := 14) (hl := [(17, 13, "java/lang/IllegalArgumentException", 6, 19), (21, 15, "java/lang/IllegalStateException", 6, 23), (25, 17, "java/lang/UnsupportedOperationException", 6, 27)]) (fun pc => pc == 12 || pc == 13) rfl rfl i_LW_task_ok (m_SD_task l hfl) cw_LW_task d_LW_task_9 (by decide) (List.Pairwise.cons (by simp [hs_no]) (List.Pairwise.cons (by simp [hs_no]) (List.Pairwise.cons (by simp [hs_no]) (List.Pairwise.nil)))) (List.forall_mem_cons.mpr ⟨⟨by decide, vw_t 375 (by decide +kernel) (by decide +kernel), Or.inl ⟨d_LW_task_17, rfl⟩⟩, List.forall_mem_cons.mpr ⟨⟨by decide, vw_t 376 (by decide +kernel) (by decide +kernel), Or.inl ⟨d_LW_task_21, rfl⟩⟩, List.forall_mem_cons.mpr ⟨⟨by decide, vw_t 377 (by decide +kernel) (by decide +kernel), Or.inl ⟨d_LW_task_25, rfl⟩⟩, fun _ h => absurd h List.not_mem_nil⟩⟩⟩) ⟨by decide, by decide⟩ (plainFor_of_name (by decide +kernel)) ?_ ?_
  · intro av M h
    unfold P_LW_task at h
    split at h
    · exact ⟨Nat.le_of_ble_eq_true rfl, rfl⟩
    · exact h.elim
  · intro av M h
    unfold P_LW_task at h
    split at h
    · rename_i i a b c d o
      obtain ⟨rfl, rfl, hp⟩ := h
      refine xs_aload (q := 2) i_LW_task_0 rfl rfl (xs_n rfl ?_)
      refine xs_iconst (q := 3) i_LW_task_2 rfl (xs_n rfl ?_)
      refine xs_aload_n (q := 4) i_LW_task_3 rfl rfl (xs_n rfl ?_)
      refine xs_iload_n (q := 5) i_LW_task_4 rfl rfl (xs_n rfl ?_)
      refine xs_iload_n (q := 6) i_LW_task_5 rfl rfl (xs_n rfl ?_)
      refine xs_iload_n (q := 7) i_LW_task_6 rfl rfl (xs_n rfl ?_)
      refine xs_iload (q := 9) i_LW_task_7 rfl rfl (xs_z rfl ?_)
      refine ⟨rfl, rfl, ⟨Nat.le_of_ble_eq_true rfl, Nat.le_of_ble_eq_true rfl⟩, ⟨_, sg_0⟩, hp, fun h0 => ?_, fun h0 => ?_⟩
      · replace h0 : cd_SD_task [.inr (.inl 0), .inl a, .inl b, .inl c, .inl d] M = 0 := h0
        refine hp_r1 (rest := [.inl 0, .inr (.inl 78)]) (v := hp_v (f_SD_task [.inr (.inl 0), .inl a, .inl b, .inl c, .inl d] M)) rfl ?_
        refine xs_z rfl ?_
        refine xq_i2l rfl i_LW_task_12 (xs_z rfl ?_)
        refine xq_lastore rfl i_LW_task_13 sg_78 ⟨Int.le_refl 0, by decide⟩ (xs_n rfl ?_)
        refine xs_goto (q := 29) i_LW_task_14 rfl (xs_n rfl ?_)
        refine xs_iconst (q := 30) i_LW_task_29 rfl (xs_n rfl ?_)
        refine xs_iret i_LW_task_30 ?_
        exact ⟨⟨(by show _ = (some (.inl (cd_SD_task [.inr (.inl 0), .inl a, .inl b, .inl c, .inl d] M)) : Option am_V); rw [h0]), (by show _ = if cd_SD_task [.inr (.inl 0), .inl a, .inl b, .inl c, .inl d] M = 0 then _ else M; exact (if_pos h0).symm)⟩, trivial⟩
      · replace h0 : cd_SD_task [.inr (.inl 0), .inl a, .inl b, .inl c, .inl d] M ≠ 0 := h0
        have hc : cd_SD_task [.inr (.inl 0), .inl a, .inl b, .inl c, .inl d] M = 0 ∨ cd_SD_task [.inr (.inl 0), .inl a, .inl b, .inl c, .inl d] M = 1 ∨ cd_SD_task [.inr (.inl 0), .inl a, .inl b, .inl c, .inl d] M = 2 ∨ cd_SD_task [.inr (.inl 0), .inl a, .inl b, .inl c, .inl d] M = 3 := by
          simp only [cd_SD_task, sd_tc]
          (repeat' split) <;> simp
        rcases hc with hc | hc | hc | hc
        · exact absurd hc h0
        · refine ⟨[], _, _, rfl, (by show tc_SD_task (cd_SD_task [.inr (.inl 0), .inl a, .inl b, .inl c, .inl d] M) = _; rw [hc]; rfl), rfl, ?_⟩
          refine xs_iconst (q := 20) i_LW_task_19 rfl (xs_n rfl ?_)
          refine xs_iret i_LW_task_20 ?_
          exact ⟨⟨(by show _ = (some (.inl (cd_SD_task [.inr (.inl 0), .inl a, .inl b, .inl c, .inl d] M)) : Option am_V); rw [hc]), (by show M = if cd_SD_task [.inr (.inl 0), .inl a, .inl b, .inl c, .inl d] M = 0 then _ else M; rw [if_neg h0])⟩, trivial⟩
        · refine ⟨[_], _, _, rfl, (by show tc_SD_task (cd_SD_task [.inr (.inl 0), .inl a, .inl b, .inl c, .inl d] M) = _; rw [hc]; rfl), rfl, ?_⟩
          refine xs_iconst (q := 24) i_LW_task_23 rfl (xs_n rfl ?_)
          refine xs_iret i_LW_task_24 ?_
          exact ⟨⟨(by show _ = (some (.inl (cd_SD_task [.inr (.inl 0), .inl a, .inl b, .inl c, .inl d] M)) : Option am_V); rw [hc]), (by show M = if cd_SD_task [.inr (.inl 0), .inl a, .inl b, .inl c, .inl d] M = 0 then _ else M; rw [if_neg h0])⟩, trivial⟩
        · refine ⟨[_, _], _, _, rfl, (by show tc_SD_task (cd_SD_task [.inr (.inl 0), .inl a, .inl b, .inl c, .inl d] M) = _; rw [hc]; rfl), rfl, ?_⟩
          refine xs_iconst (q := 28) i_LW_task_27 rfl (xs_n rfl ?_)
          refine xs_iret i_LW_task_28 ?_
          exact ⟨⟨(by show _ = (some (.inl (cd_SD_task [.inr (.inl 0), .inl a, .inl b, .inl c, .inl d] M)) : Option am_V); rw [hc]), (by show M = if cd_SD_task [.inr (.inl 0), .inl a, .inl b, .inl c, .inl d] M = 0 then _ else M; rw [if_neg h0])⟩, trivial⟩
    · exact h.elim
abbrev h_LW_rule : List (Nat × Nat × Nat × Nat) := [(0, 19, 22, 13), (0, 19, 26, 15)]
abbrev w_LW_rule : List Jvm.Cond := Jvm.Cond.codeWith y_LW_rule b_LW_rule 6 (some .int) h_LW_rule :: vw_W
theorem c_LW_rule : Jvm.Cond.codeWith y_LW_rule b_LW_rule 6 (some .int) h_LW_rule ∈ vw_W := vw_t 501 (by decide +kernel) (by decide +kernel)
abbrev t_LW_rule : Room := { frames := t_SD_rule.frames + 1, cells := 1, slots := 6, locals := 8 + (5 + 11) + t_SD_rule.locals }
def P_LW_rule : am_P := fun av M => match av with
  | [.inr (.inl i), .inl a, .inl b, .inl c, .inr (.inl o)] => i = 0 ∧ o = 78 ∧ P_SD_rule [.inr (.inl i), .inl a, .inl b, .inl c] M
  | _ => False
def f_LW_rule : am_Fr := fun av M => match av with
  | [.inr (.inl i), .inl a, .inl b, .inl c, .inr (.inl _)] => some (.inl (cd_SD_rule [.inr (.inl i), .inl a, .inl b, .inl c] M))
  | _ => none
def g_LW_rule : am_Fm := fun av M => match av with
  | [.inr (.inl i), .inl a, .inl b, .inl c, .inr (.inl _)] => if cd_SD_rule [.inr (.inl i), .inl a, .inl b, .inl c] M = 0 then am_up (g_SD_rule [.inr (.inl i), .inl a, .inl b, .inl c] M) 78 0 (am_wr (hp_v (f_SD_rule [.inr (.inl i), .inl a, .inl b, .inl c] M))) else M
  | _ => M
theorem cw_LW_rule (s : State) (args : Array Value) {Ts : List Jvm.Cond} (hW : ∀ w ∈ vw_W, w ∈ Ts) (hts : ∀ w ∈ Ts, w.before args s = true) : CallW t_LW_rule s args "ServerDeskLaw" "ServerDesk" 19 y_SD_rule b_SD_rule 5 (some .boolean) w_SD_rule t_SD_rule 1 6 3 := ⟨callB_of 3 hts (vw_G hW c_SD_rule) rfl rfl rfl (hts _ (hW _ (vw_t 1 (by decide +kernel) (by decide +kernel)))) (hts _ (hW _ (vw_t 502 (by decide +kernel) (by decide +kernel)))) (by decide +kernel) ⟨by decide, by decide⟩, hts _ (hW _ (vw_t 503 (by decide +kernel) (by decide +kernel))), hts _ (hW _ (vw_t 504 (by decide +kernel) (by decide +kernel)))⟩
set_option maxHeartbeats 2000000 in
theorem m_LW_rule (l : Launch) (hfl : l.flags = flags0) : am_MH l y_LW_rule w_LW_rule t_LW_rule P_LW_rule f_LW_rule g_LW_rule := by
  refine am_mkH (n := 3) (pcc := 7) (E := 19) (hl := [(22, 13, "java/lang/IllegalArgumentException", 5, 24), (26, 15, "java/lang/IllegalStateException", 5, 28)]) (fun pc => pc == 13 || pc == 17 || pc == 18) rfl rfl i_LW_rule_ok (m_SD_rule l hfl) cw_LW_rule d_LW_rule_7 (by decide) (List.Pairwise.cons (by simp [hs_no]) (List.Pairwise.cons (by simp [hs_no]) (List.Pairwise.nil))) (List.forall_mem_cons.mpr ⟨⟨by decide, vw_t 375 (by decide +kernel) (by decide +kernel), Or.inl ⟨d_LW_rule_22, rfl⟩⟩, List.forall_mem_cons.mpr ⟨⟨by decide, vw_t 376 (by decide +kernel) (by decide +kernel), Or.inl ⟨d_LW_rule_26, rfl⟩⟩, fun _ h => absurd h List.not_mem_nil⟩⟩) ⟨by decide, by decide⟩ (plainFor_of_name (by decide +kernel)) ?_ ?_
  · intro av M h
    unfold P_LW_rule at h
    split at h
    · exact ⟨Nat.le_of_ble_eq_true rfl, rfl⟩
    · exact h.elim
  · intro av M h
    unfold P_LW_rule at h
    split at h
    · rename_i i a b c o
      obtain ⟨rfl, rfl, hp⟩ := h
      refine xs_aload (q := 2) i_LW_rule_0 rfl rfl (xs_n rfl ?_)
      refine xs_iconst (q := 3) i_LW_rule_2 rfl (xs_n rfl ?_)
      refine xs_aload_n (q := 4) i_LW_rule_3 rfl rfl (xs_n rfl ?_)
      refine xs_iload_n (q := 5) i_LW_rule_4 rfl rfl (xs_n rfl ?_)
      refine xs_iload_n (q := 6) i_LW_rule_5 rfl rfl (xs_n rfl ?_)
      refine xs_iload_n (q := 7) i_LW_rule_6 rfl rfl (xs_z rfl ?_)
      refine ⟨rfl, rfl, ⟨Nat.le_of_ble_eq_true rfl, Nat.le_of_ble_eq_true rfl⟩, ⟨_, sg_0⟩, hp, fun h0 => ?_, fun h0 => ?_⟩
      · replace h0 : cd_SD_rule [.inr (.inl 0), .inl a, .inl b, .inl c] M = 0 := h0
        refine hp_r1 (rest := [.inl 0, .inr (.inl 78)]) (v := hp_v (f_SD_rule [.inr (.inl 0), .inl a, .inl b, .inl c] M)) rfl ?_
        have hv0 : hp_v (f_SD_rule [.inr (.inl 0), .inl a, .inl b, .inl c] M) = 0 ∨ hp_v (f_SD_rule [.inr (.inl 0), .inl a, .inl b, .inl c] M) = 1 := ts_a_01 (sd_rX a b c M) a
        refine xs_n rfl ?_
        refine xs_if_eq (q := 17) (r := 13) i_LW_rule_10 rfl rfl (by unfold am_R; omega) (fun h10 => (xs_z rfl ?_)) (fun h10 => (xs_z rfl ?_))
        · have hv : hp_v (f_SD_rule [.inr (.inl 0), .inl a, .inl b, .inl c] M) = 0 := h10
          refine xq_lconst rfl i_LW_rule_17 (xs_z rfl ?_)
          refine xq_lastore rfl i_LW_rule_18 sg_78 ⟨Int.le_refl 0, by decide⟩ (xs_n rfl ?_)
          refine xs_goto (q := 30) i_LW_rule_19 rfl (xs_n rfl ?_)
          refine xs_iconst (q := 31) i_LW_rule_30 rfl (xs_n rfl ?_)
          refine xs_iret i_LW_rule_31 ?_
          exact ⟨⟨(by show _ = (some (.inl (cd_SD_rule [.inr (.inl 0), .inl a, .inl b, .inl c] M)) : Option am_V); rw [h0]), (by show _ = if cd_SD_rule [.inr (.inl 0), .inl a, .inl b, .inl c] M = 0 then _ else M; rw [if_pos h0, hv]; rfl)⟩, trivial⟩
        · have hv : hp_v (f_SD_rule [.inr (.inl 0), .inl a, .inl b, .inl c] M) = 1 := by omega
          refine xq_lconst rfl i_LW_rule_13 (xs_n rfl ?_)
          refine xs_goto (q := 18) i_LW_rule_14 rfl (xs_z rfl ?_)
          refine xq_lastore rfl i_LW_rule_18 sg_78 ⟨Int.le_refl 0, by decide⟩ (xs_n rfl ?_)
          refine xs_goto (q := 30) i_LW_rule_19 rfl (xs_n rfl ?_)
          refine xs_iconst (q := 31) i_LW_rule_30 rfl (xs_n rfl ?_)
          refine xs_iret i_LW_rule_31 ?_
          exact ⟨⟨(by show _ = (some (.inl (cd_SD_rule [.inr (.inl 0), .inl a, .inl b, .inl c] M)) : Option am_V); rw [h0]), (by show _ = if cd_SD_rule [.inr (.inl 0), .inl a, .inl b, .inl c] M = 0 then _ else M; rw [if_pos h0, hv]; rfl)⟩, trivial⟩
      · replace h0 : cd_SD_rule [.inr (.inl 0), .inl a, .inl b, .inl c] M ≠ 0 := h0
        have hc : cd_SD_rule [.inr (.inl 0), .inl a, .inl b, .inl c] M = 0 ∨ cd_SD_rule [.inr (.inl 0), .inl a, .inl b, .inl c] M = 1 ∨ cd_SD_rule [.inr (.inl 0), .inl a, .inl b, .inl c] M = 2 := by
          simp only [cd_SD_rule, sd_rc]
          (repeat' split) <;> simp
        rcases hc with hc | hc | hc
        · exact absurd hc h0
        · refine ⟨[], _, _, rfl, (by show tc_SD_rule (cd_SD_rule [.inr (.inl 0), .inl a, .inl b, .inl c] M) = _; rw [hc]; rfl), rfl, ?_⟩
          refine xs_iconst (q := 25) i_LW_rule_24 rfl (xs_n rfl ?_)
          refine xs_iret i_LW_rule_25 ?_
          exact ⟨⟨(by show _ = (some (.inl (cd_SD_rule [.inr (.inl 0), .inl a, .inl b, .inl c] M)) : Option am_V); rw [hc]), (by show M = if cd_SD_rule [.inr (.inl 0), .inl a, .inl b, .inl c] M = 0 then _ else M; rw [if_neg h0])⟩, trivial⟩
        · refine ⟨[_], _, _, rfl, (by show tc_SD_rule (cd_SD_rule [.inr (.inl 0), .inl a, .inl b, .inl c] M) = _; rw [hc]; rfl), rfl, ?_⟩
          refine xs_iconst (q := 29) i_LW_rule_28 rfl (xs_n rfl ?_)
          refine xs_iret i_LW_rule_29 ?_
          exact ⟨⟨(by show _ = (some (.inl (cd_SD_rule [.inr (.inl 0), .inl a, .inl b, .inl c] M)) : Option am_V); rw [hc]), (by show M = if cd_SD_rule [.inr (.inl 0), .inl a, .inl b, .inl c] M = 0 then _ else M; rw [if_neg h0])⟩, trivial⟩
    · exact h.elim
abbrev h_LW_start : List (Nat × Nat × Nat × Nat) := [(0, 4, 7, 15)]
abbrev w_LW_start : List Jvm.Cond := Jvm.Cond.codeWith y_LW_start b_LW_start 2 (some .int) h_LW_start :: vw_W
theorem c_LW_start : Jvm.Cond.codeWith y_LW_start b_LW_start 2 (some .int) h_LW_start ∈ vw_W := vw_t 545 (by decide +kernel) (by decide +kernel)
abbrev t_LW_start : Room := { frames := t_SD_start.frames + 1, cells := 1, slots := 6, locals := 8 + (1 + 11) + t_SD_start.locals }
def P_LW_start : am_P := fun av M => match av with
  | [.inr (.inl i)] => i = 0 ∧ P_SD_start [.inr (.inl i)] M
  | _ => False
def f_LW_start : am_Fr := fun av M => match av with
  | [.inr (.inl i)] => some (.inl (cd_SD_start [.inr (.inl i)] M))
  | _ => none
def g_LW_start : am_Fm := fun av M => match av with
  | [.inr (.inl i)] => if cd_SD_start [.inr (.inl i)] M = 0 then g_SD_start [.inr (.inl i)] M else M
  | _ => M
theorem cw_LW_start (s : State) (args : Array Value) {Ts : List Jvm.Cond} (hW : ∀ w ∈ vw_W, w ∈ Ts) (hts : ∀ w ∈ Ts, w.before args s = true) : CallW t_LW_start s args "ServerDeskLaw" "ServerDesk" 23 y_SD_start b_SD_start 1 none w_SD_start t_SD_start 1 6 0 := ⟨callB_of 0 hts (vw_G hW c_SD_start) rfl rfl rfl (hts _ (hW _ (vw_t 1 (by decide +kernel) (by decide +kernel)))) (hts _ (hW _ (vw_t 546 (by decide +kernel) (by decide +kernel)))) (by decide +kernel) ⟨by decide, by decide⟩, hts _ (hW _ (vw_t 547 (by decide +kernel) (by decide +kernel))), hts _ (hW _ (vw_t 548 (by decide +kernel) (by decide +kernel)))⟩
set_option maxHeartbeats 2000000 in
theorem m_LW_start (l : Launch) (hfl : l.flags = flags0) : am_MH l y_LW_start w_LW_start t_LW_start P_LW_start f_LW_start g_LW_start := by
  refine am_mkH (n := 0) (pcc := 1) (E := 4) (hl := [(7, 15, "java/lang/IllegalStateException", 1, 8)]) (fun pc => false) rfl rfl i_LW_start_ok (m_SD_start l hfl) cw_LW_start d_LW_start_1 (by decide) (List.Pairwise.cons (by simp [hs_no]) (List.Pairwise.nil)) (List.forall_mem_cons.mpr ⟨⟨by decide, vw_t 376 (by decide +kernel) (by decide +kernel), Or.inr ⟨1, rfl, d_LW_start_7, rfl⟩⟩, fun _ h => absurd h List.not_mem_nil⟩) ⟨by decide, by decide⟩ (plainFor_of_name (by decide +kernel)) ?_ ?_
  · intro av M h
    unfold P_LW_start at h
    split at h
    · exact ⟨Nat.le_of_ble_eq_true rfl, rfl⟩
    · exact h.elim
  · intro av M h
    unfold P_LW_start at h
    split at h
    · rename_i i
      obtain ⟨rfl, hp⟩ := h
      refine xs_aload_n (q := 1) i_LW_start_0 rfl rfl (xs_z rfl ?_)
      refine ⟨rfl, rfl, ⟨Nat.le_of_ble_eq_true rfl, Nat.le_of_ble_eq_true rfl⟩, ⟨_, sg_0⟩, hp, fun h0 => ?_, fun h0 => ?_⟩
      · replace h0 : cd_SD_start [.inr (.inl 0)] M = 0 := h0
        refine hp_r0 (rest := []) rfl ?_
        refine xs_n rfl ?_
        refine xs_goto (q := 10) i_LW_start_4 rfl (xs_n rfl ?_)
        refine xs_iconst (q := 11) i_LW_start_10 rfl (xs_n rfl ?_)
        refine xs_iret i_LW_start_11 ?_
        exact ⟨⟨(by show _ = (some (.inl (cd_SD_start [.inr (.inl 0)] M)) : Option am_V); rw [h0]), (by show _ = if cd_SD_start [.inr (.inl 0)] M = 0 then _ else M; exact (if_pos h0).symm)⟩, trivial⟩
      · replace h0 : cd_SD_start [.inr (.inl 0)] M ≠ 0 := h0
        have hc : cd_SD_start [.inr (.inl 0)] M = 0 ∨ cd_SD_start [.inr (.inl 0)] M = 1 := by
          simp only [cd_SD_start, sd_sc]
          (repeat' split) <;> simp
        rcases hc with hc | hc
        · exact absurd hc h0
        · refine ⟨[], _, _, rfl, (by show tc_SD_start (cd_SD_start [.inr (.inl 0)] M) = _; rw [hc]; rfl), rfl, ?_⟩
          refine xs_iconst (q := 9) i_LW_start_8 rfl (xs_n rfl ?_)
          refine xs_iret i_LW_start_9 ?_
          exact ⟨⟨(by show _ = (some (.inl (cd_SD_start [.inr (.inl 0)] M)) : Option am_V); rw [hc]), (by show M = if cd_SD_start [.inr (.inl 0)] M = 0 then _ else M; rw [if_neg h0])⟩, trivial⟩
    · exact h.elim
abbrev h_LW_tick : List (Nat × Nat × Nat × Nat) := [(0, 9, 12, 13), (0, 9, 15, 15)]
abbrev w_LW_tick : List Jvm.Cond := Jvm.Cond.codeWith y_LW_tick b_LW_tick 4 (some .int) h_LW_tick :: vw_W
theorem c_LW_tick : Jvm.Cond.codeWith y_LW_tick b_LW_tick 4 (some .int) h_LW_tick ∈ vw_W := vw_t 553 (by decide +kernel) (by decide +kernel)
abbrev t_LW_tick : Room := { frames := t_SD_tick.frames + 1, cells := 1, slots := 6, locals := 8 + (4 + 11) + t_SD_tick.locals }
def P_LW_tick : am_P := fun av M => match av with
  | [.inr (.inl i), .inl a, .inr (.inl o)] => i = 0 ∧ o = 78 ∧ P_SD_tick [.inr (.inl i), .inl a] M
  | _ => False
def f_LW_tick : am_Fr := fun av M => match av with
  | [.inr (.inl i), .inl a, .inr (.inl _)] => some (.inl (cd_SD_tick [.inr (.inl i), .inl a] M))
  | _ => none
def g_LW_tick : am_Fm := fun av M => match av with
  | [.inr (.inl i), .inl a, .inr (.inl _)] => if cd_SD_tick [.inr (.inl i), .inl a] M = 0 then am_up (g_SD_tick [.inr (.inl i), .inl a] M) 78 0 (am_wr (hp_v (f_SD_tick [.inr (.inl i), .inl a] M))) else M
  | _ => M
theorem cw_LW_tick (s : State) (args : Array Value) {Ts : List Jvm.Cond} (hW : ∀ w ∈ vw_W, w ∈ Ts) (hts : ∀ w ∈ Ts, w.before args s = true) : CallW t_LW_tick s args "ServerDeskLaw" "ServerDesk" 26 y_SD_tick b_SD_tick 4 (some .int) w_SD_tick t_SD_tick 1 6 1 := ⟨callB_of 1 hts (vw_G hW c_SD_tick) rfl rfl rfl (hts _ (hW _ (vw_t 1 (by decide +kernel) (by decide +kernel)))) (hts _ (hW _ (vw_t 554 (by decide +kernel) (by decide +kernel)))) (by decide +kernel) ⟨by decide, by decide⟩, hts _ (hW _ (vw_t 555 (by decide +kernel) (by decide +kernel))), hts _ (hW _ (vw_t 556 (by decide +kernel) (by decide +kernel)))⟩
set_option maxHeartbeats 2000000 in
theorem m_LW_tick (l : Launch) (hfl : l.flags = flags0) : am_MH l y_LW_tick w_LW_tick t_LW_tick P_LW_tick f_LW_tick g_LW_tick := by
  refine am_mkH (n := 1) (pcc := 4) (E := 9) (hl := [(12, 13, "java/lang/IllegalArgumentException", 3, 13), (15, 15, "java/lang/IllegalStateException", 3, 16)]) (fun pc => pc == 7 || pc == 8) rfl rfl i_LW_tick_ok (m_SD_tick l hfl) cw_LW_tick d_LW_tick_4 (by decide) (List.Pairwise.cons (by simp [hs_no]) (List.Pairwise.cons (by simp [hs_no]) (List.Pairwise.nil))) (List.forall_mem_cons.mpr ⟨⟨by decide, vw_t 375 (by decide +kernel) (by decide +kernel), Or.inr ⟨3, rfl, d_LW_tick_12, rfl⟩⟩, List.forall_mem_cons.mpr ⟨⟨by decide, vw_t 376 (by decide +kernel) (by decide +kernel), Or.inr ⟨3, rfl, d_LW_tick_15, rfl⟩⟩, fun _ h => absurd h List.not_mem_nil⟩⟩) ⟨by decide, by decide⟩ (plainFor_of_name (by decide +kernel)) ?_ ?_
  · intro av M h
    unfold P_LW_tick at h
    split at h
    · exact ⟨Nat.le_of_ble_eq_true rfl, rfl⟩
    · exact h.elim
  · intro av M h
    unfold P_LW_tick at h
    split at h
    · rename_i i a o
      obtain ⟨rfl, rfl, hp⟩ := h
      refine xs_aload_n (q := 1) i_LW_tick_0 rfl rfl (xs_n rfl ?_)
      refine xs_iconst (q := 2) i_LW_tick_1 rfl (xs_n rfl ?_)
      refine xs_aload_n (q := 3) i_LW_tick_2 rfl rfl (xs_n rfl ?_)
      refine xs_iload_n (q := 4) i_LW_tick_3 rfl rfl (xs_z rfl ?_)
      refine ⟨rfl, rfl, ⟨Nat.le_of_ble_eq_true rfl, Nat.le_of_ble_eq_true rfl⟩, ⟨_, sg_0⟩, hp, fun h0 => ?_, fun h0 => ?_⟩
      · replace h0 : cd_SD_tick [.inr (.inl 0), .inl a] M = 0 := h0
        refine hp_r1 (rest := [.inl 0, .inr (.inl 78)]) (v := hp_v (f_SD_tick [.inr (.inl 0), .inl a] M)) rfl ?_
        refine xs_z rfl ?_
        refine xq_i2l rfl i_LW_tick_7 (xs_z rfl ?_)
        refine xq_lastore rfl i_LW_tick_8 sg_78 ⟨Int.le_refl 0, by decide⟩ (xs_n rfl ?_)
        refine xs_goto (q := 18) i_LW_tick_9 rfl (xs_n rfl ?_)
        refine xs_iconst (q := 19) i_LW_tick_18 rfl (xs_n rfl ?_)
        refine xs_iret i_LW_tick_19 ?_
        exact ⟨⟨(by show _ = (some (.inl (cd_SD_tick [.inr (.inl 0), .inl a] M)) : Option am_V); rw [h0]), (by show _ = if cd_SD_tick [.inr (.inl 0), .inl a] M = 0 then _ else M; exact (if_pos h0).symm)⟩, trivial⟩
      · replace h0 : cd_SD_tick [.inr (.inl 0), .inl a] M ≠ 0 := h0
        have hc : cd_SD_tick [.inr (.inl 0), .inl a] M = 0 ∨ cd_SD_tick [.inr (.inl 0), .inl a] M = 1 ∨ cd_SD_tick [.inr (.inl 0), .inl a] M = 2 := by
          simp only [cd_SD_tick, sd_kc]
          (repeat' split) <;> simp
        rcases hc with hc | hc | hc
        · exact absurd hc h0
        · refine ⟨[], _, _, rfl, (by show tc_SD_tick (cd_SD_tick [.inr (.inl 0), .inl a] M) = _; rw [hc]; rfl), rfl, ?_⟩
          refine xs_iconst (q := 14) i_LW_tick_13 rfl (xs_n rfl ?_)
          refine xs_iret i_LW_tick_14 ?_
          exact ⟨⟨(by show _ = (some (.inl (cd_SD_tick [.inr (.inl 0), .inl a] M)) : Option am_V); rw [hc]), (by show M = if cd_SD_tick [.inr (.inl 0), .inl a] M = 0 then _ else M; rw [if_neg h0])⟩, trivial⟩
        · refine ⟨[_], _, _, rfl, (by show tc_SD_tick (cd_SD_tick [.inr (.inl 0), .inl a] M) = _; rw [hc]; rfl), rfl, ?_⟩
          refine xs_iconst (q := 17) i_LW_tick_16 rfl (xs_n rfl ?_)
          refine xs_iret i_LW_tick_17 ?_
          exact ⟨⟨(by show _ = (some (.inl (cd_SD_tick [.inr (.inl 0), .inl a] M)) : Option am_V); rw [hc]), (by show M = if cd_SD_tick [.inr (.inl 0), .inl a] M = 0 then _ else M; rw [if_neg h0])⟩, trivial⟩
    · exact h.elim
abbrev h_LW_job : List (Nat × Nat × Nat × Nat) := [(0, 9, 12, 13), (0, 9, 15, 15)]
abbrev w_LW_job : List Jvm.Cond := Jvm.Cond.codeWith y_LW_job b_LW_job 4 (some .int) h_LW_job :: vw_W
theorem c_LW_job : Jvm.Cond.codeWith y_LW_job b_LW_job 4 (some .int) h_LW_job ∈ vw_W := vw_t 639 (by decide +kernel) (by decide +kernel)
abbrev t_LW_job : Room := { frames := t_SD_job.frames + 1, cells := 1, slots := 6, locals := 8 + (2 + 11) + t_SD_job.locals }
def P_LW_job : am_P := fun av M => match av with
  | [.inr (.inl i), .inl a, .inr (.inl o)] => i = 0 ∧ o = 78 ∧ P_SD_job [.inr (.inl i), .inl a] M
  | _ => False
def f_LW_job : am_Fr := fun av M => match av with
  | [.inr (.inl i), .inl a, .inr (.inl _)] => some (.inl (cd_SD_job [.inr (.inl i), .inl a] M))
  | _ => none
def g_LW_job : am_Fm := fun av M => match av with
  | [.inr (.inl i), .inl a, .inr (.inl _)] => if cd_SD_job [.inr (.inl i), .inl a] M = 0 then am_up (g_SD_job [.inr (.inl i), .inl a] M) 78 0 (am_wr (hp_v (f_SD_job [.inr (.inl i), .inl a] M))) else M
  | _ => M
theorem cw_LW_job (s : State) (args : Array Value) {Ts : List Jvm.Cond} (hW : ∀ w ∈ vw_W, w ∈ Ts) (hts : ∀ w ∈ Ts, w.before args s = true) : CallW t_LW_job s args "ServerDeskLaw" "ServerDesk" 30 y_SD_job b_SD_job 2 (some .int) w_SD_job t_SD_job 1 6 1 := ⟨callB_of 1 hts (vw_G hW c_SD_job) rfl rfl rfl (hts _ (hW _ (vw_t 1 (by decide +kernel) (by decide +kernel)))) (hts _ (hW _ (vw_t 640 (by decide +kernel) (by decide +kernel)))) (by decide +kernel) ⟨by decide, by decide⟩, hts _ (hW _ (vw_t 641 (by decide +kernel) (by decide +kernel))), hts _ (hW _ (vw_t 642 (by decide +kernel) (by decide +kernel)))⟩
set_option maxHeartbeats 2000000 in
theorem m_LW_job (l : Launch) (hfl : l.flags = flags0) : am_MH l y_LW_job w_LW_job t_LW_job P_LW_job f_LW_job g_LW_job := by
  refine am_mkH (n := 1) (pcc := 4) (E := 9) (hl := [(12, 13, "java/lang/IllegalArgumentException", 3, 13), (15, 15, "java/lang/IllegalStateException", 3, 16)]) (fun pc => pc == 7 || pc == 8) rfl rfl i_LW_job_ok (m_SD_job l hfl) cw_LW_job d_LW_job_4 (by decide) (List.Pairwise.cons (by simp [hs_no]) (List.Pairwise.cons (by simp [hs_no]) (List.Pairwise.nil))) (List.forall_mem_cons.mpr ⟨⟨by decide, vw_t 375 (by decide +kernel) (by decide +kernel), Or.inr ⟨3, rfl, d_LW_job_12, rfl⟩⟩, List.forall_mem_cons.mpr ⟨⟨by decide, vw_t 376 (by decide +kernel) (by decide +kernel), Or.inr ⟨3, rfl, d_LW_job_15, rfl⟩⟩, fun _ h => absurd h List.not_mem_nil⟩⟩) ⟨by decide, by decide⟩ (plainFor_of_name (by decide +kernel)) ?_ ?_
  · intro av M h
    unfold P_LW_job at h
    split at h
    · exact ⟨Nat.le_of_ble_eq_true rfl, rfl⟩
    · exact h.elim
  · intro av M h
    unfold P_LW_job at h
    split at h
    · rename_i i a o
      obtain ⟨rfl, rfl, hp⟩ := h
      refine xs_aload_n (q := 1) i_LW_job_0 rfl rfl (xs_n rfl ?_)
      refine xs_iconst (q := 2) i_LW_job_1 rfl (xs_n rfl ?_)
      refine xs_aload_n (q := 3) i_LW_job_2 rfl rfl (xs_n rfl ?_)
      refine xs_iload_n (q := 4) i_LW_job_3 rfl rfl (xs_z rfl ?_)
      refine ⟨rfl, rfl, ⟨Nat.le_of_ble_eq_true rfl, Nat.le_of_ble_eq_true rfl⟩, ⟨_, sg_0⟩, hp, fun h0 => ?_, fun h0 => ?_⟩
      · replace h0 : cd_SD_job [.inr (.inl 0), .inl a] M = 0 := h0
        refine hp_r1 (rest := [.inl 0, .inr (.inl 78)]) (v := hp_v (f_SD_job [.inr (.inl 0), .inl a] M)) rfl ?_
        refine xs_z rfl ?_
        refine xq_i2l rfl i_LW_job_7 (xs_z rfl ?_)
        refine xq_lastore rfl i_LW_job_8 sg_78 ⟨Int.le_refl 0, by decide⟩ (xs_n rfl ?_)
        refine xs_goto (q := 18) i_LW_job_9 rfl (xs_n rfl ?_)
        refine xs_iconst (q := 19) i_LW_job_18 rfl (xs_n rfl ?_)
        refine xs_iret i_LW_job_19 ?_
        exact ⟨⟨(by show _ = (some (.inl (cd_SD_job [.inr (.inl 0), .inl a] M)) : Option am_V); rw [h0]), (by show _ = if cd_SD_job [.inr (.inl 0), .inl a] M = 0 then _ else M; exact (if_pos h0).symm)⟩, trivial⟩
      · replace h0 : cd_SD_job [.inr (.inl 0), .inl a] M ≠ 0 := h0
        have hc : cd_SD_job [.inr (.inl 0), .inl a] M = 0 ∨ cd_SD_job [.inr (.inl 0), .inl a] M = 1 ∨ cd_SD_job [.inr (.inl 0), .inl a] M = 2 := by
          simp only [cd_SD_job, sd_jc]
          (repeat' split) <;> simp
        rcases hc with hc | hc | hc
        · exact absurd hc h0
        · refine ⟨[], _, _, rfl, (by show tc_SD_job (cd_SD_job [.inr (.inl 0), .inl a] M) = _; rw [hc]; rfl), rfl, ?_⟩
          refine xs_iconst (q := 14) i_LW_job_13 rfl (xs_n rfl ?_)
          refine xs_iret i_LW_job_14 ?_
          exact ⟨⟨(by show _ = (some (.inl (cd_SD_job [.inr (.inl 0), .inl a] M)) : Option am_V); rw [hc]), (by show M = if cd_SD_job [.inr (.inl 0), .inl a] M = 0 then _ else M; rw [if_neg h0])⟩, trivial⟩
        · refine ⟨[_], _, _, rfl, (by show tc_SD_job (cd_SD_job [.inr (.inl 0), .inl a] M) = _; rw [hc]; rfl), rfl, ?_⟩
          refine xs_iconst (q := 17) i_LW_job_16 rfl (xs_n rfl ?_)
          refine xs_iret i_LW_job_17 ?_
          exact ⟨⟨(by show _ = (some (.inl (cd_SD_job [.inr (.inl 0), .inl a] M)) : Option am_V); rw [hc]), (by show M = if cd_SD_job [.inr (.inl 0), .inl a] M = 0 then _ else M; rw [if_neg h0])⟩, trivial⟩
    · exact h.elim
abbrev h_LW_hard : List (Nat × Nat × Nat × Nat) := [(0, 10, 13, 13), (0, 10, 17, 15)]
abbrev w_LW_hard : List Jvm.Cond := Jvm.Cond.codeWith y_LW_hard b_LW_hard 5 (some .int) h_LW_hard :: vw_W
theorem c_LW_hard : Jvm.Cond.codeWith y_LW_hard b_LW_hard 5 (some .int) h_LW_hard ∈ vw_W := vw_t 660 (by decide +kernel) (by decide +kernel)
abbrev t_LW_hard : Room := { frames := t_SD_hard.frames + 1, cells := 1, slots := 6, locals := 8 + (4 + 11) + t_SD_hard.locals }
def P_LW_hard : am_P := fun av M => match av with
  | [.inr (.inl i), .inl a, .inl b, .inr (.inl o)] => i = 0 ∧ o = 78 ∧ P_SD_hard [.inr (.inl i), .inl a, .inl b] M
  | _ => False
def f_LW_hard : am_Fr := fun av M => match av with
  | [.inr (.inl i), .inl a, .inl b, .inr (.inl _)] => some (.inl (cd_SD_hard [.inr (.inl i), .inl a, .inl b] M))
  | _ => none
def g_LW_hard : am_Fm := fun av M => match av with
  | [.inr (.inl i), .inl a, .inl b, .inr (.inl _)] => if cd_SD_hard [.inr (.inl i), .inl a, .inl b] M = 0 then am_up (g_SD_hard [.inr (.inl i), .inl a, .inl b] M) 78 0 (am_wr (hp_v (f_SD_hard [.inr (.inl i), .inl a, .inl b] M))) else M
  | _ => M
theorem cw_LW_hard (s : State) (args : Array Value) {Ts : List Jvm.Cond} (hW : ∀ w ∈ vw_W, w ∈ Ts) (hts : ∀ w ∈ Ts, w.before args s = true) : CallW t_LW_hard s args "ServerDeskLaw" "ServerDesk" 33 y_SD_hard b_SD_hard 4 (some .int) w_SD_hard t_SD_hard 1 6 2 := ⟨callB_of 2 hts (vw_G hW c_SD_hard) rfl rfl rfl (hts _ (hW _ (vw_t 1 (by decide +kernel) (by decide +kernel)))) (hts _ (hW _ (vw_t 661 (by decide +kernel) (by decide +kernel)))) (by decide +kernel) ⟨by decide, by decide⟩, hts _ (hW _ (vw_t 662 (by decide +kernel) (by decide +kernel))), hts _ (hW _ (vw_t 663 (by decide +kernel) (by decide +kernel)))⟩
set_option maxHeartbeats 2000000 in
theorem m_LW_hard (l : Launch) (hfl : l.flags = flags0) : am_MH l y_LW_hard w_LW_hard t_LW_hard P_LW_hard f_LW_hard g_LW_hard := by
  refine am_mkH (n := 2) (pcc := 5) (E := 10) (hl := [(13, 13, "java/lang/IllegalArgumentException", 4, 15), (17, 15, "java/lang/IllegalStateException", 4, 19)]) (fun pc => pc == 8 || pc == 9) rfl rfl i_LW_hard_ok (m_SD_hard l hfl) cw_LW_hard d_LW_hard_5 (by decide) (List.Pairwise.cons (by simp [hs_no]) (List.Pairwise.cons (by simp [hs_no]) (List.Pairwise.nil))) (List.forall_mem_cons.mpr ⟨⟨by decide, vw_t 375 (by decide +kernel) (by decide +kernel), Or.inl ⟨d_LW_hard_13, rfl⟩⟩, List.forall_mem_cons.mpr ⟨⟨by decide, vw_t 376 (by decide +kernel) (by decide +kernel), Or.inl ⟨d_LW_hard_17, rfl⟩⟩, fun _ h => absurd h List.not_mem_nil⟩⟩) ⟨by decide, by decide⟩ (plainFor_of_name (by decide +kernel)) ?_ ?_
  · intro av M h
    unfold P_LW_hard at h
    split at h
    · exact ⟨Nat.le_of_ble_eq_true rfl, rfl⟩
    · exact h.elim
  · intro av M h
    unfold P_LW_hard at h
    split at h
    · rename_i i a b o
      obtain ⟨rfl, rfl, hp⟩ := h
      refine xs_aload_n (q := 1) i_LW_hard_0 rfl rfl (xs_n rfl ?_)
      refine xs_iconst (q := 2) i_LW_hard_1 rfl (xs_n rfl ?_)
      refine xs_aload_n (q := 3) i_LW_hard_2 rfl rfl (xs_n rfl ?_)
      refine xs_iload_n (q := 4) i_LW_hard_3 rfl rfl (xs_n rfl ?_)
      refine xs_iload_n (q := 5) i_LW_hard_4 rfl rfl (xs_z rfl ?_)
      refine ⟨rfl, rfl, ⟨Nat.le_of_ble_eq_true rfl, Nat.le_of_ble_eq_true rfl⟩, ⟨_, sg_0⟩, hp, fun h0 => ?_, fun h0 => ?_⟩
      · replace h0 : cd_SD_hard [.inr (.inl 0), .inl a, .inl b] M = 0 := h0
        refine hp_r1 (rest := [.inl 0, .inr (.inl 78)]) (v := hp_v (f_SD_hard [.inr (.inl 0), .inl a, .inl b] M)) rfl ?_
        refine xs_z rfl ?_
        refine xq_i2l rfl i_LW_hard_8 (xs_z rfl ?_)
        refine xq_lastore rfl i_LW_hard_9 sg_78 ⟨Int.le_refl 0, by decide⟩ (xs_n rfl ?_)
        refine xs_goto (q := 21) i_LW_hard_10 rfl (xs_n rfl ?_)
        refine xs_iconst (q := 22) i_LW_hard_21 rfl (xs_n rfl ?_)
        refine xs_iret i_LW_hard_22 ?_
        exact ⟨⟨(by show _ = (some (.inl (cd_SD_hard [.inr (.inl 0), .inl a, .inl b] M)) : Option am_V); rw [h0]), (by show _ = if cd_SD_hard [.inr (.inl 0), .inl a, .inl b] M = 0 then _ else M; exact (if_pos h0).symm)⟩, trivial⟩
      · replace h0 : cd_SD_hard [.inr (.inl 0), .inl a, .inl b] M ≠ 0 := h0
        have hc : cd_SD_hard [.inr (.inl 0), .inl a, .inl b] M = 0 ∨ cd_SD_hard [.inr (.inl 0), .inl a, .inl b] M = 1 ∨ cd_SD_hard [.inr (.inl 0), .inl a, .inl b] M = 2 := by
          simp only [cd_SD_hard, sd_hc]
          (repeat' split) <;> simp
        rcases hc with hc | hc | hc
        · exact absurd hc h0
        · refine ⟨[], _, _, rfl, (by show tc_SD_hard (cd_SD_hard [.inr (.inl 0), .inl a, .inl b] M) = _; rw [hc]; rfl), rfl, ?_⟩
          refine xs_iconst (q := 16) i_LW_hard_15 rfl (xs_n rfl ?_)
          refine xs_iret i_LW_hard_16 ?_
          exact ⟨⟨(by show _ = (some (.inl (cd_SD_hard [.inr (.inl 0), .inl a, .inl b] M)) : Option am_V); rw [hc]), (by show M = if cd_SD_hard [.inr (.inl 0), .inl a, .inl b] M = 0 then _ else M; rw [if_neg h0])⟩, trivial⟩
        · refine ⟨[_], _, _, rfl, (by show tc_SD_hard (cd_SD_hard [.inr (.inl 0), .inl a, .inl b] M) = _; rw [hc]; rfl), rfl, ?_⟩
          refine xs_iconst (q := 20) i_LW_hard_19 rfl (xs_n rfl ?_)
          refine xs_iret i_LW_hard_20 ?_
          exact ⟨⟨(by show _ = (some (.inl (cd_SD_hard [.inr (.inl 0), .inl a, .inl b] M)) : Option am_V); rw [hc]), (by show M = if cd_SD_hard [.inr (.inl 0), .inl a, .inl b] M = 0 then _ else M; rw [if_neg h0])⟩, trivial⟩
    · exact h.elim
abbrev h_LW_early : List (Nat × Nat × Nat × Nat) := [(0, 6, 9, 13), (0, 6, 12, 15)]
abbrev w_LW_early : List Jvm.Cond := Jvm.Cond.codeWith y_LW_early b_LW_early 4 (some .int) h_LW_early :: vw_W
theorem c_LW_early : Jvm.Cond.codeWith y_LW_early b_LW_early 4 (some .int) h_LW_early ∈ vw_W := vw_t 682 (by decide +kernel) (by decide +kernel)
abbrev t_LW_early : Room := { frames := t_SD_early.frames + 1, cells := 1, slots := 6, locals := 8 + (3 + 11) + t_SD_early.locals }
def P_LW_early : am_P := fun av M => match av with
  | [.inr (.inl i), .inl a, .inl b] => i = 0 ∧ P_SD_early [.inr (.inl i), .inl a, .inl b] M
  | _ => False
def f_LW_early : am_Fr := fun av M => match av with
  | [.inr (.inl i), .inl a, .inl b] => some (.inl (cd_SD_early [.inr (.inl i), .inl a, .inl b] M))
  | _ => none
def g_LW_early : am_Fm := fun av M => match av with
  | [.inr (.inl i), .inl a, .inl b] => if cd_SD_early [.inr (.inl i), .inl a, .inl b] M = 0 then g_SD_early [.inr (.inl i), .inl a, .inl b] M else M
  | _ => M
theorem cw_LW_early (s : State) (args : Array Value) {Ts : List Jvm.Cond} (hW : ∀ w ∈ vw_W, w ∈ Ts) (hts : ∀ w ∈ Ts, w.before args s = true) : CallW t_LW_early s args "ServerDeskLaw" "ServerDesk" 37 y_SD_early b_SD_early 3 none w_SD_early t_SD_early 1 6 2 := ⟨callB_of 2 hts (vw_G hW c_SD_early) rfl rfl rfl (hts _ (hW _ (vw_t 1 (by decide +kernel) (by decide +kernel)))) (hts _ (hW _ (vw_t 683 (by decide +kernel) (by decide +kernel)))) (by decide +kernel) ⟨by decide, by decide⟩, hts _ (hW _ (vw_t 684 (by decide +kernel) (by decide +kernel))), hts _ (hW _ (vw_t 685 (by decide +kernel) (by decide +kernel)))⟩
set_option maxHeartbeats 2000000 in
theorem m_LW_early (l : Launch) (hfl : l.flags = flags0) : am_MH l y_LW_early w_LW_early t_LW_early P_LW_early f_LW_early g_LW_early := by
  refine am_mkH (n := 2) (pcc := 3) (E := 6) (hl := [(9, 13, "java/lang/IllegalArgumentException", 3, 10), (12, 15, "java/lang/IllegalStateException", 3, 13)]) (fun pc => false) rfl rfl i_LW_early_ok (m_SD_early l hfl) cw_LW_early d_LW_early_3 (by decide) (List.Pairwise.cons (by simp [hs_no]) (List.Pairwise.cons (by simp [hs_no]) (List.Pairwise.nil))) (List.forall_mem_cons.mpr ⟨⟨by decide, vw_t 375 (by decide +kernel) (by decide +kernel), Or.inr ⟨3, rfl, d_LW_early_9, rfl⟩⟩, List.forall_mem_cons.mpr ⟨⟨by decide, vw_t 376 (by decide +kernel) (by decide +kernel), Or.inr ⟨3, rfl, d_LW_early_12, rfl⟩⟩, fun _ h => absurd h List.not_mem_nil⟩⟩) ⟨by decide, by decide⟩ (plainFor_of_name (by decide +kernel)) ?_ ?_
  · intro av M h
    unfold P_LW_early at h
    split at h
    · exact ⟨Nat.le_of_ble_eq_true rfl, rfl⟩
    · exact h.elim
  · intro av M h
    unfold P_LW_early at h
    split at h
    · rename_i i a b
      obtain ⟨rfl, hp⟩ := h
      refine xs_aload_n (q := 1) i_LW_early_0 rfl rfl (xs_n rfl ?_)
      refine xs_iload_n (q := 2) i_LW_early_1 rfl rfl (xs_n rfl ?_)
      refine xs_iload_n (q := 3) i_LW_early_2 rfl rfl (xs_z rfl ?_)
      refine ⟨rfl, rfl, ⟨Nat.le_of_ble_eq_true rfl, Nat.le_of_ble_eq_true rfl⟩, ⟨_, sg_0⟩, hp, fun h0 => ?_, fun h0 => ?_⟩
      · replace h0 : cd_SD_early [.inr (.inl 0), .inl a, .inl b] M = 0 := h0
        refine hp_r0 (rest := []) rfl ?_
        refine xs_n rfl ?_
        refine xs_goto (q := 15) i_LW_early_6 rfl (xs_n rfl ?_)
        refine xs_iconst (q := 16) i_LW_early_15 rfl (xs_n rfl ?_)
        refine xs_iret i_LW_early_16 ?_
        exact ⟨⟨(by show _ = (some (.inl (cd_SD_early [.inr (.inl 0), .inl a, .inl b] M)) : Option am_V); rw [h0]), (by show _ = if cd_SD_early [.inr (.inl 0), .inl a, .inl b] M = 0 then _ else M; exact (if_pos h0).symm)⟩, trivial⟩
      · replace h0 : cd_SD_early [.inr (.inl 0), .inl a, .inl b] M ≠ 0 := h0
        have hc : cd_SD_early [.inr (.inl 0), .inl a, .inl b] M = 0 ∨ cd_SD_early [.inr (.inl 0), .inl a, .inl b] M = 1 ∨ cd_SD_early [.inr (.inl 0), .inl a, .inl b] M = 2 := by
          simp only [cd_SD_early, sd_ec]
          (repeat' split) <;> simp
        rcases hc with hc | hc | hc
        · exact absurd hc h0
        · refine ⟨[], _, _, rfl, (by show tc_SD_early (cd_SD_early [.inr (.inl 0), .inl a, .inl b] M) = _; rw [hc]; rfl), rfl, ?_⟩
          refine xs_iconst (q := 11) i_LW_early_10 rfl (xs_n rfl ?_)
          refine xs_iret i_LW_early_11 ?_
          exact ⟨⟨(by show _ = (some (.inl (cd_SD_early [.inr (.inl 0), .inl a, .inl b] M)) : Option am_V); rw [hc]), (by show M = if cd_SD_early [.inr (.inl 0), .inl a, .inl b] M = 0 then _ else M; rw [if_neg h0])⟩, trivial⟩
        · refine ⟨[_], _, _, rfl, (by show tc_SD_early (cd_SD_early [.inr (.inl 0), .inl a, .inl b] M) = _; rw [hc]; rfl), rfl, ?_⟩
          refine xs_iconst (q := 14) i_LW_early_13 rfl (xs_n rfl ?_)
          refine xs_iret i_LW_early_14 ?_
          exact ⟨⟨(by show _ = (some (.inl (cd_SD_early [.inr (.inl 0), .inl a, .inl b] M)) : Option am_V); rw [hc]), (by show M = if cd_SD_early [.inr (.inl 0), .inl a, .inl b] M = 0 then _ else M; rw [if_neg h0])⟩, trivial⟩
    · exact h.elim
abbrev h_LW_ended : List (Nat × Nat × Nat × Nat) := [(0, 9, 12, 44)]
abbrev w_LW_ended : List Jvm.Cond := Jvm.Cond.codeWith y_LW_ended b_LW_ended 4 (some .int) h_LW_ended :: vw_W
theorem c_LW_ended : Jvm.Cond.codeWith y_LW_ended b_LW_ended 4 (some .int) h_LW_ended ∈ vw_W := vw_t 700 (by decide +kernel) (by decide +kernel)
abbrev t_LW_ended : Room := { frames := t_SD_ended.frames + 1, cells := 1, slots := 6, locals := 8 + (2 + 11) + t_SD_ended.locals }
def P_LW_ended : am_P := fun av M => match av with
  | [.inr (.inl i), .inl a, .inr (.inl o)] => i = 0 ∧ o = 78 ∧ P_SD_ended [.inr (.inl i), .inl a] M
  | _ => False
def f_LW_ended : am_Fr := fun av M => match av with
  | [.inr (.inl i), .inl a, .inr (.inl _)] => some (.inl (cd_SD_ended [.inr (.inl i), .inl a] M))
  | _ => none
def g_LW_ended : am_Fm := fun av M => match av with
  | [.inr (.inl i), .inl a, .inr (.inl _)] => if cd_SD_ended [.inr (.inl i), .inl a] M = 0 then am_up (g_SD_ended [.inr (.inl i), .inl a] M) 78 0 (am_wr (hp_v (f_SD_ended [.inr (.inl i), .inl a] M))) else M
  | _ => M
theorem cw_LW_ended (s : State) (args : Array Value) {Ts : List Jvm.Cond} (hW : ∀ w ∈ vw_W, w ∈ Ts) (hts : ∀ w ∈ Ts, w.before args s = true) : CallW t_LW_ended s args "ServerDeskLaw" "ServerDesk" 41 y_SD_ended b_SD_ended 2 (some .int) w_SD_ended t_SD_ended 1 6 1 := ⟨callB_of 1 hts (vw_G hW c_SD_ended) rfl rfl rfl (hts _ (hW _ (vw_t 1 (by decide +kernel) (by decide +kernel)))) (hts _ (hW _ (vw_t 702 (by decide +kernel) (by decide +kernel)))) (by decide +kernel) ⟨by decide, by decide⟩, hts _ (hW _ (vw_t 703 (by decide +kernel) (by decide +kernel))), hts _ (hW _ (vw_t 704 (by decide +kernel) (by decide +kernel)))⟩
set_option maxHeartbeats 2000000 in
theorem m_LW_ended (l : Launch) (hfl : l.flags = flags0) : am_MH l y_LW_ended w_LW_ended t_LW_ended P_LW_ended f_LW_ended g_LW_ended := by
  refine am_mkH (n := 1) (pcc := 4) (E := 9) (hl := [(12, 44, "java/util/NoSuchElementException", 3, 13)]) (fun pc => pc == 7 || pc == 8) rfl rfl i_LW_ended_ok (m_SD_ended l hfl) cw_LW_ended d_LW_ended_4 (by decide) (List.Pairwise.cons (by simp [hs_no]) (List.Pairwise.nil)) (List.forall_mem_cons.mpr ⟨⟨by decide, vw_t 701 (by decide +kernel) (by decide +kernel), Or.inr ⟨3, rfl, d_LW_ended_12, rfl⟩⟩, fun _ h => absurd h List.not_mem_nil⟩) ⟨by decide, by decide⟩ (plainFor_of_name (by decide +kernel)) ?_ ?_
  · intro av M h
    unfold P_LW_ended at h
    split at h
    · exact ⟨Nat.le_of_ble_eq_true rfl, rfl⟩
    · exact h.elim
  · intro av M h
    unfold P_LW_ended at h
    split at h
    · rename_i i a o
      obtain ⟨rfl, rfl, hp⟩ := h
      refine xs_aload_n (q := 1) i_LW_ended_0 rfl rfl (xs_n rfl ?_)
      refine xs_iconst (q := 2) i_LW_ended_1 rfl (xs_n rfl ?_)
      refine xs_aload_n (q := 3) i_LW_ended_2 rfl rfl (xs_n rfl ?_)
      refine xs_iload_n (q := 4) i_LW_ended_3 rfl rfl (xs_z rfl ?_)
      refine ⟨rfl, rfl, ⟨Nat.le_of_ble_eq_true rfl, Nat.le_of_ble_eq_true rfl⟩, ⟨_, sg_0⟩, hp, fun h0 => ?_, fun h0 => ?_⟩
      · replace h0 : cd_SD_ended [.inr (.inl 0), .inl a] M = 0 := h0
        refine hp_r1 (rest := [.inl 0, .inr (.inl 78)]) (v := hp_v (f_SD_ended [.inr (.inl 0), .inl a] M)) rfl ?_
        refine xs_z rfl ?_
        refine xq_i2l rfl i_LW_ended_7 (xs_z rfl ?_)
        refine xq_lastore rfl i_LW_ended_8 sg_78 ⟨Int.le_refl 0, by decide⟩ (xs_n rfl ?_)
        refine xs_goto (q := 15) i_LW_ended_9 rfl (xs_n rfl ?_)
        refine xs_iconst (q := 16) i_LW_ended_15 rfl (xs_n rfl ?_)
        refine xs_iret i_LW_ended_16 ?_
        exact ⟨⟨(by show _ = (some (.inl (cd_SD_ended [.inr (.inl 0), .inl a] M)) : Option am_V); rw [h0]), (by show _ = if cd_SD_ended [.inr (.inl 0), .inl a] M = 0 then _ else M; exact (if_pos h0).symm)⟩, trivial⟩
      · replace h0 : cd_SD_ended [.inr (.inl 0), .inl a] M ≠ 0 := h0
        have hc : cd_SD_ended [.inr (.inl 0), .inl a] M = 0 ∨ cd_SD_ended [.inr (.inl 0), .inl a] M = 1 := by
          simp only [cd_SD_ended, sd_nc]
          (repeat' split) <;> simp
        rcases hc with hc | hc
        · exact absurd hc h0
        · refine ⟨[], _, _, rfl, (by show tc_SD_ended (cd_SD_ended [.inr (.inl 0), .inl a] M) = _; rw [hc]; rfl), rfl, ?_⟩
          refine xs_iconst (q := 14) i_LW_ended_13 rfl (xs_n rfl ?_)
          refine xs_iret i_LW_ended_14 ?_
          exact ⟨⟨(by show _ = (some (.inl (cd_SD_ended [.inr (.inl 0), .inl a] M)) : Option am_V); rw [hc]), (by show M = if cd_SD_ended [.inr (.inl 0), .inl a] M = 0 then _ else M; rw [if_neg h0])⟩, trivial⟩
    · exact h.elim
abbrev h_LW_slack : List (Nat × Nat × Nat × Nat) := [(0, 8, 11, 15)]
abbrev w_LW_slack : List Jvm.Cond := Jvm.Cond.codeWith y_LW_slack b_LW_slack 3 (some .int) h_LW_slack :: vw_W
theorem c_LW_slack : Jvm.Cond.codeWith y_LW_slack b_LW_slack 3 (some .int) h_LW_slack ∈ vw_W := vw_t 724 (by decide +kernel) (by decide +kernel)
abbrev t_LW_slack : Room := { frames := t_SD_slack.frames + 1, cells := 1, slots := 6, locals := 8 + (1 + 11) + t_SD_slack.locals }
def P_LW_slack : am_P := fun av M => match av with
  | [.inr (.inl i), .inr (.inl o)] => i = 0 ∧ o = 78 ∧ P_SD_slack [.inr (.inl i)] M
  | _ => False
def f_LW_slack : am_Fr := fun av M => match av with
  | [.inr (.inl i), .inr (.inl _)] => some (.inl (cd_SD_slack [.inr (.inl i)] M))
  | _ => none
def g_LW_slack : am_Fm := fun av M => match av with
  | [.inr (.inl i), .inr (.inl _)] => if cd_SD_slack [.inr (.inl i)] M = 0 then am_up (g_SD_slack [.inr (.inl i)] M) 78 0 (am_wr (hp_v (f_SD_slack [.inr (.inl i)] M))) else M
  | _ => M
theorem cw_LW_slack (s : State) (args : Array Value) {Ts : List Jvm.Cond} (hW : ∀ w ∈ vw_W, w ∈ Ts) (hts : ∀ w ∈ Ts, w.before args s = true) : CallW t_LW_slack s args "ServerDeskLaw" "ServerDesk" 46 y_SD_slack b_SD_slack 1 (some .int) w_SD_slack t_SD_slack 1 6 0 := ⟨callB_of 0 hts (vw_G hW c_SD_slack) rfl rfl rfl (hts _ (hW _ (vw_t 1 (by decide +kernel) (by decide +kernel)))) (hts _ (hW _ (vw_t 725 (by decide +kernel) (by decide +kernel)))) (by decide +kernel) ⟨by decide, by decide⟩, hts _ (hW _ (vw_t 726 (by decide +kernel) (by decide +kernel))), hts _ (hW _ (vw_t 727 (by decide +kernel) (by decide +kernel)))⟩
set_option maxHeartbeats 2000000 in
theorem m_LW_slack (l : Launch) (hfl : l.flags = flags0) : am_MH l y_LW_slack w_LW_slack t_LW_slack P_LW_slack f_LW_slack g_LW_slack := by
  refine am_mkH (n := 0) (pcc := 3) (E := 8) (hl := [(11, 15, "java/lang/IllegalStateException", 2, 12)]) (fun pc => pc == 6 || pc == 7) rfl rfl i_LW_slack_ok (m_SD_slack l hfl) cw_LW_slack d_LW_slack_3 (by decide) (List.Pairwise.cons (by simp [hs_no]) (List.Pairwise.nil)) (List.forall_mem_cons.mpr ⟨⟨by decide, vw_t 376 (by decide +kernel) (by decide +kernel), Or.inr ⟨2, rfl, d_LW_slack_11, rfl⟩⟩, fun _ h => absurd h List.not_mem_nil⟩) ⟨by decide, by decide⟩ (plainFor_of_name (by decide +kernel)) ?_ ?_
  · intro av M h
    unfold P_LW_slack at h
    split at h
    · exact ⟨Nat.le_of_ble_eq_true rfl, rfl⟩
    · exact h.elim
  · intro av M h
    unfold P_LW_slack at h
    split at h
    · rename_i i o
      obtain ⟨rfl, rfl, hp⟩ := h
      refine xs_aload_n (q := 1) i_LW_slack_0 rfl rfl (xs_n rfl ?_)
      refine xs_iconst (q := 2) i_LW_slack_1 rfl (xs_n rfl ?_)
      refine xs_aload_n (q := 3) i_LW_slack_2 rfl rfl (xs_z rfl ?_)
      refine ⟨rfl, rfl, ⟨Nat.le_of_ble_eq_true rfl, Nat.le_of_ble_eq_true rfl⟩, ⟨_, sg_0⟩, hp, fun h0 => ?_, fun h0 => ?_⟩
      · replace h0 : cd_SD_slack [.inr (.inl 0)] M = 0 := h0
        refine hp_r1 (rest := [.inl 0, .inr (.inl 78)]) (v := hp_v (f_SD_slack [.inr (.inl 0)] M)) rfl ?_
        refine xs_z rfl ?_
        refine xq_i2l rfl i_LW_slack_6 (xs_z rfl ?_)
        refine xq_lastore rfl i_LW_slack_7 sg_78 ⟨Int.le_refl 0, by decide⟩ (xs_n rfl ?_)
        refine xs_goto (q := 14) i_LW_slack_8 rfl (xs_n rfl ?_)
        refine xs_iconst (q := 15) i_LW_slack_14 rfl (xs_n rfl ?_)
        refine xs_iret i_LW_slack_15 ?_
        exact ⟨⟨(by show _ = (some (.inl (cd_SD_slack [.inr (.inl 0)] M)) : Option am_V); rw [h0]), (by show _ = if cd_SD_slack [.inr (.inl 0)] M = 0 then _ else M; exact (if_pos h0).symm)⟩, trivial⟩
      · replace h0 : cd_SD_slack [.inr (.inl 0)] M ≠ 0 := h0
        have hc : cd_SD_slack [.inr (.inl 0)] M = 0 ∨ cd_SD_slack [.inr (.inl 0)] M = 1 := by
          simp only [cd_SD_slack, sd_lc]
          (repeat' split) <;> simp
        rcases hc with hc | hc
        · exact absurd hc h0
        · refine ⟨[], _, _, rfl, (by show tc_SD_slack (cd_SD_slack [.inr (.inl 0)] M) = _; rw [hc]; rfl), rfl, ?_⟩
          refine xs_iconst (q := 13) i_LW_slack_12 rfl (xs_n rfl ?_)
          refine xs_iret i_LW_slack_13 ?_
          exact ⟨⟨(by show _ = (some (.inl (cd_SD_slack [.inr (.inl 0)] M)) : Option am_V); rw [hc]), (by show M = if cd_SD_slack [.inr (.inl 0)] M = 0 then _ else M; rw [if_neg h0])⟩, trivial⟩
    · exact h.elim
abbrev h_LW_trace : List (Nat × Nat × Nat × Nat) := [(0, 9, 12, 53)]
abbrev w_LW_trace : List Jvm.Cond := Jvm.Cond.codeWith y_LW_trace b_LW_trace 4 (some .int) h_LW_trace :: vw_W
theorem c_LW_trace : Jvm.Cond.codeWith y_LW_trace b_LW_trace 4 (some .int) h_LW_trace ∈ vw_W := vw_t 733 (by decide +kernel) (by decide +kernel)
abbrev t_LW_trace : Room := { frames := t_SD_trace.frames + 1, cells := 1, slots := 6, locals := 8 + (2 + 11) + t_SD_trace.locals }
def P_LW_trace : am_P := fun av M => match av with
  | [.inr (.inl i), .inl a, .inr (.inl o)] => i = 0 ∧ o = 78 ∧ P_SD_trace [.inr (.inl i), .inl a] M
  | _ => False
def f_LW_trace : am_Fr := fun av M => match av with
  | [.inr (.inl i), .inl a, .inr (.inl _)] => some (.inl (cd_SD_trace [.inr (.inl i), .inl a] M))
  | _ => none
def g_LW_trace : am_Fm := fun av M => match av with
  | [.inr (.inl i), .inl a, .inr (.inl _)] => if cd_SD_trace [.inr (.inl i), .inl a] M = 0 then am_up (g_SD_trace [.inr (.inl i), .inl a] M) 78 0 (am_wr (hp_v (f_SD_trace [.inr (.inl i), .inl a] M))) else M
  | _ => M
theorem cw_LW_trace (s : State) (args : Array Value) {Ts : List Jvm.Cond} (hW : ∀ w ∈ vw_W, w ∈ Ts) (hts : ∀ w ∈ Ts, w.before args s = true) : CallW t_LW_trace s args "ServerDeskLaw" "ServerDesk" 50 y_SD_trace b_SD_trace 2 (some .int) w_SD_trace t_SD_trace 1 6 1 := ⟨callB_of 1 hts (vw_G hW c_SD_trace) rfl rfl rfl (hts _ (hW _ (vw_t 1 (by decide +kernel) (by decide +kernel)))) (hts _ (hW _ (vw_t 735 (by decide +kernel) (by decide +kernel)))) (by decide +kernel) ⟨by decide, by decide⟩, hts _ (hW _ (vw_t 736 (by decide +kernel) (by decide +kernel))), hts _ (hW _ (vw_t 737 (by decide +kernel) (by decide +kernel)))⟩
set_option maxHeartbeats 2000000 in
theorem m_LW_trace (l : Launch) (hfl : l.flags = flags0) : am_MH l y_LW_trace w_LW_trace t_LW_trace P_LW_trace f_LW_trace g_LW_trace := by
  refine am_mkH (n := 1) (pcc := 4) (E := 9) (hl := [(12, 53, "java/lang/IndexOutOfBoundsException", 3, 13)]) (fun pc => pc == 7 || pc == 8) rfl rfl i_LW_trace_ok (m_SD_trace l hfl) cw_LW_trace d_LW_trace_4 (by decide) (List.Pairwise.cons (by simp [hs_no]) (List.Pairwise.nil)) (List.forall_mem_cons.mpr ⟨⟨by decide, vw_t 734 (by decide +kernel) (by decide +kernel), Or.inr ⟨3, rfl, d_LW_trace_12, rfl⟩⟩, fun _ h => absurd h List.not_mem_nil⟩) ⟨by decide, by decide⟩ (plainFor_of_name (by decide +kernel)) ?_ ?_
  · intro av M h
    unfold P_LW_trace at h
    split at h
    · exact ⟨Nat.le_of_ble_eq_true rfl, rfl⟩
    · exact h.elim
  · intro av M h
    unfold P_LW_trace at h
    split at h
    · rename_i i a o
      obtain ⟨rfl, rfl, hp⟩ := h
      refine xs_aload_n (q := 1) i_LW_trace_0 rfl rfl (xs_n rfl ?_)
      refine xs_iconst (q := 2) i_LW_trace_1 rfl (xs_n rfl ?_)
      refine xs_aload_n (q := 3) i_LW_trace_2 rfl rfl (xs_n rfl ?_)
      refine xs_iload_n (q := 4) i_LW_trace_3 rfl rfl (xs_z rfl ?_)
      refine ⟨rfl, rfl, ⟨Nat.le_of_ble_eq_true rfl, Nat.le_of_ble_eq_true rfl⟩, ⟨_, sg_0⟩, hp, fun h0 => ?_, fun h0 => ?_⟩
      · replace h0 : cd_SD_trace [.inr (.inl 0), .inl a] M = 0 := h0
        refine hp_r1 (rest := [.inl 0, .inr (.inl 78)]) (v := hp_v (f_SD_trace [.inr (.inl 0), .inl a] M)) rfl ?_
        refine xs_z rfl ?_
        refine xq_i2l rfl i_LW_trace_7 (xs_z rfl ?_)
        refine xq_lastore rfl i_LW_trace_8 sg_78 ⟨Int.le_refl 0, by decide⟩ (xs_n rfl ?_)
        refine xs_goto (q := 15) i_LW_trace_9 rfl (xs_n rfl ?_)
        refine xs_iconst (q := 16) i_LW_trace_15 rfl (xs_n rfl ?_)
        refine xs_iret i_LW_trace_16 ?_
        exact ⟨⟨(by show _ = (some (.inl (cd_SD_trace [.inr (.inl 0), .inl a] M)) : Option am_V); rw [h0]), (by show _ = if cd_SD_trace [.inr (.inl 0), .inl a] M = 0 then _ else M; exact (if_pos h0).symm)⟩, trivial⟩
      · replace h0 : cd_SD_trace [.inr (.inl 0), .inl a] M ≠ 0 := h0
        have hc : cd_SD_trace [.inr (.inl 0), .inl a] M = 0 ∨ cd_SD_trace [.inr (.inl 0), .inl a] M = 1 := by
          simp only [cd_SD_trace, sd_xc]
          (repeat' split) <;> simp
        rcases hc with hc | hc
        · exact absurd hc h0
        · refine ⟨[], _, _, rfl, (by show tc_SD_trace (cd_SD_trace [.inr (.inl 0), .inl a] M) = _; rw [hc]; rfl), rfl, ?_⟩
          refine xs_iconst (q := 14) i_LW_trace_13 rfl (xs_n rfl ?_)
          refine xs_iret i_LW_trace_14 ?_
          exact ⟨⟨(by show _ = (some (.inl (cd_SD_trace [.inr (.inl 0), .inl a] M)) : Option am_V); rw [hc]), (by show M = if cd_SD_trace [.inr (.inl 0), .inl a] M = 0 then _ else M; rw [if_neg h0])⟩, trivial⟩
    · exact h.elim
abbrev h_LW_served : List (Nat × Nat × Nat × Nat) := [(0, 10, 13, 13)]
abbrev w_LW_served : List Jvm.Cond := Jvm.Cond.codeWith y_LW_served b_LW_served 5 (some .int) h_LW_served :: vw_W
theorem c_LW_served : Jvm.Cond.codeWith y_LW_served b_LW_served 5 (some .int) h_LW_served ∈ vw_W := vw_t 757 (by decide +kernel) (by decide +kernel)
abbrev t_LW_served : Room := { frames := t_SD_served.frames + 1, cells := 1, slots := 6, locals := 8 + (5 + 11) + t_SD_served.locals }
def P_LW_served : am_P := fun av M => match av with
  | [.inr (.inl i), .inl a, .inl b, .inr (.inl o)] => i = 0 ∧ o = 78 ∧ P_SD_served [.inr (.inl i), .inl a, .inl b] M
  | _ => False
def f_LW_served : am_Fr := fun av M => match av with
  | [.inr (.inl i), .inl a, .inl b, .inr (.inl _)] => some (.inl (cd_SD_served [.inr (.inl i), .inl a, .inl b] M))
  | _ => none
def g_LW_served : am_Fm := fun av M => match av with
  | [.inr (.inl i), .inl a, .inl b, .inr (.inl _)] => if cd_SD_served [.inr (.inl i), .inl a, .inl b] M = 0 then am_up (g_SD_served [.inr (.inl i), .inl a, .inl b] M) 78 0 (am_wr (hp_v (f_SD_served [.inr (.inl i), .inl a, .inl b] M))) else M
  | _ => M
theorem cw_LW_served (s : State) (args : Array Value) {Ts : List Jvm.Cond} (hW : ∀ w ∈ vw_W, w ∈ Ts) (hts : ∀ w ∈ Ts, w.before args s = true) : CallW t_LW_served s args "ServerDeskLaw" "ServerDesk" 55 y_SD_served b_SD_served 5 (some .int) w_SD_served t_SD_served 1 6 2 := ⟨callB_of 2 hts (vw_G hW c_SD_served) rfl rfl rfl (hts _ (hW _ (vw_t 1 (by decide +kernel) (by decide +kernel)))) (hts _ (hW _ (vw_t 758 (by decide +kernel) (by decide +kernel)))) (by decide +kernel) ⟨by decide, by decide⟩, hts _ (hW _ (vw_t 759 (by decide +kernel) (by decide +kernel))), hts _ (hW _ (vw_t 760 (by decide +kernel) (by decide +kernel)))⟩
set_option maxHeartbeats 2000000 in
theorem m_LW_served (l : Launch) (hfl : l.flags = flags0) : am_MH l y_LW_served w_LW_served t_LW_served P_LW_served f_LW_served g_LW_served := by
  refine am_mkH (n := 2) (pcc := 5) (E := 10) (hl := [(13, 13, "java/lang/IllegalArgumentException", 4, 15)]) (fun pc => pc == 8 || pc == 9) rfl rfl i_LW_served_ok (m_SD_served l hfl) cw_LW_served d_LW_served_5 (by decide) (List.Pairwise.cons (by simp [hs_no]) (List.Pairwise.nil)) (List.forall_mem_cons.mpr ⟨⟨by decide, vw_t 375 (by decide +kernel) (by decide +kernel), Or.inl ⟨d_LW_served_13, rfl⟩⟩, fun _ h => absurd h List.not_mem_nil⟩) ⟨by decide, by decide⟩ (plainFor_of_name (by decide +kernel)) ?_ ?_
  · intro av M h
    unfold P_LW_served at h
    split at h
    · exact ⟨Nat.le_of_ble_eq_true rfl, rfl⟩
    · exact h.elim
  · intro av M h
    unfold P_LW_served at h
    split at h
    · rename_i i a b o
      obtain ⟨rfl, rfl, hp⟩ := h
      refine xs_aload_n (q := 1) i_LW_served_0 rfl rfl (xs_n rfl ?_)
      refine xs_iconst (q := 2) i_LW_served_1 rfl (xs_n rfl ?_)
      refine xs_aload_n (q := 3) i_LW_served_2 rfl rfl (xs_n rfl ?_)
      refine xs_iload_n (q := 4) i_LW_served_3 rfl rfl (xs_n rfl ?_)
      refine xs_iload_n (q := 5) i_LW_served_4 rfl rfl (xs_z rfl ?_)
      refine ⟨rfl, rfl, ⟨Nat.le_of_ble_eq_true rfl, Nat.le_of_ble_eq_true rfl⟩, ⟨_, sg_0⟩, hp, fun h0 => ?_, fun h0 => ?_⟩
      · replace h0 : cd_SD_served [.inr (.inl 0), .inl a, .inl b] M = 0 := h0
        refine hp_r1 (rest := [.inl 0, .inr (.inl 78)]) (v := hp_v (f_SD_served [.inr (.inl 0), .inl a, .inl b] M)) rfl ?_
        refine xs_z rfl ?_
        refine xq_i2l rfl i_LW_served_8 (xs_z rfl ?_)
        refine xq_lastore rfl i_LW_served_9 sg_78 ⟨Int.le_refl 0, by decide⟩ (xs_n rfl ?_)
        refine xs_goto (q := 17) i_LW_served_10 rfl (xs_n rfl ?_)
        refine xs_iconst (q := 18) i_LW_served_17 rfl (xs_n rfl ?_)
        refine xs_iret i_LW_served_18 ?_
        exact ⟨⟨(by show _ = (some (.inl (cd_SD_served [.inr (.inl 0), .inl a, .inl b] M)) : Option am_V); rw [h0]), (by show _ = if cd_SD_served [.inr (.inl 0), .inl a, .inl b] M = 0 then _ else M; exact (if_pos h0).symm)⟩, trivial⟩
      · replace h0 : cd_SD_served [.inr (.inl 0), .inl a, .inl b] M ≠ 0 := h0
        have hc : cd_SD_served [.inr (.inl 0), .inl a, .inl b] M = 0 ∨ cd_SD_served [.inr (.inl 0), .inl a, .inl b] M = 1 := by
          simp only [cd_SD_served, sd_vc]
          (repeat' split) <;> simp
        rcases hc with hc | hc
        · exact absurd hc h0
        · refine ⟨[], _, _, rfl, (by show tc_SD_served (cd_SD_served [.inr (.inl 0), .inl a, .inl b] M) = _; rw [hc]; rfl), rfl, ?_⟩
          refine xs_iconst (q := 16) i_LW_served_15 rfl (xs_n rfl ?_)
          refine xs_iret i_LW_served_16 ?_
          exact ⟨⟨(by show _ = (some (.inl (cd_SD_served [.inr (.inl 0), .inl a, .inl b] M)) : Option am_V); rw [hc]), (by show M = if cd_SD_served [.inr (.inl 0), .inl a, .inl b] M = 0 then _ else M; rw [if_neg h0])⟩, trivial⟩
    · exact h.elim
abbrev h_LW_replay : List (Nat × Nat × Nat × Nat) := [(0, 9, 12, 13), (0, 9, 15, 15), (0, 9, 18, 17)]
abbrev w_LW_replay : List Jvm.Cond := Jvm.Cond.codeWith y_LW_replay b_LW_replay 4 (some .int) h_LW_replay :: vw_W
theorem c_LW_replay : Jvm.Cond.codeWith y_LW_replay b_LW_replay 4 (some .int) h_LW_replay ∈ vw_W := vw_t 765 (by decide +kernel) (by decide +kernel)
abbrev t_LW_replay : Room := { frames := t_SD_replay.frames + 1, cells := 1, slots := 6, locals := 8 + (2 + 11) + t_SD_replay.locals }
def P_LW_replay : am_P := fun av M => match av with
  | [.inr (.inl i), .inl a, .inr (.inl o)] => i = 0 ∧ o = 78 ∧ P_SD_replay [.inr (.inl i), .inl a] M
  | _ => False
def f_LW_replay : am_Fr := fun av M => match av with
  | [.inr (.inl i), .inl a, .inr (.inl _)] => some (.inl (cd_SD_replay [.inr (.inl i), .inl a] M))
  | _ => none
def g_LW_replay : am_Fm := fun av M => match av with
  | [.inr (.inl i), .inl a, .inr (.inl _)] => if cd_SD_replay [.inr (.inl i), .inl a] M = 0 then am_up (g_SD_replay [.inr (.inl i), .inl a] M) 78 0 (am_wr (hp_v (f_SD_replay [.inr (.inl i), .inl a] M))) else M
  | _ => M
theorem cw_LW_replay (s : State) (args : Array Value) {Ts : List Jvm.Cond} (hW : ∀ w ∈ vw_W, w ∈ Ts) (hts : ∀ w ∈ Ts, w.before args s = true) : CallW t_LW_replay s args "ServerDeskLaw" "ServerDesk" 58 y_SD_replay b_SD_replay 2 (some .int) w_SD_replay t_SD_replay 1 6 1 := ⟨callB_of 1 hts (vw_G hW c_SD_replay) rfl rfl rfl (hts _ (hW _ (vw_t 1 (by decide +kernel) (by decide +kernel)))) (hts _ (hW _ (vw_t 766 (by decide +kernel) (by decide +kernel)))) (by decide +kernel) ⟨by decide, by decide⟩, hts _ (hW _ (vw_t 767 (by decide +kernel) (by decide +kernel))), hts _ (hW _ (vw_t 768 (by decide +kernel) (by decide +kernel)))⟩
set_option maxHeartbeats 2000000 in
theorem m_LW_replay (l : Launch) (hfl : l.flags = flags0) : am_MH l y_LW_replay w_LW_replay t_LW_replay P_LW_replay f_LW_replay g_LW_replay := by
  refine am_mkH (n := 1) (pcc := 4) (E := 9) (hl := [(12, 13, "java/lang/IllegalArgumentException", 3, 13), (15, 15, "java/lang/IllegalStateException", 3, 16), (18, 17, "java/lang/UnsupportedOperationException", 3, 19)]) (fun pc => pc == 7 || pc == 8) rfl rfl i_LW_replay_ok (m_SD_replay l hfl) cw_LW_replay d_LW_replay_4 (by decide) (List.Pairwise.cons (by simp [hs_no]) (List.Pairwise.cons (by simp [hs_no]) (List.Pairwise.cons (by simp [hs_no]) (List.Pairwise.nil)))) (List.forall_mem_cons.mpr ⟨⟨by decide, vw_t 375 (by decide +kernel) (by decide +kernel), Or.inr ⟨3, rfl, d_LW_replay_12, rfl⟩⟩, List.forall_mem_cons.mpr ⟨⟨by decide, vw_t 376 (by decide +kernel) (by decide +kernel), Or.inr ⟨3, rfl, d_LW_replay_15, rfl⟩⟩, List.forall_mem_cons.mpr ⟨⟨by decide, vw_t 377 (by decide +kernel) (by decide +kernel), Or.inr ⟨3, rfl, d_LW_replay_18, rfl⟩⟩, fun _ h => absurd h List.not_mem_nil⟩⟩⟩) ⟨by decide, by decide⟩ (plainFor_of_name (by decide +kernel)) ?_ ?_
  · intro av M h
    unfold P_LW_replay at h
    split at h
    · exact ⟨Nat.le_of_ble_eq_true rfl, rfl⟩
    · exact h.elim
  · intro av M h
    unfold P_LW_replay at h
    split at h
    · rename_i i a o
      obtain ⟨rfl, rfl, hp⟩ := h
      refine xs_aload_n (q := 1) i_LW_replay_0 rfl rfl (xs_n rfl ?_)
      refine xs_iconst (q := 2) i_LW_replay_1 rfl (xs_n rfl ?_)
      refine xs_aload_n (q := 3) i_LW_replay_2 rfl rfl (xs_n rfl ?_)
      refine xs_iload_n (q := 4) i_LW_replay_3 rfl rfl (xs_z rfl ?_)
      refine ⟨rfl, rfl, ⟨Nat.le_of_ble_eq_true rfl, Nat.le_of_ble_eq_true rfl⟩, ⟨_, sg_0⟩, hp, fun h0 => ?_, fun h0 => ?_⟩
      · replace h0 : cd_SD_replay [.inr (.inl 0), .inl a] M = 0 := h0
        refine hp_r1 (rest := [.inl 0, .inr (.inl 78)]) (v := hp_v (f_SD_replay [.inr (.inl 0), .inl a] M)) rfl ?_
        refine xs_z rfl ?_
        refine xq_i2l rfl i_LW_replay_7 (xs_z rfl ?_)
        refine xq_lastore rfl i_LW_replay_8 sg_78 ⟨Int.le_refl 0, by decide⟩ (xs_n rfl ?_)
        refine xs_goto (q := 21) i_LW_replay_9 rfl (xs_n rfl ?_)
        refine xs_iconst (q := 22) i_LW_replay_21 rfl (xs_n rfl ?_)
        refine xs_iret i_LW_replay_22 ?_
        exact ⟨⟨(by show _ = (some (.inl (cd_SD_replay [.inr (.inl 0), .inl a] M)) : Option am_V); rw [h0]), (by show _ = if cd_SD_replay [.inr (.inl 0), .inl a] M = 0 then _ else M; exact (if_pos h0).symm)⟩, trivial⟩
      · replace h0 : cd_SD_replay [.inr (.inl 0), .inl a] M ≠ 0 := h0
        have hc : cd_SD_replay [.inr (.inl 0), .inl a] M = 0 ∨ cd_SD_replay [.inr (.inl 0), .inl a] M = 1 ∨ cd_SD_replay [.inr (.inl 0), .inl a] M = 2 ∨ cd_SD_replay [.inr (.inl 0), .inl a] M = 3 := by
          simp only [cd_SD_replay, sd_yc]
          (repeat' split) <;> simp
        rcases hc with hc | hc | hc | hc
        · exact absurd hc h0
        · refine ⟨[], _, _, rfl, (by show tc_SD_replay (cd_SD_replay [.inr (.inl 0), .inl a] M) = _; rw [hc]; rfl), rfl, ?_⟩
          refine xs_iconst (q := 14) i_LW_replay_13 rfl (xs_n rfl ?_)
          refine xs_iret i_LW_replay_14 ?_
          exact ⟨⟨(by show _ = (some (.inl (cd_SD_replay [.inr (.inl 0), .inl a] M)) : Option am_V); rw [hc]), (by show M = if cd_SD_replay [.inr (.inl 0), .inl a] M = 0 then _ else M; rw [if_neg h0])⟩, trivial⟩
        · refine ⟨[_], _, _, rfl, (by show tc_SD_replay (cd_SD_replay [.inr (.inl 0), .inl a] M) = _; rw [hc]; rfl), rfl, ?_⟩
          refine xs_iconst (q := 17) i_LW_replay_16 rfl (xs_n rfl ?_)
          refine xs_iret i_LW_replay_17 ?_
          exact ⟨⟨(by show _ = (some (.inl (cd_SD_replay [.inr (.inl 0), .inl a] M)) : Option am_V); rw [hc]), (by show M = if cd_SD_replay [.inr (.inl 0), .inl a] M = 0 then _ else M; rw [if_neg h0])⟩, trivial⟩
        · refine ⟨[_, _], _, _, rfl, (by show tc_SD_replay (cd_SD_replay [.inr (.inl 0), .inl a] M) = _; rw [hc]; rfl), rfl, ?_⟩
          refine xs_iconst (q := 20) i_LW_replay_19 rfl (xs_n rfl ?_)
          refine xs_iret i_LW_replay_20 ?_
          exact ⟨⟨(by show _ = (some (.inl (cd_SD_replay [.inr (.inl 0), .inl a] M)) : Option am_V); rw [hc]), (by show M = if cd_SD_replay [.inr (.inl 0), .inl a] M = 0 then _ else M; rw [if_neg h0])⟩, trivial⟩
    · exact h.elim
abbrev h_LW_state : List (Nat × Nat × Nat × Nat) := [(0, 9, 12, 13)]
abbrev w_LW_state : List Jvm.Cond := Jvm.Cond.codeWith y_LW_state b_LW_state 4 (some .int) h_LW_state :: vw_W
theorem c_LW_state : Jvm.Cond.codeWith y_LW_state b_LW_state 4 (some .int) h_LW_state ∈ vw_W := vw_t 791 (by decide +kernel) (by decide +kernel)
abbrev t_LW_state : Room := { frames := t_SD_state.frames + 1, cells := 1, slots := 6, locals := 8 + (2 + 11) + t_SD_state.locals }
def P_LW_state : am_P := fun av M => match av with
  | [.inr (.inl i), .inl a, .inr (.inl o)] => i = 0 ∧ o = 78 ∧ P_SD_state [.inr (.inl i), .inl a] M
  | _ => False
def f_LW_state : am_Fr := fun av M => match av with
  | [.inr (.inl i), .inl a, .inr (.inl _)] => some (.inl (cd_SD_state [.inr (.inl i), .inl a] M))
  | _ => none
def g_LW_state : am_Fm := fun av M => match av with
  | [.inr (.inl i), .inl a, .inr (.inl _)] => if cd_SD_state [.inr (.inl i), .inl a] M = 0 then am_up (g_SD_state [.inr (.inl i), .inl a] M) 78 0 (am_wr (hp_v (f_SD_state [.inr (.inl i), .inl a] M))) else M
  | _ => M
theorem cw_LW_state (s : State) (args : Array Value) {Ts : List Jvm.Cond} (hW : ∀ w ∈ vw_W, w ∈ Ts) (hts : ∀ w ∈ Ts, w.before args s = true) : CallW t_LW_state s args "ServerDeskLaw" "ServerDesk" 61 y_SD_state b_SD_state 2 (some .int) w_SD_state t_SD_state 1 6 1 := ⟨callB_of 1 hts (vw_G hW c_SD_state) rfl rfl rfl (hts _ (hW _ (vw_t 1 (by decide +kernel) (by decide +kernel)))) (hts _ (hW _ (vw_t 792 (by decide +kernel) (by decide +kernel)))) (by decide +kernel) ⟨by decide, by decide⟩, hts _ (hW _ (vw_t 793 (by decide +kernel) (by decide +kernel))), hts _ (hW _ (vw_t 794 (by decide +kernel) (by decide +kernel)))⟩
set_option maxHeartbeats 2000000 in
theorem m_LW_state (l : Launch) (hfl : l.flags = flags0) : am_MH l y_LW_state w_LW_state t_LW_state P_LW_state f_LW_state g_LW_state := by
  refine am_mkH (n := 1) (pcc := 4) (E := 9) (hl := [(12, 13, "java/lang/IllegalArgumentException", 3, 13)]) (fun pc => pc == 7 || pc == 8) rfl rfl i_LW_state_ok (m_SD_state l hfl) cw_LW_state d_LW_state_4 (by decide) (List.Pairwise.cons (by simp [hs_no]) (List.Pairwise.nil)) (List.forall_mem_cons.mpr ⟨⟨by decide, vw_t 375 (by decide +kernel) (by decide +kernel), Or.inr ⟨3, rfl, d_LW_state_12, rfl⟩⟩, fun _ h => absurd h List.not_mem_nil⟩) ⟨by decide, by decide⟩ (plainFor_of_name (by decide +kernel)) ?_ ?_
  · intro av M h
    unfold P_LW_state at h
    split at h
    · exact ⟨Nat.le_of_ble_eq_true rfl, rfl⟩
    · exact h.elim
  · intro av M h
    unfold P_LW_state at h
    split at h
    · rename_i i a o
      obtain ⟨rfl, rfl, hp⟩ := h
      refine xs_aload_n (q := 1) i_LW_state_0 rfl rfl (xs_n rfl ?_)
      refine xs_iconst (q := 2) i_LW_state_1 rfl (xs_n rfl ?_)
      refine xs_aload_n (q := 3) i_LW_state_2 rfl rfl (xs_n rfl ?_)
      refine xs_iload_n (q := 4) i_LW_state_3 rfl rfl (xs_z rfl ?_)
      refine ⟨rfl, rfl, ⟨Nat.le_of_ble_eq_true rfl, Nat.le_of_ble_eq_true rfl⟩, ⟨_, sg_0⟩, hp, fun h0 => ?_, fun h0 => ?_⟩
      · replace h0 : cd_SD_state [.inr (.inl 0), .inl a] M = 0 := h0
        refine hp_r1 (rest := [.inl 0, .inr (.inl 78)]) (v := hp_v (f_SD_state [.inr (.inl 0), .inl a] M)) rfl ?_
        refine xs_z rfl ?_
        refine xq_i2l rfl i_LW_state_7 (xs_z rfl ?_)
        refine xq_lastore rfl i_LW_state_8 sg_78 ⟨Int.le_refl 0, by decide⟩ (xs_n rfl ?_)
        refine xs_goto (q := 15) i_LW_state_9 rfl (xs_n rfl ?_)
        refine xs_iconst (q := 16) i_LW_state_15 rfl (xs_n rfl ?_)
        refine xs_iret i_LW_state_16 ?_
        exact ⟨⟨(by show _ = (some (.inl (cd_SD_state [.inr (.inl 0), .inl a] M)) : Option am_V); rw [h0]), (by show _ = if cd_SD_state [.inr (.inl 0), .inl a] M = 0 then _ else M; exact (if_pos h0).symm)⟩, trivial⟩
      · replace h0 : cd_SD_state [.inr (.inl 0), .inl a] M ≠ 0 := h0
        have hc : cd_SD_state [.inr (.inl 0), .inl a] M = 0 ∨ cd_SD_state [.inr (.inl 0), .inl a] M = 1 := by
          simp only [cd_SD_state, sd_wc]
          (repeat' split) <;> simp
        rcases hc with hc | hc
        · exact absurd hc h0
        · refine ⟨[], _, _, rfl, (by show tc_SD_state (cd_SD_state [.inr (.inl 0), .inl a] M) = _; rw [hc]; rfl), rfl, ?_⟩
          refine xs_iconst (q := 14) i_LW_state_13 rfl (xs_n rfl ?_)
          refine xs_iret i_LW_state_14 ?_
          exact ⟨⟨(by show _ = (some (.inl (cd_SD_state [.inr (.inl 0), .inl a] M)) : Option am_V); rw [hc]), (by show M = if cd_SD_state [.inr (.inl 0), .inl a] M = 0 then _ else M; rw [if_neg h0])⟩, trivial⟩
    · exact h.elim
