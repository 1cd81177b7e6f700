/-! contracts: the reference, task, rule, start (wip/whole/p49.py) -/
def mo_lc (M : am_M) (p : Int) : Int := mo_hy M (M 50 1).toNat / ((Nat.gcd (mo_hy M (M 50 1).toNat).toNat p.toNat : Nat) : Int) * p
def mo_tc (M : am_M) (p f c d : Int) : Int := if ((1 ≤ p ∧ p ≤ 60) ∧ (1 ≤ c ∧ c ≤ 60) ∧ 0 ≤ f ∧ f < p ∧ c ≤ d ∧ d ≤ p) then (if M 50 1 = 5 ∨ M 50 10 ≠ 0 then 2 else if mo_lc M p ≤ 2000 then 0 else 3) else 1
def mo_ts (p f c d : Int) (M : am_M) : am_M := am_up (am_up (am_up (am_up (am_up M 50 0 0) 51 (M 50 1).toNat p) 52 (M 50 1).toNat f) 53 (M 50 1).toNat c) 54 (M 50 1).toNat d
def mo_tg (p f c d : Int) (M : am_M) : am_M := am_up (am_ins 54 55 (M 50 1) d (M 50 1).toNat (mo_ts p f c d M)) 50 1 (M 50 1 + 1)
theorem mo_lc_b {M : am_M} {p : Int} (h : 1 ≤ mo_hy M (M 50 1).toNat ∧ mo_hy M (M 50 1).toNat ≤ 2000) (hp : 1 ≤ p ∧ p ≤ 60) : (0 < Nat.gcd (mo_hy M (M 50 1).toNat).toNat p.toNat ∧ Nat.gcd (mo_hy M (M 50 1).toNat).toNat p.toNat ≤ 60) ∧ 0 ≤ mo_lc M p ∧ mo_lc M p ≤ 2000 * 60 := by
  have hg : 0 < Nat.gcd (mo_hy M (M 50 1).toNat).toNat p.toNat := Nat.gcd_pos_of_pos_right _ (by omega)
  have hl : Nat.gcd (mo_hy M (M 50 1).toNat).toNat p.toNat ≤ p.toNat := Nat.gcd_le_right _ (by omega)
  refine ⟨⟨hg, by omega⟩, ?_⟩
  have q1 : 0 ≤ mo_hy M (M 50 1).toNat / ((Nat.gcd (mo_hy M (M 50 1).toNat).toNat p.toNat : Nat) : Int) := Int.ediv_nonneg (by omega) (by omega)
  have q2 : mo_hy M (M 50 1).toNat / ((Nat.gcd (mo_hy M (M 50 1).toNat).toNat p.toNat : Nat) : Int) ≤ mo_hy M (M 50 1).toNat := Int.ediv_le_self _ (by omega)
  exact ma_mul q1 (by omega) (by omega) (by omega)
def P_MO_task : am_P := fun av M => match av with
  | [.inr (.inl i), .inl p, .inl f, .inl c, .inl d] => i = 50 ∧ (am_R p ∧ am_R f ∧ am_R c ∧ am_R d) ∧ P_MO_hyperperiod [.inr (.inl 50)] M ∧ (1 ≤ mo_hy M (M 50 1).toNat ∧ mo_hy M (M 50 1).toNat ≤ 2000) ∧ am_R (M 50 10)
  | _ => False
def f_MO_task : am_Fr := fun av M => match av with
  | [.inr (.inl i), .inl p, .inl f, .inl c, .inl d] => some (.inl (if mo_tc M p f c d = 0 then M 50 1 else 0))
  | _ => none
def g_MO_task : am_Fm := fun av M => match av with
  | [.inr (.inl i), .inl p, .inl f, .inl c, .inl d] => if mo_tc M p f c d = 0 then mo_tg p f c d M else am_up M 50 0 (mo_tc M p f c d)
  | _ => M
def ct_MO_task : am_T := fun pc => if pc = 4 then some (3, am_ctS P_MO_in (am_po f_MO_in g_MO_in)) else if pc = 14 then some (3, am_ctS P_MO_in (am_po f_MO_in g_MO_in)) else if pc = 49 then some (1, am_ctV vw_S 11 P_MO_hyperperiod (am_po f_MO_hyperperiod g_MO_hyperperiod)) else if pc = 88 then some (2, am_ctS P_MO_divisor (am_po f_MO_divisor g_MO_divisor)) else none
theorem e_MO_task_4 : ct_MO_task 4 = some (3, am_ctS P_MO_in (am_po f_MO_in g_MO_in)) := rfl
theorem e_MO_task_14 : ct_MO_task 14 = some (3, am_ctS P_MO_in (am_po f_MO_in g_MO_in)) := rfl
theorem e_MO_task_49 : ct_MO_task 49 = some (1, am_ctV vw_S 11 P_MO_hyperperiod (am_po f_MO_hyperperiod g_MO_hyperperiod)) := rfl
theorem e_MO_task_88 : ct_MO_task 88 = some (2, am_ctS P_MO_divisor (am_po f_MO_divisor g_MO_divisor)) := rfl
theorem ct_MO_task_ok (l : Launch) : am_CC b_MO_task 8 w_MO_task y_MO_task.cls l r_MO_task ct_MO_task := by
  intro p e s m args below meth c H0 A D G ad Q S hK hN hA pc q ct h
  have hts := S.2.2.2.2
  unfold ct_MO_task at h
  split at h
  · rename_i hpc
    subst hpc; cases h
    exact am_callS S vw_N_ok hK hN hA ⟨Nat.zero_le _, Nat.zero_le _⟩ (m_MO_in l) (s_MO_103 hts am_vW hN ⟨by decide, by decide⟩) d_MO_task_4
  split at h
  · rename_i hpc
    subst hpc; cases h
    exact am_callS S vw_N_ok hK hN hA ⟨Nat.zero_le _, Nat.zero_le _⟩ (m_MO_in l) (s_MO_103 hts am_vW hN ⟨by decide, by decide⟩) d_MO_task_14
  split at h
  · rename_i hpc
    subst hpc; cases h
    exact am_callV S vw_N_ok hK hN hA ⟨Nat.zero_le _, Nat.zero_le _⟩ (m_MO_hyperperiod l) (s_MO_107 hts am_vW hN ⟨by decide, by decide⟩) (by rfl) d_MO_task_49
  split at h
  · rename_i hpc
    subst hpc; cases h
    exact am_callS S vw_N_ok hK hN hA ⟨Nat.zero_le _, Nat.zero_le _⟩ (m_MO_divisor l) (s_MO_99 hts am_vW hN ⟨by decide, by decide⟩) d_MO_task_88
  cases h
def inv_MO_task : List am_V → am_M → Nat → am_K := fun av M μ pc ls st M2 => match av with
  | [.inr (.inl i), .inl p, .inl f, .inl c, .inl d] => (pc = 0 ∧ ls = am_l0 [.inr (.inl i), .inl p, .inl f, .inl c, .inl d] 8 ∧ st = [] ∧ M = M2 ∧ μ = 100) ∨ ∃ r : Nat, pc = 164 ∧ ls = [some (.inr (.inl i)), some (.inl p), some (.inl f), some (.inl c), some (.inl d), some (.inl 1), some (.inl (mo_hy M (M 50 1).toNat)), some (.inl (r : Int))] ∧ st = [] ∧ (mo_tc M p f c d = 0 ∧ M 50 1 < 5 ∧ am_ins 54 55 (M 50 1) d r M2 = am_ins 54 55 (M 50 1) d (M 50 1).toNat (mo_ts p f c d M) ∧ (∀ j, j < r → M2 55 j = M 55 j) ∧ (∀ j, M2 54 j = mo_ts p f c d M 54 j) ∧ M2 50 1 = M 50 1 ∧ (r : Int) ≤ M 50 1) ∧ r = μ
  | _ => False
theorem m_MO_task (l : Launch) : am_MF l y_MO_task w_MO_task r_MO_task P_MO_task f_MO_task g_MO_task := by
  refine am_mkL (fun pc => pc == 164) i_MO_task_ok fd_MO_ok (ct_MO_task_ok l) (plainFor_of_name (by decide +kernel)) (by decide) ?_ 120 inv_MO_task ?_ ?_
  · intro av M h
    unfold P_MO_task at h
    split at h
    · exact ⟨Nat.le_of_ble_eq_true rfl, rfl⟩
    · exact h.elim
  · intro av M h
    unfold P_MO_task at h
    split at h
    · exact ⟨_, Or.inl ⟨rfl, rfl, rfl, rfl, rfl⟩⟩
    · exact h.elim
  · intro av M h μ pc ls st M2 hi
    unfold P_MO_task at h
    split at h
    · rename_i i p f c d
      obtain ⟨rfl, ⟨h1p, h1f, h1c, h1d⟩, hP, h6, h10⟩ := h
      have h4 : mo_ok M := hP.2.1
      have h20 := h4.1.1
      have h21m := h4.1.2
      rcases hi with ⟨rfl, rfl, rfl, rfl, rfl⟩ | ⟨r, rfl, rfl, rfl, ⟨hk, h5t, hg, ho, hd, hc, hr⟩, rfl⟩
      · skip
        refine xs_iload_n (q := 1) i_MO_task_0 rfl rfl (xs_n rfl ?_)
        refine xs_iconst (q := 2) i_MO_task_1 rfl (xs_n rfl ?_)
        refine xs_bipush (q := 4) i_MO_task_2 rfl (by decide) (xs_n rfl ?_)
        refine xs_cs (q := 7) (av := [_, _, _]) (rest := []) i_MO_task_4 rfl (e_MO_task_4) ⟨rfl, rfl⟩ rfl rfl ?_
        rw [am_S_iff]
        refine ⟨⟨h1p, by unfold am_R; omega, by unfold am_R; omega⟩, ?_⟩
        dsimp only [g_MO_in, g_id]
        refine xs_r1 rfl (xs_n rfl ?_)
        refine xs_if_eq (q := 45) (r := 10) i_MO_task_7 rfl rfl am_ite (fun h7 => (xs_n rfl ?_)) (fun h7 => (xs_n rfl ?_))
        · refine xs_iconst (q := 46) i_MO_task_45 rfl (xs_n rfl ?_)
          refine xs_istore (q := 48) (ls2 := [_, _, _, _, _, _, _, _]) i_MO_task_46 rfl rfl rfl (xs_n rfl ?_)
          refine xs_aload_n (q := 49) i_MO_task_48 rfl rfl (xs_n rfl ?_)
          refine xs_cv (q := 52) (av := [_]) (rest := []) i_MO_task_49 rfl (e_MO_task_49) ⟨rfl, rfl⟩ rfl rfl ?_
          rw [am_V_iff]
          refine ⟨⟨_, sg_50⟩, hP, ?_⟩
          dsimp only [g_MO_hyperperiod, g_id]
          refine xs_r1 rfl (xs_n rfl ?_)
          refine xs_istore (q := 54) (ls2 := [_, _, _, _, _, _, _, _]) i_MO_task_52 rfl rfl rfl (xs_n rfl ?_)
          refine xs_aload_n (q := 55) i_MO_task_54 rfl rfl (xs_n rfl ?_)
          refine xs_iload (q := 57) i_MO_task_55 rfl rfl (xs_n rfl ?_)
          refine xs_if_ne (q := 64) (r := 60) i_MO_task_57 rfl rfl (by unfold am_R; omega) (fun h57 => (xs_n rfl ?_)) (fun h57 => (xs_n rfl ?_))
          · exact absurd rfl h57
          · refine xs_iconst (q := 61) i_MO_task_60 rfl (xs_n rfl ?_)
            refine xs_goto (q := 105) i_MO_task_61 rfl (xs_n rfl ?_)
            refine xs_puti (q := 108) i_MO_task_105 rfl fd_MO_92 sg_50 rfl (xs_n rfl ?_)
            refine xs_aload_n (q := 109) i_MO_task_108 rfl rfl (xs_n rfl ?_)
            refine xs_geti (q := 112) i_MO_task_109 rfl fd_MO_92 sg_50 rfl (xs_n rfl ?_)
            refine xs_if_le (q := 117) (r := 115) i_MO_task_112 rfl rfl (by rw [am_up_s]; unfold am_R; omega) (fun h112 => (xs_n rfl ?_)) (fun h112 => (xs_n rfl ?_))
            · exact absurd h112 (by rw [am_up_s]; decide)
            · refine xs_iconst (q := 116) i_MO_task_115 rfl (xs_n rfl ?_)
              refine xs_iret i_MO_task_116 ?_
              have ec : mo_tc M p f c d = 1 := by unfold mo_tc; rw [if_neg (show ¬ ((1 ≤ p ∧ p ≤ 60) ∧ (1 ≤ c ∧ c ≤ 60) ∧ 0 ≤ f ∧ f < p ∧ c ≤ d ∧ d ≤ p) from fun q => (show ¬ (1 ≤ p ∧ p ≤ 60) from am_ite0 h7) q.1)]
              exact xs_fin (by simp only [f_MO_task]; rw [if_neg (by rw [ec]; decide)]) (by simp only [g_MO_task]; rw [if_neg (by rw [ec]; decide), ec]) trivial
        · refine xs_iload_n (q := 11) i_MO_task_10 rfl rfl (xs_n rfl ?_)
          refine xs_iconst (q := 12) i_MO_task_11 rfl (xs_n rfl ?_)
          refine xs_bipush (q := 14) i_MO_task_12 rfl (by decide) (xs_n rfl ?_)
          refine xs_cs (q := 17) (av := [_, _, _]) (rest := []) i_MO_task_14 rfl (e_MO_task_14) ⟨rfl, rfl⟩ rfl rfl ?_
          rw [am_S_iff]
          refine ⟨⟨h1c, by unfold am_R; omega, by unfold am_R; omega⟩, ?_⟩
          dsimp only [g_MO_in, g_id]
          refine xs_r1 rfl (xs_n rfl ?_)
          refine xs_if_eq (q := 45) (r := 20) i_MO_task_17 rfl rfl am_ite (fun h17 => (xs_n rfl ?_)) (fun h17 => (xs_n rfl ?_))
          · refine xs_iconst (q := 46) i_MO_task_45 rfl (xs_n rfl ?_)
            refine xs_istore (q := 48) (ls2 := [_, _, _, _, _, _, _, _]) i_MO_task_46 rfl rfl rfl (xs_n rfl ?_)
            refine xs_aload_n (q := 49) i_MO_task_48 rfl rfl (xs_n rfl ?_)
            refine xs_cv (q := 52) (av := [_]) (rest := []) i_MO_task_49 rfl (e_MO_task_49) ⟨rfl, rfl⟩ rfl rfl ?_
            rw [am_V_iff]
            refine ⟨⟨_, sg_50⟩, hP, ?_⟩
            dsimp only [g_MO_hyperperiod, g_id]
            refine xs_r1 rfl (xs_n rfl ?_)
            refine xs_istore (q := 54) (ls2 := [_, _, _, _, _, _, _, _]) i_MO_task_52 rfl rfl rfl (xs_n rfl ?_)
            refine xs_aload_n (q := 55) i_MO_task_54 rfl rfl (xs_n rfl ?_)
            refine xs_iload (q := 57) i_MO_task_55 rfl rfl (xs_n rfl ?_)
            refine xs_if_ne (q := 64) (r := 60) i_MO_task_57 rfl rfl (by unfold am_R; omega) (fun h57 => (xs_n rfl ?_)) (fun h57 => (xs_n rfl ?_))
            · exact absurd rfl h57
            · refine xs_iconst (q := 61) i_MO_task_60 rfl (xs_n rfl ?_)
              refine xs_goto (q := 105) i_MO_task_61 rfl (xs_n rfl ?_)
              refine xs_puti (q := 108) i_MO_task_105 rfl fd_MO_92 sg_50 rfl (xs_n rfl ?_)
              refine xs_aload_n (q := 109) i_MO_task_108 rfl rfl (xs_n rfl ?_)
              refine xs_geti (q := 112) i_MO_task_109 rfl fd_MO_92 sg_50 rfl (xs_n rfl ?_)
              refine xs_if_le (q := 117) (r := 115) i_MO_task_112 rfl rfl (by rw [am_up_s]; unfold am_R; omega) (fun h112 => (xs_n rfl ?_)) (fun h112 => (xs_n rfl ?_))
              · exact absurd h112 (by rw [am_up_s]; decide)
              · refine xs_iconst (q := 116) i_MO_task_115 rfl (xs_n rfl ?_)
                refine xs_iret i_MO_task_116 ?_
                have ec : mo_tc M p f c d = 1 := by unfold mo_tc; rw [if_neg (show ¬ ((1 ≤ p ∧ p ≤ 60) ∧ (1 ≤ c ∧ c ≤ 60) ∧ 0 ≤ f ∧ f < p ∧ c ≤ d ∧ d ≤ p) from fun q => (show ¬ (1 ≤ c ∧ c ≤ 60) from am_ite0 h17) q.2.1)]
                exact xs_fin (by simp only [f_MO_task]; rw [if_neg (by rw [ec]; decide)]) (by simp only [g_MO_task]; rw [if_neg (by rw [ec]; decide), ec]) trivial
          · refine xs_iload_n (q := 21) i_MO_task_20 rfl rfl (xs_n rfl ?_)
            refine xs_if_lt (q := 45) (r := 24) i_MO_task_21 rfl rfl h1f (fun h21 => (xs_n rfl ?_)) (fun h21 => (xs_n rfl ?_))
            · refine xs_iconst (q := 46) i_MO_task_45 rfl (xs_n rfl ?_)
              refine xs_istore (q := 48) (ls2 := [_, _, _, _, _, _, _, _]) i_MO_task_46 rfl rfl rfl (xs_n rfl ?_)
              refine xs_aload_n (q := 49) i_MO_task_48 rfl rfl (xs_n rfl ?_)
              refine xs_cv (q := 52) (av := [_]) (rest := []) i_MO_task_49 rfl (e_MO_task_49) ⟨rfl, rfl⟩ rfl rfl ?_
              rw [am_V_iff]
              refine ⟨⟨_, sg_50⟩, hP, ?_⟩
              dsimp only [g_MO_hyperperiod, g_id]
              refine xs_r1 rfl (xs_n rfl ?_)
              refine xs_istore (q := 54) (ls2 := [_, _, _, _, _, _, _, _]) i_MO_task_52 rfl rfl rfl (xs_n rfl ?_)
              refine xs_aload_n (q := 55) i_MO_task_54 rfl rfl (xs_n rfl ?_)
              refine xs_iload (q := 57) i_MO_task_55 rfl rfl (xs_n rfl ?_)
              refine xs_if_ne (q := 64) (r := 60) i_MO_task_57 rfl rfl (by unfold am_R; omega) (fun h57 => (xs_n rfl ?_)) (fun h57 => (xs_n rfl ?_))
              · exact absurd rfl h57
              · refine xs_iconst (q := 61) i_MO_task_60 rfl (xs_n rfl ?_)
                refine xs_goto (q := 105) i_MO_task_61 rfl (xs_n rfl ?_)
                refine xs_puti (q := 108) i_MO_task_105 rfl fd_MO_92 sg_50 rfl (xs_n rfl ?_)
                refine xs_aload_n (q := 109) i_MO_task_108 rfl rfl (xs_n rfl ?_)
                refine xs_geti (q := 112) i_MO_task_109 rfl fd_MO_92 sg_50 rfl (xs_n rfl ?_)
                refine xs_if_le (q := 117) (r := 115) i_MO_task_112 rfl rfl (by rw [am_up_s]; unfold am_R; omega) (fun h112 => (xs_n rfl ?_)) (fun h112 => (xs_n rfl ?_))
                · exact absurd h112 (by rw [am_up_s]; decide)
                · refine xs_iconst (q := 116) i_MO_task_115 rfl (xs_n rfl ?_)
                  refine xs_iret i_MO_task_116 ?_
                  have ec : mo_tc M p f c d = 1 := by unfold mo_tc; rw [if_neg (show ¬ ((1 ≤ p ∧ p ≤ 60) ∧ (1 ≤ c ∧ c ≤ 60) ∧ 0 ≤ f ∧ f < p ∧ c ≤ d ∧ d ≤ p) from fun q => by omega)]
                  exact xs_fin (by simp only [f_MO_task]; rw [if_neg (by rw [ec]; decide)]) (by simp only [g_MO_task]; rw [if_neg (by rw [ec]; decide), ec]) trivial
            · refine xs_iload_n (q := 25) i_MO_task_24 rfl rfl (xs_n rfl ?_)
              refine xs_iload_n (q := 26) i_MO_task_25 rfl rfl (xs_n rfl ?_)
              refine xs_ic_ge (q := 45) (r := 29) i_MO_task_26 rfl rfl ⟨h1f, h1p⟩ (fun h26 => (xs_n rfl ?_)) (fun h26 => (xs_n rfl ?_))
              · refine xs_iconst (q := 46) i_MO_task_45 rfl (xs_n rfl ?_)
                refine xs_istore (q := 48) (ls2 := [_, _, _, _, _, _, _, _]) i_MO_task_46 rfl rfl rfl (xs_n rfl ?_)
                refine xs_aload_n (q := 49) i_MO_task_48 rfl rfl (xs_n rfl ?_)
                refine xs_cv (q := 52) (av := [_]) (rest := []) i_MO_task_49 rfl (e_MO_task_49) ⟨rfl, rfl⟩ rfl rfl ?_
                rw [am_V_iff]
                refine ⟨⟨_, sg_50⟩, hP, ?_⟩
                dsimp only [g_MO_hyperperiod, g_id]
                refine xs_r1 rfl (xs_n rfl ?_)
                refine xs_istore (q := 54) (ls2 := [_, _, _, _, _, _, _, _]) i_MO_task_52 rfl rfl rfl (xs_n rfl ?_)
                refine xs_aload_n (q := 55) i_MO_task_54 rfl rfl (xs_n rfl ?_)
                refine xs_iload (q := 57) i_MO_task_55 rfl rfl (xs_n rfl ?_)
                refine xs_if_ne (q := 64) (r := 60) i_MO_task_57 rfl rfl (by unfold am_R; omega) (fun h57 => (xs_n rfl ?_)) (fun h57 => (xs_n rfl ?_))
                · exact absurd rfl h57
                · refine xs_iconst (q := 61) i_MO_task_60 rfl (xs_n rfl ?_)
                  refine xs_goto (q := 105) i_MO_task_61 rfl (xs_n rfl ?_)
                  refine xs_puti (q := 108) i_MO_task_105 rfl fd_MO_92 sg_50 rfl (xs_n rfl ?_)
                  refine xs_aload_n (q := 109) i_MO_task_108 rfl rfl (xs_n rfl ?_)
                  refine xs_geti (q := 112) i_MO_task_109 rfl fd_MO_92 sg_50 rfl (xs_n rfl ?_)
                  refine xs_if_le (q := 117) (r := 115) i_MO_task_112 rfl rfl (by rw [am_up_s]; unfold am_R; omega) (fun h112 => (xs_n rfl ?_)) (fun h112 => (xs_n rfl ?_))
                  · exact absurd h112 (by rw [am_up_s]; decide)
                  · refine xs_iconst (q := 116) i_MO_task_115 rfl (xs_n rfl ?_)
                    refine xs_iret i_MO_task_116 ?_
                    have ec : mo_tc M p f c d = 1 := by unfold mo_tc; rw [if_neg (show ¬ ((1 ≤ p ∧ p ≤ 60) ∧ (1 ≤ c ∧ c ≤ 60) ∧ 0 ≤ f ∧ f < p ∧ c ≤ d ∧ d ≤ p) from fun q => by omega)]
                    exact xs_fin (by simp only [f_MO_task]; rw [if_neg (by rw [ec]; decide)]) (by simp only [g_MO_task]; rw [if_neg (by rw [ec]; decide), ec]) trivial
              · refine xs_iload (q := 31) i_MO_task_29 rfl rfl (xs_n rfl ?_)
                refine xs_iload_n (q := 32) i_MO_task_31 rfl rfl (xs_n rfl ?_)
                refine xs_ic_lt (q := 45) (r := 35) i_MO_task_32 rfl rfl ⟨h1d, h1c⟩ (fun h32 => (xs_n rfl ?_)) (fun h32 => (xs_n rfl ?_))
                · refine xs_iconst (q := 46) i_MO_task_45 rfl (xs_n rfl ?_)
                  refine xs_istore (q := 48) (ls2 := [_, _, _, _, _, _, _, _]) i_MO_task_46 rfl rfl rfl (xs_n rfl ?_)
                  refine xs_aload_n (q := 49) i_MO_task_48 rfl rfl (xs_n rfl ?_)
                  refine xs_cv (q := 52) (av := [_]) (rest := []) i_MO_task_49 rfl (e_MO_task_49) ⟨rfl, rfl⟩ rfl rfl ?_
                  rw [am_V_iff]
                  refine ⟨⟨_, sg_50⟩, hP, ?_⟩
                  dsimp only [g_MO_hyperperiod, g_id]
                  refine xs_r1 rfl (xs_n rfl ?_)
                  refine xs_istore (q := 54) (ls2 := [_, _, _, _, _, _, _, _]) i_MO_task_52 rfl rfl rfl (xs_n rfl ?_)
                  refine xs_aload_n (q := 55) i_MO_task_54 rfl rfl (xs_n rfl ?_)
                  refine xs_iload (q := 57) i_MO_task_55 rfl rfl (xs_n rfl ?_)
                  refine xs_if_ne (q := 64) (r := 60) i_MO_task_57 rfl rfl (by unfold am_R; omega) (fun h57 => (xs_n rfl ?_)) (fun h57 => (xs_n rfl ?_))
                  · exact absurd rfl h57
                  · refine xs_iconst (q := 61) i_MO_task_60 rfl (xs_n rfl ?_)
                    refine xs_goto (q := 105) i_MO_task_61 rfl (xs_n rfl ?_)
                    refine xs_puti (q := 108) i_MO_task_105 rfl fd_MO_92 sg_50 rfl (xs_n rfl ?_)
                    refine xs_aload_n (q := 109) i_MO_task_108 rfl rfl (xs_n rfl ?_)
                    refine xs_geti (q := 112) i_MO_task_109 rfl fd_MO_92 sg_50 rfl (xs_n rfl ?_)
                    refine xs_if_le (q := 117) (r := 115) i_MO_task_112 rfl rfl (by rw [am_up_s]; unfold am_R; omega) (fun h112 => (xs_n rfl ?_)) (fun h112 => (xs_n rfl ?_))
                    · exact absurd h112 (by rw [am_up_s]; decide)
                    · refine xs_iconst (q := 116) i_MO_task_115 rfl (xs_n rfl ?_)
                      refine xs_iret i_MO_task_116 ?_
                      have ec : mo_tc M p f c d = 1 := by unfold mo_tc; rw [if_neg (show ¬ ((1 ≤ p ∧ p ≤ 60) ∧ (1 ≤ c ∧ c ≤ 60) ∧ 0 ≤ f ∧ f < p ∧ c ≤ d ∧ d ≤ p) from fun q => by omega)]
                      exact xs_fin (by simp only [f_MO_task]; rw [if_neg (by rw [ec]; decide)]) (by simp only [g_MO_task]; rw [if_neg (by rw [ec]; decide), ec]) trivial
                · refine xs_iload (q := 37) i_MO_task_35 rfl rfl (xs_n rfl ?_)
                  refine xs_iload_n (q := 38) i_MO_task_37 rfl rfl (xs_n rfl ?_)
                  refine xs_ic_gt (q := 45) (r := 41) i_MO_task_38 rfl rfl ⟨h1d, h1p⟩ (fun h38 => (xs_n rfl ?_)) (fun h38 => (xs_n rfl ?_))
                  · refine xs_iconst (q := 46) i_MO_task_45 rfl (xs_n rfl ?_)
                    refine xs_istore (q := 48) (ls2 := [_, _, _, _, _, _, _, _]) i_MO_task_46 rfl rfl rfl (xs_n rfl ?_)
                    refine xs_aload_n (q := 49) i_MO_task_48 rfl rfl (xs_n rfl ?_)
                    refine xs_cv (q := 52) (av := [_]) (rest := []) i_MO_task_49 rfl (e_MO_task_49) ⟨rfl, rfl⟩ rfl rfl ?_
                    rw [am_V_iff]
                    refine ⟨⟨_, sg_50⟩, hP, ?_⟩
                    dsimp only [g_MO_hyperperiod, g_id]
                    refine xs_r1 rfl (xs_n rfl ?_)
                    refine xs_istore (q := 54) (ls2 := [_, _, _, _, _, _, _, _]) i_MO_task_52 rfl rfl rfl (xs_n rfl ?_)
                    refine xs_aload_n (q := 55) i_MO_task_54 rfl rfl (xs_n rfl ?_)
                    refine xs_iload (q := 57) i_MO_task_55 rfl rfl (xs_n rfl ?_)
                    refine xs_if_ne (q := 64) (r := 60) i_MO_task_57 rfl rfl (by unfold am_R; omega) (fun h57 => (xs_n rfl ?_)) (fun h57 => (xs_n rfl ?_))
                    · exact absurd rfl h57
                    · refine xs_iconst (q := 61) i_MO_task_60 rfl (xs_n rfl ?_)
                      refine xs_goto (q := 105) i_MO_task_61 rfl (xs_n rfl ?_)
                      refine xs_puti (q := 108) i_MO_task_105 rfl fd_MO_92 sg_50 rfl (xs_n rfl ?_)
                      refine xs_aload_n (q := 109) i_MO_task_108 rfl rfl (xs_n rfl ?_)
                      refine xs_geti (q := 112) i_MO_task_109 rfl fd_MO_92 sg_50 rfl (xs_n rfl ?_)
                      refine xs_if_le (q := 117) (r := 115) i_MO_task_112 rfl rfl (by rw [am_up_s]; unfold am_R; omega) (fun h112 => (xs_n rfl ?_)) (fun h112 => (xs_n rfl ?_))
                      · exact absurd h112 (by rw [am_up_s]; decide)
                      · refine xs_iconst (q := 116) i_MO_task_115 rfl (xs_n rfl ?_)
                        refine xs_iret i_MO_task_116 ?_
                        have ec : mo_tc M p f c d = 1 := by unfold mo_tc; rw [if_neg (show ¬ ((1 ≤ p ∧ p ≤ 60) ∧ (1 ≤ c ∧ c ≤ 60) ∧ 0 ≤ f ∧ f < p ∧ c ≤ d ∧ d ≤ p) from fun q => by omega)]
                        exact xs_fin (by simp only [f_MO_task]; rw [if_neg (by rw [ec]; decide)]) (by simp only [g_MO_task]; rw [if_neg (by rw [ec]; decide), ec]) trivial
                  · refine xs_iconst (q := 42) i_MO_task_41 rfl (xs_n rfl ?_)
                    refine xs_goto (q := 46) i_MO_task_42 rfl (xs_n rfl ?_)
                    refine xs_istore (q := 48) (ls2 := [_, _, _, _, _, _, _, _]) i_MO_task_46 rfl rfl rfl (xs_n rfl ?_)
                    refine xs_aload_n (q := 49) i_MO_task_48 rfl rfl (xs_n rfl ?_)
                    refine xs_cv (q := 52) (av := [_]) (rest := []) i_MO_task_49 rfl (e_MO_task_49) ⟨rfl, rfl⟩ rfl rfl ?_
                    rw [am_V_iff]
                    refine ⟨⟨_, sg_50⟩, hP, ?_⟩
                    dsimp only [g_MO_hyperperiod, g_id]
                    refine xs_r1 rfl (xs_n rfl ?_)
                    refine xs_istore (q := 54) (ls2 := [_, _, _, _, _, _, _, _]) i_MO_task_52 rfl rfl rfl (xs_n rfl ?_)
                    refine xs_aload_n (q := 55) i_MO_task_54 rfl rfl (xs_n rfl ?_)
                    refine xs_iload (q := 57) i_MO_task_55 rfl rfl (xs_n rfl ?_)
                    refine xs_if_ne (q := 64) (r := 60) i_MO_task_57 rfl rfl (by unfold am_R; omega) (fun h57 => (xs_n rfl ?_)) (fun h57 => (xs_n rfl ?_))
                    · refine xs_aload_n (q := 65) i_MO_task_64 rfl rfl (xs_n rfl ?_)
                      refine xs_geti (q := 68) i_MO_task_65 rfl fd_MO_96 sg_50 rfl (xs_n rfl ?_)
                      refine xs_iconst (q := 69) i_MO_task_68 rfl (xs_n rfl ?_)
                      refine xs_ic_eq (q := 79) (r := 72) i_MO_task_69 rfl rfl ⟨by unfold am_R; omega, by unfold am_R; omega⟩ (fun h69 => (xs_n rfl ?_)) (fun h69 => (xs_n rfl ?_))
                      · refine xs_iconst (q := 80) i_MO_task_79 rfl (xs_n rfl ?_)
                        refine xs_goto (q := 105) i_MO_task_80 rfl (xs_n rfl ?_)
                        refine xs_puti (q := 108) i_MO_task_105 rfl fd_MO_92 sg_50 rfl (xs_n rfl ?_)
                        refine xs_aload_n (q := 109) i_MO_task_108 rfl rfl (xs_n rfl ?_)
                        refine xs_geti (q := 112) i_MO_task_109 rfl fd_MO_92 sg_50 rfl (xs_n rfl ?_)
                        refine xs_if_le (q := 117) (r := 115) i_MO_task_112 rfl rfl (by rw [am_up_s]; unfold am_R; omega) (fun h112 => (xs_n rfl ?_)) (fun h112 => (xs_n rfl ?_))
                        · exact absurd h112 (by rw [am_up_s]; decide)
                        · refine xs_iconst (q := 116) i_MO_task_115 rfl (xs_n rfl ?_)
                          refine xs_iret i_MO_task_116 ?_
                          have ec : mo_tc M p f c d = 2 := by unfold mo_tc; rw [if_pos (show ((1 ≤ p ∧ p ≤ 60) ∧ (1 ≤ c ∧ c ≤ 60) ∧ 0 ≤ f ∧ f < p ∧ c ≤ d ∧ d ≤ p) from ⟨am_ite1 h7, am_ite1 h17, by omega, by omega, by omega, by omega⟩), if_pos (Or.inl h69)]
                          exact xs_fin (by simp only [f_MO_task]; rw [if_neg (by rw [ec]; decide)]) (by simp only [g_MO_task]; rw [if_neg (by rw [ec]; decide), ec]) trivial
                      · refine xs_aload_n (q := 73) i_MO_task_72 rfl rfl (xs_n rfl ?_)
                        refine xs_geti (q := 76) i_MO_task_73 rfl fd_MO_111 sg_50 rfl (xs_n rfl ?_)
                        refine xs_if_eq (q := 83) (r := 79) i_MO_task_76 rfl rfl h10 (fun h76 => (xs_n rfl ?_)) (fun h76 => (xs_n rfl ?_))
                        · have hlb := mo_lc_b (M := M) (p := p) h6 (show 1 ≤ p ∧ p ≤ 60 from am_ite1 h7)
                          refine xs_iload (q := 85) i_MO_task_83 rfl rfl (xs_n rfl ?_)
                          refine xs_iload (q := 87) i_MO_task_85 rfl rfl (xs_n rfl ?_)
                          refine xs_iload_n (q := 88) i_MO_task_87 rfl rfl (xs_n rfl ?_)
                          refine xs_cs (q := 91) (av := [_, _]) (rest := [_, _]) i_MO_task_88 rfl (e_MO_task_88) ⟨rfl, rfl⟩ rfl rfl ?_
                          rw [am_S_iff]
                          refine ⟨⟨by omega, by have := (show 1 ≤ p ∧ p ≤ 60 from am_ite1 h7); omega⟩, ?_⟩
                          dsimp only [g_MO_divisor, g_id]
                          refine xs_r1 rfl (xs_n rfl ?_)
                          refine xs_idiv (q := 92) i_MO_task_91 rfl (by show (0 ≤ mo_hy M (M 50 1).toNat ∧ mo_hy M (M 50 1).toNat < 2147483648 ∧ 0 < ((Nat.gcd (mo_hy M (M 50 1).toNat).toNat p.toNat : Nat) : Int) ∧ ((Nat.gcd (mo_hy M (M 50 1).toNat).toNat p.toNat : Nat) : Int) < 2147483648); omega) (xs_n rfl ?_)
                          refine xs_iload_n (q := 93) i_MO_task_92 rfl rfl (xs_n rfl ?_)
                          refine xs_imul (q := 94) i_MO_task_93 rfl (xs_n rfl ?_)
                          refine xs_sipush (q := 97) i_MO_task_94 rfl (by decide) (xs_n rfl ?_)
                          refine xs_ic_le (q := 104) (r := 100) i_MO_task_97 rfl rfl ⟨by show am_R (mo_lc M p); unfold am_R; omega, by unfold am_R; omega⟩ (fun h97 => (xs_n rfl ?_)) (fun h97 => (xs_n rfl ?_))
                          · refine xs_iconst (q := 105) i_MO_task_104 rfl (xs_n rfl ?_)
                            refine xs_puti (q := 108) i_MO_task_105 rfl fd_MO_92 sg_50 rfl (xs_n rfl ?_)
                            refine xs_aload_n (q := 109) i_MO_task_108 rfl rfl (xs_n rfl ?_)
                            refine xs_geti (q := 112) i_MO_task_109 rfl fd_MO_92 sg_50 rfl (xs_n rfl ?_)
                            refine xs_if_le (q := 117) (r := 115) i_MO_task_112 rfl rfl (by rw [am_up_s]; unfold am_R; omega) (fun h112 => (xs_n rfl ?_)) (fun h112 => (xs_n rfl ?_))
                            · refine xs_aload_n (q := 118) i_MO_task_117 rfl rfl (xs_n rfl ?_)
                              refine xs_getr (q := 121) i_MO_task_118 rfl fd_MO_7 sg_50 rfl (xs_n rfl ?_)
                              refine xs_aload_n (q := 122) i_MO_task_121 rfl rfl (xs_n rfl ?_)
                              refine xs_geti (q := 125) i_MO_task_122 rfl fd_MO_96 sg_50 rfl (xs_n rfl ?_)
                              refine xs_iload_n (q := 126) i_MO_task_125 rfl rfl (xs_n rfl ?_)
                              refine xs_iastore (q := 127) i_MO_task_126 rfl sg_51 (by have h69b : ¬ M 50 1 = 5 := h69; show 0 ≤ M 50 1 ∧ M 50 1 < 5; omega) (xs_n rfl ?_)
                              refine xs_aload_n (q := 128) i_MO_task_127 rfl rfl (xs_n rfl ?_)
                              refine xs_getr (q := 131) i_MO_task_128 rfl fd_MO_13 sg_50 rfl (xs_n rfl ?_)
                              refine xs_aload_n (q := 132) i_MO_task_131 rfl rfl (xs_n rfl ?_)
                              refine xs_geti (q := 135) i_MO_task_132 rfl fd_MO_96 sg_50 rfl (xs_n rfl ?_)
                              refine xs_iload_n (q := 136) i_MO_task_135 rfl rfl (xs_n rfl ?_)
                              refine xs_iastore (q := 137) i_MO_task_136 rfl sg_52 (by have h69b : ¬ M 50 1 = 5 := h69; show 0 ≤ M 50 1 ∧ M 50 1 < 5; omega) (xs_n rfl ?_)
                              refine xs_aload_n (q := 138) i_MO_task_137 rfl rfl (xs_n rfl ?_)
                              refine xs_getr (q := 141) i_MO_task_138 rfl fd_MO_16 sg_50 rfl (xs_n rfl ?_)
                              refine xs_aload_n (q := 142) i_MO_task_141 rfl rfl (xs_n rfl ?_)
                              refine xs_geti (q := 145) i_MO_task_142 rfl fd_MO_96 sg_50 rfl (xs_n rfl ?_)
                              refine xs_iload_n (q := 146) i_MO_task_145 rfl rfl (xs_n rfl ?_)
                              refine xs_iastore (q := 147) i_MO_task_146 rfl sg_53 (by have h69b : ¬ M 50 1 = 5 := h69; show 0 ≤ M 50 1 ∧ M 50 1 < 5; omega) (xs_n rfl ?_)
                              refine xs_aload_n (q := 148) i_MO_task_147 rfl rfl (xs_n rfl ?_)
                              refine xs_getr (q := 151) i_MO_task_148 rfl fd_MO_19 sg_50 rfl (xs_n rfl ?_)
                              refine xs_aload_n (q := 152) i_MO_task_151 rfl rfl (xs_n rfl ?_)
                              refine xs_geti (q := 155) i_MO_task_152 rfl fd_MO_96 sg_50 rfl (xs_n rfl ?_)
                              refine xs_iload (q := 157) i_MO_task_155 rfl rfl (xs_n rfl ?_)
                              refine xs_iastore (q := 158) i_MO_task_157 rfl sg_54 (by have h69b : ¬ M 50 1 = 5 := h69; show 0 ≤ M 50 1 ∧ M 50 1 < 5; omega) (xs_n rfl ?_)
                              refine xs_aload_n (q := 159) i_MO_task_158 rfl rfl (xs_n rfl ?_)
                              refine xs_geti (q := 162) i_MO_task_159 rfl fd_MO_96 sg_50 rfl (xs_n rfl ?_)
                              refine xs_istore (q := 164) (ls2 := [_, _, _, _, _, _, _, _]) i_MO_task_162 rfl rfl rfl (xs_z rfl ?_)
                              have ec : mo_tc M p f c d = 0 := by unfold mo_tc; rw [if_pos (show ((1 ≤ p ∧ p ≤ 60) ∧ (1 ≤ c ∧ c ≤ 60) ∧ 0 ≤ f ∧ f < p ∧ c ≤ d ∧ d ≤ p) from ⟨am_ite1 h7, am_ite1 h17, by omega, by omega, by omega, by omega⟩), if_neg (fun q => q.elim h69 (fun z => z h76)), if_pos (show mo_lc M p ≤ 2000 from h97)]
                              refine ⟨(M 50 1).toNat, by omega, Or.inr ⟨(M 50 1).toNat, rfl, by rw [Int.toNat_of_nonneg h20]; rfl, rfl, ⟨ec, by have h69b : ¬ M 50 1 = 5 := h69; omega, rfl, fun j hj => ?_, fun j => rfl, ?_, by omega⟩, rfl⟩⟩
                              · simp [am_up]
                              · simp [am_up]
                            · exact absurd h112 (by rw [am_up_s]; decide)
                          · refine xs_iconst (q := 101) i_MO_task_100 rfl (xs_n rfl ?_)
                            refine xs_goto (q := 105) i_MO_task_101 rfl (xs_n rfl ?_)
                            refine xs_puti (q := 108) i_MO_task_105 rfl fd_MO_92 sg_50 rfl (xs_n rfl ?_)
                            refine xs_aload_n (q := 109) i_MO_task_108 rfl rfl (xs_n rfl ?_)
                            refine xs_geti (q := 112) i_MO_task_109 rfl fd_MO_92 sg_50 rfl (xs_n rfl ?_)
                            refine xs_if_le (q := 117) (r := 115) i_MO_task_112 rfl rfl (by rw [am_up_s]; unfold am_R; omega) (fun h112 => (xs_n rfl ?_)) (fun h112 => (xs_n rfl ?_))
                            · exact absurd h112 (by rw [am_up_s]; decide)
                            · refine xs_iconst (q := 116) i_MO_task_115 rfl (xs_n rfl ?_)
                              refine xs_iret i_MO_task_116 ?_
                              have ec : mo_tc M p f c d = 3 := by unfold mo_tc; rw [if_pos (show ((1 ≤ p ∧ p ≤ 60) ∧ (1 ≤ c ∧ c ≤ 60) ∧ 0 ≤ f ∧ f < p ∧ c ≤ d ∧ d ≤ p) from ⟨am_ite1 h7, am_ite1 h17, by omega, by omega, by omega, by omega⟩), if_neg (fun q => q.elim h69 (fun z => z h76)), if_neg (show ¬ mo_lc M p ≤ 2000 from Int.not_le.mpr h97)]
                              exact xs_fin (by simp only [f_MO_task]; rw [if_neg (by rw [ec]; decide)]) (by simp only [g_MO_task]; rw [if_neg (by rw [ec]; decide), ec]) trivial
                        · refine xs_iconst (q := 80) i_MO_task_79 rfl (xs_n rfl ?_)
                          refine xs_goto (q := 105) i_MO_task_80 rfl (xs_n rfl ?_)
                          refine xs_puti (q := 108) i_MO_task_105 rfl fd_MO_92 sg_50 rfl (xs_n rfl ?_)
                          refine xs_aload_n (q := 109) i_MO_task_108 rfl rfl (xs_n rfl ?_)
                          refine xs_geti (q := 112) i_MO_task_109 rfl fd_MO_92 sg_50 rfl (xs_n rfl ?_)
                          refine xs_if_le (q := 117) (r := 115) i_MO_task_112 rfl rfl (by rw [am_up_s]; unfold am_R; omega) (fun h112 => (xs_n rfl ?_)) (fun h112 => (xs_n rfl ?_))
                          · exact absurd h112 (by rw [am_up_s]; decide)
                          · refine xs_iconst (q := 116) i_MO_task_115 rfl (xs_n rfl ?_)
                            refine xs_iret i_MO_task_116 ?_
                            have ec : mo_tc M p f c d = 2 := by unfold mo_tc; rw [if_pos (show ((1 ≤ p ∧ p ≤ 60) ∧ (1 ≤ c ∧ c ≤ 60) ∧ 0 ≤ f ∧ f < p ∧ c ≤ d ∧ d ≤ p) from ⟨am_ite1 h7, am_ite1 h17, by omega, by omega, by omega, by omega⟩), if_pos (Or.inr h76)]
                            exact xs_fin (by simp only [f_MO_task]; rw [if_neg (by rw [ec]; decide)]) (by simp only [g_MO_task]; rw [if_neg (by rw [ec]; decide), ec]) trivial
                    · exact absurd h57 (by decide)
      · skip
        refine xs_iload (q := 166) i_MO_task_164 rfl rfl (xs_n rfl ?_)
        refine xs_if_le (q := 210) (r := 169) i_MO_task_166 rfl rfl (by unfold am_R; omega) (fun h166 => (xs_n rfl ?_)) (fun h166 => (xs_n rfl ?_))
        · refine xs_aload_n (q := 211) i_MO_task_210 rfl rfl (xs_n rfl ?_)
          refine xs_getr (q := 214) i_MO_task_211 rfl fd_MO_22 sg_50 rfl (xs_n rfl ?_)
          refine xs_iload (q := 216) i_MO_task_214 rfl rfl (xs_n rfl ?_)
          refine xs_aload_n (q := 217) i_MO_task_216 rfl rfl (xs_n rfl ?_)
          refine xs_geti (q := 220) i_MO_task_217 rfl fd_MO_96 sg_50 rfl (xs_n rfl ?_)
          refine xs_iastore (q := 221) i_MO_task_220 rfl sg_55 (by omega) (xs_n rfl ?_)
          refine xs_aload_n (q := 222) i_MO_task_221 rfl rfl (xs_n rfl ?_)
          refine xs_dupr (q := 223) i_MO_task_222 rfl (xs_n rfl ?_)
          refine xs_geti (q := 226) i_MO_task_223 rfl fd_MO_96 sg_50 rfl (xs_n rfl ?_)
          refine xs_iconst (q := 227) i_MO_task_226 rfl (xs_n rfl ?_)
          refine xs_iadd (q := 228) i_MO_task_227 rfl (xs_n rfl ?_)
          refine xs_puti (q := 231) i_MO_task_228 rfl fd_MO_96 sg_50 rfl (xs_n rfl ?_)
          refine xs_aload_n (q := 232) i_MO_task_231 rfl rfl (xs_n rfl ?_)
          refine xs_geti (q := 235) i_MO_task_232 rfl fd_MO_96 sg_50 rfl (xs_n rfl ?_)
          refine xs_iconst (q := 236) i_MO_task_235 rfl (xs_n rfl ?_)
          refine xs_isub (q := 237) i_MO_task_236 rfl (xs_n rfl ?_)
          refine xs_iret i_MO_task_237 ?_
          have e0 : r = 0 := by omega
          subst e0
          refine xs_fin (by simp only [f_MO_task]; rw [if_pos hk, am_up_s, am_up_k _ _ (by decide), hc, Int.add_sub_cancel]) ?_ trivial
          simp only [g_MO_task]
          rw [if_pos hk]
          unfold mo_tg
          rw [← hg, am_ins]
          rw [am_up_k _ _ (by decide), hc]
          rfl
        · have hq := (h4.2 (r - 1) (by omega)).1
          have hp := h4.2 (M 55 (r - 1)).toNat (by omega)
          have e6 : M2 55 ((r : Int) - 1).toNat = M 55 (r - 1) := by rw [show ((r : Int) - 1).toNat = r - 1 by omega]; exact ho _ (by omega)
          have e5 : M2 54 (M 55 (r - 1)).toNat = M 54 (M 55 (r - 1)).toNat := by rw [hd]; exact am_up_j _ _ (by omega)
          refine xs_aload_n (q := 170) i_MO_task_169 rfl rfl (xs_n rfl ?_)
          refine xs_getr (q := 173) i_MO_task_170 rfl fd_MO_19 sg_50 rfl (xs_n rfl ?_)
          refine xs_aload_n (q := 174) i_MO_task_173 rfl rfl (xs_n rfl ?_)
          refine xs_getr (q := 177) i_MO_task_174 rfl fd_MO_22 sg_50 rfl (xs_n rfl ?_)
          refine xs_iload (q := 179) i_MO_task_177 rfl rfl (xs_n rfl ?_)
          refine xs_iconst (q := 180) i_MO_task_179 rfl (xs_n rfl ?_)
          refine xs_isub (q := 181) i_MO_task_180 rfl (xs_n rfl ?_)
          refine xs_iaload (q := 182) i_MO_task_181 rfl sg_55 rfl (by omega) (xs_n rfl ?_)
          refine xs_iaload (q := 183) i_MO_task_182 rfl sg_54 rfl (by rw [e6]; omega) (xs_n rfl ?_)
          refine xs_iload (q := 185) i_MO_task_183 rfl rfl (xs_n rfl ?_)
          refine xs_ic_le (q := 210) (r := 188) i_MO_task_185 rfl rfl ⟨by rw [e6, e5]; unfold am_R; omega, h1d⟩ (fun h185 => (xs_n rfl ?_)) (fun h185 => (xs_n rfl ?_))
          · refine xs_aload_n (q := 211) i_MO_task_210 rfl rfl (xs_n rfl ?_)
            refine xs_getr (q := 214) i_MO_task_211 rfl fd_MO_22 sg_50 rfl (xs_n rfl ?_)
            refine xs_iload (q := 216) i_MO_task_214 rfl rfl (xs_n rfl ?_)
            refine xs_aload_n (q := 217) i_MO_task_216 rfl rfl (xs_n rfl ?_)
            refine xs_geti (q := 220) i_MO_task_217 rfl fd_MO_96 sg_50 rfl (xs_n rfl ?_)
            refine xs_iastore (q := 221) i_MO_task_220 rfl sg_55 (by omega) (xs_n rfl ?_)
            refine xs_aload_n (q := 222) i_MO_task_221 rfl rfl (xs_n rfl ?_)
            refine xs_dupr (q := 223) i_MO_task_222 rfl (xs_n rfl ?_)
            refine xs_geti (q := 226) i_MO_task_223 rfl fd_MO_96 sg_50 rfl (xs_n rfl ?_)
            refine xs_iconst (q := 227) i_MO_task_226 rfl (xs_n rfl ?_)
            refine xs_iadd (q := 228) i_MO_task_227 rfl (xs_n rfl ?_)
            refine xs_puti (q := 231) i_MO_task_228 rfl fd_MO_96 sg_50 rfl (xs_n rfl ?_)
            refine xs_aload_n (q := 232) i_MO_task_231 rfl rfl (xs_n rfl ?_)
            refine xs_geti (q := 235) i_MO_task_232 rfl fd_MO_96 sg_50 rfl (xs_n rfl ?_)
            refine xs_iconst (q := 236) i_MO_task_235 rfl (xs_n rfl ?_)
            refine xs_isub (q := 237) i_MO_task_236 rfl (xs_n rfl ?_)
            refine xs_iret i_MO_task_237 ?_
            obtain ⟨r, rfl⟩ : ∃ r2, r = r2 + 1 := ⟨r - 1, by omega⟩
            have ez : ((r + 1 : Nat) : Int) - 1 = r := by omega
            rw [ez] at h185
            simp only [Int.toNat_natCast] at h185
            refine xs_fin (by simp only [f_MO_task]; rw [if_pos hk, am_up_s, am_up_k _ _ (by decide), hc, Int.add_sub_cancel]) ?_ trivial
            simp only [g_MO_task]
            rw [if_pos hk]
            unfold mo_tg
            rw [← hg, am_ins, if_neg (by omega)]
            rw [am_up_k _ _ (by decide), hc]
            rfl
          · refine xs_aload_n (q := 189) i_MO_task_188 rfl rfl (xs_n rfl ?_)
            refine xs_getr (q := 192) i_MO_task_189 rfl fd_MO_22 sg_50 rfl (xs_n rfl ?_)
            refine xs_iload (q := 194) i_MO_task_192 rfl rfl (xs_n rfl ?_)
            refine xs_aload_n (q := 195) i_MO_task_194 rfl rfl (xs_n rfl ?_)
            refine xs_getr (q := 198) i_MO_task_195 rfl fd_MO_22 sg_50 rfl (xs_n rfl ?_)
            refine xs_iload (q := 200) i_MO_task_198 rfl rfl (xs_n rfl ?_)
            refine xs_iconst (q := 201) i_MO_task_200 rfl (xs_n rfl ?_)
            refine xs_isub (q := 202) i_MO_task_201 rfl (xs_n rfl ?_)
            refine xs_iaload (q := 203) i_MO_task_202 rfl sg_55 rfl (by omega) (xs_n rfl ?_)
            refine xs_iastore (q := 204) i_MO_task_203 rfl sg_55 (by omega) (xs_n rfl ?_)
            refine xs_iinc (q := 207) (ls2 := [_, _, _, _, _, _, _, _]) i_MO_task_204 rfl rfl rfl (xs_n rfl ?_)
            refine xs_goto (q := 164) i_MO_task_207 rfl (xs_z rfl ?_)
            obtain ⟨r, rfl⟩ : ∃ r2, r = r2 + 1 := ⟨r - 1, by omega⟩
            have ez : ((r + 1 : Nat) : Int) - 1 = r := by omega
            rw [ez] at h185
            simp only [Int.toNat_natCast] at h185
            refine ⟨r, by omega, Or.inr ⟨r, rfl, by rw [show ((r + 1 : Nat) : Int) + -1 = r by omega], rfl, ⟨hk, h5t, ?_, fun j hj => ?_, fun j => ?_, ?_, by omega⟩, rfl⟩⟩
            · rw [← hg, am_ins, if_pos h185]
              congr 1
              rw [ez]
              simp only [Int.toNat_natCast]
            · rw [am_up_j _ _ (by omega)]; exact ho j (by omega)
            · rw [am_up_k _ _ (by decide)]; exact hd j
            · rw [am_up_k _ _ (by decide)]; exact hc
    · exact h.elim
