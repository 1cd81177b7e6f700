/-! contracts: the reference, replay (wip/whole/p52.py) -/
theorem am_up_uu (M : am_M) (k j : Nat) (u v : Int) : am_up (am_up M k j u) k j v = am_up M k j v := by
  funext p q
  simp only [am_up]
  by_cases c : p = k ∧ q = j
  · rw [if_pos c, if_pos c]
  · rw [if_neg c, if_neg c, if_neg c]
theorem am_up_id {M : am_M} {k j : Nat} {v : Int} (h : M k j = v) : am_up M k j v = M := by
  funext p q
  simp only [am_up]
  by_cases c : p = k ∧ q = j
  · rw [if_pos c, c.1, c.2, h]
  · rw [if_neg c]
/-- the jobs of a moment come in -/
def mo_pj : Nat → Int → am_M → Int × am_M
  | 0, j, Y => (j, Y)
  | f + 1, j, Y => if j < Y 50 11 ∧ Y 59 j.toNat = Y 50 19 then mo_pj f (j + 1) (g_MO_comesIn [.inr (.inl 50)] Y) else (j, Y)
def mo_pjk : Nat → Int → am_M → Prop
  | 0, _, _ => False
  | f + 1, j, Y => (0 ≤ j ∧ j ≤ 40) ∧ am_R (Y 50 11) ∧ (j < Y 50 11 → j < 40 ∧ am_R (Y 59 j.toNat) ∧ am_R (Y 50 19) ∧ (Y 59 j.toNat = Y 50 19 → P_MO_comesIn [.inr (.inl 50)] Y ∧ mo_pjk f (j + 1) (g_MO_comesIn [.inr (.inl 50)] Y)))
def mo_tl (e : Int) (Y : am_M) : am_M := g_MO_tell [.inr (.inl 50), .inl (Y 61 e.toNat), .inl (Y 62 e.toNat)] Y
/-- what is told at a moment -/
def mo_pe : Nat → Int → am_M → Int × am_M
  | 0, e, Y => (e, Y)
  | f + 1, e, Y => if e < Y 50 15 ∧ Y 63 e.toNat = Y 50 19 then mo_pe f (e + 1) (mo_tl e Y) else (e, Y)
def mo_pek : Nat → Int → am_M → Prop
  | 0, _, _ => False
  | f + 1, e, Y => (0 ≤ e ∧ e ≤ 200) ∧ am_R (Y 50 15) ∧ (e < Y 50 15 → e < 200 ∧ am_R (Y 63 e.toNat) ∧ am_R (Y 50 19) ∧ (Y 63 e.toNat = Y 50 19 → P_MO_tell [.inr (.inl 50), .inl (Y 61 e.toNat), .inl (Y 62 e.toNat)] Y ∧ mo_pek f (e + 1) (mo_tl e Y)))
def mo_tk (Y : am_M) : am_M := g_MO_tickOne [.inr (.inl 50)] Y
/-- the ticks of a replay -/
def mo_pr : Nat → Int → Int → Int → am_M → am_M
  | 0, _, _, _, Y => Y
  | f + 1, N, j, e, Y => if Y 50 19 < N then mo_pr f N (mo_pj 41 j Y).1 (mo_pe 201 e (mo_pj 41 j Y).2).1 (mo_tk (mo_pe 201 e (mo_pj 41 j Y).2).2) else Y
def mo_prk : Nat → Int → Int → Int → am_M → Prop
  | 0, _, _, _, _ => False
  | f + 1, N, j, e, Y => am_R (Y 50 19) ∧ (Y 50 19 < N → mo_pjk 41 j Y ∧ mo_pek 201 e (mo_pj 41 j Y).2 ∧ P_MO_tickOne [.inr (.inl 50)] (mo_pe 201 e (mo_pj 41 j Y).2).2 ∧ mo_prk f N (mo_pj 41 j Y).1 (mo_pe 201 e (mo_pj 41 j Y).2).1 (mo_tk (mo_pe 201 e (mo_pj 41 j Y).2).2))
def mo_pN (M : am_M) : Int := mo_kp (am_up M 50 0 0) 50 19
def mo_p0 (M : am_M) (k : Int) : am_M := g_MO_begin [.inr (.inl 50), .inl k] (mo_kp (am_up M 50 0 0))
def mo_pY (M : am_M) (k : Int) : am_M := mo_pr 2002 (mo_pN M) 0 0 (mo_p0 M k)
def mo_pR (M : am_M) (k : Int) (f : Nat) (j : Int) (r : Int × am_M) : Prop := P_MO_tickOne [.inr (.inl 50)] r.2 ∧ mo_prk f (mo_pN M) j r.1 (mo_tk r.2) ∧ mo_pr f (mo_pN M) j r.1 (mo_tk r.2) = mo_pY M k
def mo_pQ (M : am_M) (k : Int) (f : Nat) (e : Int) (r : Int × am_M) : Prop := mo_pek 201 e r.2 ∧ mo_pR M k f r.1 (mo_pe 201 e r.2)
/-- the jobs that ended, their times, the ticks alike -/
def mo_pc (Y : am_M) : Nat → Int := ma_su (fun q => if 0 < Y 68 q then 0 else 1)
def mo_px (Y : am_M) : Nat → Int := ma_su (fun q => if 0 < Y 68 q then 0 else Y 69 q - Y 59 q)
def mo_ps (Y : am_M) : Nat → Int := ma_su (fun q => if Y 70 q = Y 77 q then 1 else 0)
def mo_pb (Y : am_M) : am_M := am_up (am_up (am_up Y 50 43 0) 50 44 0) 50 45 (Y 50 29)
def mo_pd (Y : am_M) : am_M := am_up (mo_pb Y) 50 43 (mo_pc Y (Y 50 26).toNat)
def mo_pf (Y : am_M) (n : Nat) : am_M := am_up (mo_pd Y) 50 44 (mo_ps Y n)
def mo_yc (M : am_M) (k : Int) : Int := if 0 ≤ k ∧ k ≤ 3 then (if M 50 10 = 0 then 2 else if mo_a M k = 0 then 3 else 0) else 1
/-- the replay's end -/
def mo_pz (Y : am_M) : Prop := (0 ≤ Y 50 26 ∧ Y 50 26 ≤ 40) ∧ (∀ j, j < 40 → am_R (Y 68 j)) ∧ ∀ j, j < 2001 → am_R (Y 70 j) ∧ am_R (Y 77 j)
def P_MO_replay : am_P := fun av M => match av with
  | [.inr (.inl i), .inl k] => i = 50 ∧ am_R k ∧ am_R (M 50 10) ∧ mo_ok M ∧ mo_rb M ∧ (mo_yc M k = 0 → (0 ≤ mo_pN M ∧ mo_pN M ≤ 2000) ∧ mo_prk 2002 (mo_pN M) 0 0 (mo_p0 M k) ∧ mo_pz (mo_pY M k))
  | _ => False
def f_MO_replay : am_Fr := fun av M => match av with
  | [.inr (.inl i), .inl k] => some (.inl (if mo_yc M k = 0 then mo_px (mo_pY M k) (mo_pY M k 50 26).toNat else 0))
  | _ => none
def g_MO_replay : am_Fm := fun av M => match av with
  | [.inr (.inl i), .inl k] => if mo_yc M k = 0 then mo_lb (mo_pf (mo_pY M k) (mo_pN M).toNat) else am_up M 50 0 (mo_yc M k)
  | _ => M
def ct_MO_replay : am_T := fun pc => if pc = 4 then some (3, am_ctS P_MO_in (am_po f_MO_in g_MO_in)) else if pc = 27 then some (2, am_ctV vw_S 11 P_MO_isAdmitted (am_po f_MO_isAdmitted g_MO_isAdmitted)) else if pc = 51 then some (1, am_ctV vw_S 11 P_MO_keep (am_po f_MO_keep g_MO_keep)) else if pc = 61 then some (2, am_ctV vw_S 11 P_MO_begin (am_po f_MO_begin g_MO_begin)) else if pc = 99 then some (1, am_ctV vw_S 11 P_MO_comesIn (am_po f_MO_comesIn g_MO_comesIn)) else if pc = 146 then some (3, am_ctV vw_S 11 P_MO_tell (am_po f_MO_tell g_MO_tell)) else if pc = 156 then some (1, am_ctV vw_S 11 P_MO_tickOne (am_po f_MO_tickOne g_MO_tickOne)) else if pc = 292 then some (1, am_ctV vw_S 11 P_MO_layBack (am_po f_MO_layBack g_MO_layBack)) else none
theorem e_MO_replay_4 : ct_MO_replay 4 = some (3, am_ctS P_MO_in (am_po f_MO_in g_MO_in)) := rfl
theorem e_MO_replay_27 : ct_MO_replay 27 = some (2, am_ctV vw_S 11 P_MO_isAdmitted (am_po f_MO_isAdmitted g_MO_isAdmitted)) := rfl
theorem e_MO_replay_51 : ct_MO_replay 51 = some (1, am_ctV vw_S 11 P_MO_keep (am_po f_MO_keep g_MO_keep)) := rfl
theorem e_MO_replay_61 : ct_MO_replay 61 = some (2, am_ctV vw_S 11 P_MO_begin (am_po f_MO_begin g_MO_begin)) := rfl
theorem e_MO_replay_99 : ct_MO_replay 99 = some (1, am_ctV vw_S 11 P_MO_comesIn (am_po f_MO_comesIn g_MO_comesIn)) := rfl
theorem e_MO_replay_146 : ct_MO_replay 146 = some (3, am_ctV vw_S 11 P_MO_tell (am_po f_MO_tell g_MO_tell)) := rfl
theorem e_MO_replay_156 : ct_MO_replay 156 = some (1, am_ctV vw_S 11 P_MO_tickOne (am_po f_MO_tickOne g_MO_tickOne)) := rfl
theorem e_MO_replay_292 : ct_MO_replay 292 = some (1, am_ctV vw_S 11 P_MO_layBack (am_po f_MO_layBack g_MO_layBack)) := rfl
theorem ct_MO_replay_ok (l : Launch) : am_CC b_MO_replay 7 w_MO_replay y_MO_replay.cls l r_MO_replay ct_MO_replay := by
  intro p e s m args below meth c H0 A D G ad Q S hK hN hA pc q ct h
  have hts := S.2.2.2.2
  unfold ct_MO_replay at h
  split at h
  · rename_i hpc
    subst hpc; cases h
    exact am_callS S vw_N_ok hK hN hA ⟨Nat.zero_le _, Nat.zero_le _⟩ (m_MO_in l) (s_MO_103 hts am_vW hN ⟨by decide, by decide⟩) d_MO_replay_4
  split at h
  · rename_i hpc
    subst hpc; cases h
    exact am_callV S vw_N_ok hK hN hA ⟨Nat.zero_le _, Nat.zero_le _⟩ (m_MO_isAdmitted l) (s_MO_121 hts am_vW hN ⟨by decide, by decide⟩) (by rfl) d_MO_replay_27
  split at h
  · rename_i hpc
    subst hpc; cases h
    exact am_callV S vw_N_ok hK hN hA ⟨Nat.zero_le _, Nat.zero_le _⟩ (m_MO_keep l) (s_MO_198 hts am_vW hN ⟨by decide, by decide⟩) (by rfl) d_MO_replay_51
  split at h
  · rename_i hpc
    subst hpc; cases h
    exact am_callV S vw_N_ok hK hN hA ⟨Nat.zero_le _, Nat.zero_le _⟩ (m_MO_begin l) (s_MO_128 hts am_vW hN ⟨by decide, by decide⟩) (by rfl) d_MO_replay_61
  split at h
  · rename_i hpc
    subst hpc; cases h
    exact am_callV S vw_N_ok hK hN hA ⟨Nat.zero_le _, Nat.zero_le _⟩ (m_MO_comesIn l) (s_MO_188 hts am_vW hN ⟨by decide, by decide⟩) (by rfl) d_MO_replay_99
  split at h
  · rename_i hpc
    subst hpc; cases h
    exact am_callV S vw_N_ok hK hN hA ⟨Nat.zero_le _, Nat.zero_le _⟩ (m_MO_tell l) (s_MO_207 hts am_vW hN ⟨by decide, by decide⟩) (by rfl) d_MO_replay_146
  split at h
  · rename_i hpc
    subst hpc; cases h
    exact am_callV S vw_N_ok hK hN hA ⟨Nat.zero_le _, Nat.zero_le _⟩ (m_MO_tickOne l) (s_MO_182 hts am_vW hN ⟨by decide, by decide⟩) (by rfl) d_MO_replay_156
  split at h
  · rename_i hpc
    subst hpc; cases h
    exact am_callV S vw_N_ok hK hN hA ⟨Nat.zero_le _, Nat.zero_le _⟩ (m_MO_layBack l) (s_MO_201 hts am_vW hN ⟨by decide, by decide⟩) (by rfl) d_MO_replay_292
  cases h
def inv_MO_replay : List am_V → am_M → Nat → am_K := fun av M μ pc ls st M2 => match av with
  | [.inr (.inl i), .inl k] => (pc = 0 ∧ ls = am_l0 [.inr (.inl i), .inl k] 7 ∧ st = [] ∧ M = M2 ∧ μ = 10000000) ∨ (∃ (f : Nat) (j e : Int) (w5 w6 : Option am_V), pc = 69 ∧ ls = [some (.inr (.inl i)), some (.inl k), some (.inl (mo_pN M)), some (.inl j), some (.inl e), w5, w6] ∧ st = [] ∧ (mo_yc M k = 0 ∧ mo_prk f (mo_pN M) j e M2 ∧ mo_pr f (mo_pN M) j e M2 = mo_pY M k) ∧ μ = 100000 + f * 1000) ∨ (∃ (f f1 : Nat) (j e : Int) (w5 w6 : Option am_V), pc = 77 ∧ ls = [some (.inr (.inl i)), some (.inl k), some (.inl (mo_pN M)), some (.inl j), some (.inl e), w5, w6] ∧ st = [] ∧ (mo_yc M k = 0 ∧ f1 ≤ 41 ∧ mo_pjk f1 j M2 ∧ mo_pQ M k f e (mo_pj f1 j M2)) ∧ μ = 100000 + f * 1000 + 400 + f1) ∨ (∃ (f f1 : Nat) (j e : Int) (w5 w6 : Option am_V), pc = 108 ∧ ls = [some (.inr (.inl i)), some (.inl k), some (.inl (mo_pN M)), some (.inl j), some (.inl e), w5, w6] ∧ st = [] ∧ (mo_yc M k = 0 ∧ f1 ≤ 201 ∧ mo_pek f1 e M2 ∧ mo_pR M k f j (mo_pe f1 e M2)) ∧ μ = 100000 + f * 1000 + f1) ∨ (∃ (j e : Int) (t : Nat), pc = 187 ∧ ls = [some (.inr (.inl i)), some (.inl k), some (.inl (mo_pN M)), some (.inl j), some (.inl e), some (.inl (mo_px (mo_pY M k) t)), some (.inl (t : Int))] ∧ st = [] ∧ M2 = am_up (mo_pb (mo_pY M k)) 50 43 (mo_pc (mo_pY M k) t) ∧ (mo_yc M k = 0 ∧ (t : Int) ≤ mo_pY M k 50 26) ∧ μ = 50000 - t) ∨ (∃ (j e : Int) (t : Nat), pc = 248 ∧ ls = [some (.inr (.inl i)), some (.inl k), some (.inl (mo_pN M)), some (.inl j), some (.inl e), some (.inl (mo_px (mo_pY M k) (mo_pY M k 50 26).toNat)), some (.inl (t : Int))] ∧ st = [] ∧ M2 = mo_pf (mo_pY M k) t ∧ (mo_yc M k = 0 ∧ (t : Int) ≤ mo_pN M) ∧ μ = 10000 - t)
  | _ => False
theorem m_MO_replay (l : Launch) : am_MF l y_MO_replay w_MO_replay r_MO_replay P_MO_replay f_MO_replay g_MO_replay := by
  refine am_mkL (fun pc => pc == 69 || pc == 77 || pc == 108 || pc == 187 || pc == 248) i_MO_replay_ok fd_MO_ok (ct_MO_replay_ok l) (plainFor_of_name (by decide +kernel)) (by decide) ?_ 80 inv_MO_replay ?_ ?_
  · intro av M h
    unfold P_MO_replay at h
    split at h
    · exact ⟨Nat.le_of_ble_eq_true rfl, rfl⟩
    · exact h.elim
  · intro av M h
    unfold P_MO_replay at h
    split at h
    · exact ⟨_, Or.inl ⟨rfl, rfl, rfl, rfl, rfl⟩⟩
    · exact h.elim
  · intro av M h μ pc ls st M2 hi
    unfold P_MO_replay at h
    split at h
    · rename_i i k
      obtain ⟨rfl, h1, h2, h3, h4, h6⟩ := h
      rcases hi with ⟨rfl, rfl, rfl, rfl, rfl⟩ | ⟨f, j, e, w5, w6, rfl, rfl, rfl, ⟨hk, hp, hv⟩, rfl⟩ | ⟨f, f1, j, e, w5, w6, rfl, rfl, rfl, ⟨hk, hf, hp, hQ⟩, rfl⟩ | ⟨f, f1, j, e, w5, w6, rfl, rfl, rfl, ⟨hk, hf, hp, hR⟩, rfl⟩ | ⟨j, e, t, rfl, rfl, rfl, rfl, ⟨hk, ht⟩, rfl⟩ | ⟨j, e, t, rfl, rfl, rfl, rfl, ⟨hk, ht⟩, rfl⟩
      · skip
        refine xs_aload_n (q := 1) i_MO_replay_0 rfl rfl (xs_n rfl ?_)
        refine xs_iload_n (q := 2) i_MO_replay_1 rfl rfl (xs_n rfl ?_)
        refine xs_iconst (q := 3) i_MO_replay_2 rfl (xs_n rfl ?_)
        refine xs_iconst (q := 4) i_MO_replay_3 rfl (xs_n rfl ?_)
        refine xs_cs (q := 7) (av := [_, _, _]) (rest := [_]) i_MO_replay_4 rfl (e_MO_replay_4) ⟨rfl, rfl⟩ rfl rfl ?_
        rw [am_S_iff]
        refine ⟨⟨h1, by unfold am_R; omega, by unfold am_R; omega⟩, ?_⟩
        dsimp only [g_MO_in, g_id]
        refine xs_r1 rfl (xs_n rfl ?_)
        refine xs_if_ne (q := 14) (r := 10) i_MO_replay_7 rfl rfl am_ite (fun h7 => (xs_n rfl ?_)) (fun h7 => (xs_n rfl ?_))
        · refine xs_aload_n (q := 15) i_MO_replay_14 rfl rfl (xs_n rfl ?_)
          refine xs_geti (q := 18) i_MO_replay_15 rfl fd_MO_111 sg_50 rfl (xs_n rfl ?_)
          refine xs_if_ne (q := 25) (r := 21) i_MO_replay_18 rfl rfl h2 (fun h18 => (xs_n rfl ?_)) (fun h18 => (xs_n rfl ?_))
          · refine xs_aload_n (q := 26) i_MO_replay_25 rfl rfl (xs_n rfl ?_)
            refine xs_iload_n (q := 27) i_MO_replay_26 rfl rfl (xs_n rfl ?_)
            refine xs_cv (q := 30) (av := [_, _]) (rest := [_]) i_MO_replay_27 rfl (e_MO_replay_27) ⟨rfl, rfl⟩ rfl rfl ?_
            rw [am_V_iff]
            refine ⟨⟨_, sg_50⟩, ⟨rfl, h1, h3, h4⟩, ?_⟩
            dsimp only [g_MO_isAdmitted, g_id]
            refine xs_r1 rfl (xs_n rfl ?_)
            refine xs_if_ne (q := 37) (r := 33) i_MO_replay_30 rfl rfl (by rcases mo_a_01 M k with q | q <;> (show am_R (mo_a M k); rw [q]; unfold am_R; omega)) (fun h30 => (xs_n rfl ?_)) (fun h30 => (xs_n rfl ?_))
            · refine xs_iconst (q := 38) i_MO_replay_37 rfl (xs_n rfl ?_)
              refine xs_puti (q := 41) i_MO_replay_38 rfl fd_MO_92 sg_50 rfl (xs_n rfl ?_)
              refine xs_aload_n (q := 42) i_MO_replay_41 rfl rfl (xs_n rfl ?_)
              refine xs_geti (q := 45) i_MO_replay_42 rfl fd_MO_92 sg_50 rfl (xs_n rfl ?_)
              refine xs_if_le (q := 50) (r := 48) i_MO_replay_45 rfl rfl (by rw [am_up_s]; unfold am_R; omega) (fun h45 => (xs_n rfl ?_)) (fun h45 => (xs_n rfl ?_))
              · refine xs_aload_n (q := 51) i_MO_replay_50 rfl rfl (xs_n rfl ?_)
                refine xs_cv (q := 54) (av := [_]) (rest := []) i_MO_replay_51 rfl (e_MO_replay_51) ⟨rfl, rfl⟩ rfl rfl ?_
                rw [am_V_iff]
                refine ⟨⟨_, sg_50⟩, rfl, ?_⟩
                refine xs_r0 rfl (xs_n rfl ?_)
                refine xs_aload_n (q := 55) i_MO_replay_54 rfl rfl (xs_n rfl ?_)
                refine xs_geti (q := 58) i_MO_replay_55 rfl fd_MO_132 sg_50 rfl (xs_n rfl ?_)
                refine xs_istore_n (q := 59) (ls2 := [_, _, _, _, _, _, _]) i_MO_replay_58 rfl rfl rfl (xs_n rfl ?_)
                refine xs_aload_n (q := 60) i_MO_replay_59 rfl rfl (xs_n rfl ?_)
                refine xs_iload_n (q := 61) i_MO_replay_60 rfl rfl (xs_n rfl ?_)
                refine xs_cv (q := 64) (av := [_, _]) (rest := []) i_MO_replay_61 rfl (e_MO_replay_61) ⟨rfl, rfl⟩ rfl rfl ?_
                rw [am_V_iff]
                refine ⟨⟨_, sg_50⟩, ⟨rfl, by have hk3 : (0 ≤ k ∧ k ≤ 3) := am_ite1 h7; omega⟩, ?_⟩
                refine xs_r0 rfl (xs_n rfl ?_)
                refine xs_iconst (q := 65) i_MO_replay_64 rfl (xs_n rfl ?_)
                refine xs_istore_n (q := 66) (ls2 := [_, _, _, _, _, _, _]) i_MO_replay_65 rfl rfl rfl (xs_n rfl ?_)
                refine xs_iconst (q := 67) i_MO_replay_66 rfl (xs_n rfl ?_)
                refine xs_istore (q := 69) (ls2 := [_, _, _, _, _, _, _]) i_MO_replay_67 rfl rfl rfl (xs_z rfl ?_)
                have ec : mo_yc M k = 0 := by unfold mo_yc; rw [if_pos (show (0 ≤ k ∧ k ≤ 3) from am_ite1 h7), if_neg h18, if_neg (show ¬ mo_a M k = 0 from h30)]
                exact ⟨100000 + 2002 * 1000, by omega, Or.inr (Or.inl (⟨2002, 0, 0, none, none, rfl, rfl, rfl, ⟨ec, (h6 ec).2.1, rfl⟩, rfl⟩))⟩
              · exact absurd h45 (by rw [am_up_s]; decide)
            · refine xs_iconst (q := 34) i_MO_replay_33 rfl (xs_n rfl ?_)
              refine xs_goto (q := 38) i_MO_replay_34 rfl (xs_n rfl ?_)
              refine xs_puti (q := 41) i_MO_replay_38 rfl fd_MO_92 sg_50 rfl (xs_n rfl ?_)
              refine xs_aload_n (q := 42) i_MO_replay_41 rfl rfl (xs_n rfl ?_)
              refine xs_geti (q := 45) i_MO_replay_42 rfl fd_MO_92 sg_50 rfl (xs_n rfl ?_)
              refine xs_if_le (q := 50) (r := 48) i_MO_replay_45 rfl rfl (by rw [am_up_s]; unfold am_R; omega) (fun h45 => (xs_n rfl ?_)) (fun h45 => (xs_n rfl ?_))
              · exact absurd h45 (by rw [am_up_s]; decide)
              · refine xs_iconst (q := 49) i_MO_replay_48 rfl (xs_n rfl ?_)
                refine xs_iret i_MO_replay_49 ?_
                have ec : mo_yc M k = 3 := by unfold mo_yc; rw [if_pos (show (0 ≤ k ∧ k ≤ 3) from am_ite1 h7), if_neg h18, if_pos (show mo_a M k = 0 from h30)]
                exact xs_fin (by simp only [f_MO_replay]; rw [if_neg (by rw [ec]; decide)]) (by simp only [g_MO_replay]; rw [if_neg (by rw [ec]; decide), ec]) trivial
          · refine xs_iconst (q := 22) i_MO_replay_21 rfl (xs_n rfl ?_)
            refine xs_goto (q := 38) i_MO_replay_22 rfl (xs_n rfl ?_)
            refine xs_puti (q := 41) i_MO_replay_38 rfl fd_MO_92 sg_50 rfl (xs_n rfl ?_)
            refine xs_aload_n (q := 42) i_MO_replay_41 rfl rfl (xs_n rfl ?_)
            refine xs_geti (q := 45) i_MO_replay_42 rfl fd_MO_92 sg_50 rfl (xs_n rfl ?_)
            refine xs_if_le (q := 50) (r := 48) i_MO_replay_45 rfl rfl (by rw [am_up_s]; unfold am_R; omega) (fun h45 => (xs_n rfl ?_)) (fun h45 => (xs_n rfl ?_))
            · exact absurd h45 (by rw [am_up_s]; decide)
            · refine xs_iconst (q := 49) i_MO_replay_48 rfl (xs_n rfl ?_)
              refine xs_iret i_MO_replay_49 ?_
              have ec : mo_yc M k = 2 := by unfold mo_yc; rw [if_pos (show (0 ≤ k ∧ k ≤ 3) from am_ite1 h7), if_pos h18]
              exact xs_fin (by simp only [f_MO_replay]; rw [if_neg (by rw [ec]; decide)]) (by simp only [g_MO_replay]; rw [if_neg (by rw [ec]; decide), ec]) trivial
        · refine xs_iconst (q := 11) i_MO_replay_10 rfl (xs_n rfl ?_)
          refine xs_goto (q := 38) i_MO_replay_11 rfl (xs_n rfl ?_)
          refine xs_puti (q := 41) i_MO_replay_38 rfl fd_MO_92 sg_50 rfl (xs_n rfl ?_)
          refine xs_aload_n (q := 42) i_MO_replay_41 rfl rfl (xs_n rfl ?_)
          refine xs_geti (q := 45) i_MO_replay_42 rfl fd_MO_92 sg_50 rfl (xs_n rfl ?_)
          refine xs_if_le (q := 50) (r := 48) i_MO_replay_45 rfl rfl (by rw [am_up_s]; unfold am_R; omega) (fun h45 => (xs_n rfl ?_)) (fun h45 => (xs_n rfl ?_))
          · exact absurd h45 (by rw [am_up_s]; decide)
          · refine xs_iconst (q := 49) i_MO_replay_48 rfl (xs_n rfl ?_)
            refine xs_iret i_MO_replay_49 ?_
            have ec : mo_yc M k = 1 := by unfold mo_yc; rw [if_neg (show ¬ (0 ≤ k ∧ k ≤ 3) from am_ite0 h7)]
            exact xs_fin (by simp only [f_MO_replay]; rw [if_neg (by rw [ec]; decide)]) (by simp only [g_MO_replay]; rw [if_neg (by rw [ec]; decide), ec]) trivial
      · skip
        rcases f with _ | f
        · exact hp.elim
        have h6b := (h6 hk).2.2
        have h6n := (h6 hk).1
        have h6c := h6b.1
        refine xs_aload_n (q := 70) i_MO_replay_69 rfl rfl (xs_n rfl ?_)
        refine xs_geti (q := 73) i_MO_replay_70 rfl fd_MO_132 sg_50 rfl (xs_n rfl ?_)
        refine xs_iload_n (q := 74) i_MO_replay_73 rfl rfl (xs_n rfl ?_)
        refine xs_ic_ge (q := 163) (r := 77) i_MO_replay_74 rfl rfl ⟨hp.1, by unfold am_R; omega⟩ (fun h74 => (xs_n rfl ?_)) (fun h74 => (xs_z rfl ?_))
        · refine xs_aload_n (q := 164) i_MO_replay_163 rfl rfl (xs_n rfl ?_)
          refine xs_iconst (q := 165) i_MO_replay_164 rfl (xs_n rfl ?_)
          refine xs_puti (q := 168) i_MO_replay_165 rfl fd_MO_226 sg_50 rfl (xs_n rfl ?_)
          refine xs_aload_n (q := 169) i_MO_replay_168 rfl rfl (xs_n rfl ?_)
          refine xs_iconst (q := 170) i_MO_replay_169 rfl (xs_n rfl ?_)
          refine xs_puti (q := 173) i_MO_replay_170 rfl fd_MO_229 sg_50 rfl (xs_n rfl ?_)
          refine xs_aload_n (q := 174) i_MO_replay_173 rfl rfl (xs_n rfl ?_)
          refine xs_aload_n (q := 175) i_MO_replay_174 rfl rfl (xs_n rfl ?_)
          refine xs_geti (q := 178) i_MO_replay_175 rfl fd_MO_144 sg_50 rfl (xs_n rfl ?_)
          refine xs_puti (q := 181) i_MO_replay_178 rfl fd_MO_232 sg_50 rfl (xs_n rfl ?_)
          refine xs_iconst (q := 182) i_MO_replay_181 rfl (xs_n rfl ?_)
          refine xs_istore (q := 184) (ls2 := [_, _, _, _, _, _, _]) i_MO_replay_182 rfl rfl rfl (xs_n rfl ?_)
          refine xs_iconst (q := 185) i_MO_replay_184 rfl (xs_n rfl ?_)
          refine xs_istore (q := 187) (ls2 := [_, _, _, _, _, _, _]) i_MO_replay_185 rfl rfl rfl (xs_z rfl ?_)
          rw [mo_pr, if_neg (Int.not_lt.mpr h74)] at hv
          have hz := (h6 hk).2.2
          subst hv
          refine ⟨50000, by omega, Or.inr (Or.inr (Or.inr (Or.inr (Or.inl (⟨j, e, 0, rfl, rfl, rfl, ?_, ⟨hk, hz.1.1⟩, rfl⟩)))))⟩
          exact (am_up_id rfl).symm
        · rw [mo_pr, if_pos h74] at hv
          obtain ⟨q1, q2, q3, q4⟩ := hp.2 h74
          exact ⟨100000 + f * 1000 + 400 + 41, by omega, Or.inr (Or.inr (Or.inl (⟨f, 41, j, e, _, _, rfl, rfl, rfl, ⟨hk, by omega, q1, q2, q3, q4, hv⟩, rfl⟩)))⟩
      · skip
        rcases f1 with _ | f1
        · exact hp.elim
        refine xs_iload_n (q := 78) i_MO_replay_77 rfl rfl (xs_n rfl ?_)
        refine xs_aload_n (q := 79) i_MO_replay_78 rfl rfl (xs_n rfl ?_)
        refine xs_geti (q := 82) i_MO_replay_79 rfl fd_MO_185 sg_50 rfl (xs_n rfl ?_)
        refine xs_ic_ge (q := 108) (r := 85) i_MO_replay_82 rfl rfl ⟨by have := hp.1; unfold am_R; omega, hp.2.1⟩ (fun h82 => (xs_z rfl ?_)) (fun h82 => (xs_n rfl ?_))
        · rw [mo_pj, if_neg (fun q => absurd q.1 (Int.not_lt.mpr h82))] at hQ
          exact ⟨100000 + f * 1000 + 201, by omega, Or.inr (Or.inr (Or.inr (Or.inl (⟨f, 201, j, e, _, _, rfl, rfl, rfl, ⟨hk, by omega, hQ.1, hQ.2⟩, rfl⟩))))⟩
        · refine xs_aload_n (q := 86) i_MO_replay_85 rfl rfl (xs_n rfl ?_)
          refine xs_getr (q := 89) i_MO_replay_86 rfl fd_MO_34 sg_50 rfl (xs_n rfl ?_)
          refine xs_iload_n (q := 90) i_MO_replay_89 rfl rfl (xs_n rfl ?_)
          refine xs_iaload (q := 91) i_MO_replay_90 rfl sg_59 rfl (by have q1 := hp.1; have q2 := (hp.2.2 h82).1; omega) (xs_n rfl ?_)
          refine xs_aload_n (q := 92) i_MO_replay_91 rfl rfl (xs_n rfl ?_)
          refine xs_geti (q := 95) i_MO_replay_92 rfl fd_MO_132 sg_50 rfl (xs_n rfl ?_)
          refine xs_ic_ne (q := 108) (r := 98) i_MO_replay_95 rfl rfl ⟨(hp.2.2 h82).2.1, (hp.2.2 h82).2.2.1⟩ (fun h95 => (xs_z rfl ?_)) (fun h95 => (xs_n rfl ?_))
          · rw [mo_pj, if_neg (fun q => h95 q.2)] at hQ
            exact ⟨100000 + f * 1000 + 201, by omega, Or.inr (Or.inr (Or.inr (Or.inl (⟨f, 201, j, e, _, _, rfl, rfl, rfl, ⟨hk, by omega, hQ.1, hQ.2⟩, rfl⟩))))⟩
          · refine xs_aload_n (q := 99) i_MO_replay_98 rfl rfl (xs_n rfl ?_)
            refine xs_cv (q := 102) (av := [_]) (rest := []) i_MO_replay_99 rfl (e_MO_replay_99) ⟨rfl, rfl⟩ rfl rfl ?_
            rw [am_V_iff]
            refine ⟨⟨_, sg_50⟩, ((hp.2.2 h82).2.2.2 h95).1, ?_⟩
            refine xs_r0 rfl (xs_n rfl ?_)
            refine xs_iinc (q := 105) (ls2 := [_, _, _, _, _, _, _]) i_MO_replay_102 rfl rfl rfl (xs_n rfl ?_)
            refine xs_goto (q := 77) i_MO_replay_105 rfl (xs_z rfl ?_)
            rw [mo_pj, if_pos ⟨h82, h95⟩] at hQ
            exact ⟨100000 + f * 1000 + 400 + f1, by omega, Or.inr (Or.inr (Or.inl (⟨f, f1, j + 1, e, _, _, rfl, rfl, rfl, ⟨hk, by omega, ((hp.2.2 h82).2.2.2 h95).2, hQ⟩, rfl⟩)))⟩
      · skip
        rcases f1 with _ | f1
        · exact hp.elim
        refine xs_iload (q := 110) i_MO_replay_108 rfl rfl (xs_n rfl ?_)
        refine xs_aload_n (q := 111) i_MO_replay_110 rfl rfl (xs_n rfl ?_)
        refine xs_geti (q := 114) i_MO_replay_111 rfl fd_MO_204 sg_50 rfl (xs_n rfl ?_)
        refine xs_ic_ge (q := 155) (r := 117) i_MO_replay_114 rfl rfl ⟨by have := hp.1; unfold am_R; omega, hp.2.1⟩ (fun h114 => (xs_n rfl ?_)) (fun h114 => (xs_n rfl ?_))
        · refine xs_aload_n (q := 156) i_MO_replay_155 rfl rfl (xs_n rfl ?_)
          refine xs_cv (q := 159) (av := [_]) (rest := []) i_MO_replay_156 rfl (e_MO_replay_156) ⟨rfl, rfl⟩ rfl rfl ?_
          rw [am_V_iff]
          refine ⟨⟨_, sg_50⟩, by have hR2 := hR; rw [mo_pe, if_neg (fun q => absurd q.1 (Int.not_lt.mpr h114))] at hR2; exact hR2.1, ?_⟩
          refine xs_r1 rfl (xs_n rfl ?_)
          refine xs_popi (q := 160) i_MO_replay_159 rfl (xs_n rfl ?_)
          refine xs_goto (q := 69) i_MO_replay_160 rfl (xs_z rfl ?_)
          rw [mo_pe, if_neg (fun q => absurd q.1 (Int.not_lt.mpr h114))] at hR
          obtain ⟨q1, q2, q3⟩ := hR
          exact ⟨100000 + f * 1000, by omega, Or.inr (Or.inl (⟨f, j, e, _, _, rfl, rfl, rfl, ⟨hk, q2, q3⟩, rfl⟩))⟩
        · refine xs_aload_n (q := 118) i_MO_replay_117 rfl rfl (xs_n rfl ?_)
          refine xs_getr (q := 121) i_MO_replay_118 rfl fd_MO_47 sg_50 rfl (xs_n rfl ?_)
          refine xs_iload (q := 123) i_MO_replay_121 rfl rfl (xs_n rfl ?_)
          refine xs_iaload (q := 124) i_MO_replay_123 rfl sg_63 rfl (by have q1 := hp.1; have q2 := (hp.2.2 h114).1; omega) (xs_n rfl ?_)
          refine xs_aload_n (q := 125) i_MO_replay_124 rfl rfl (xs_n rfl ?_)
          refine xs_geti (q := 128) i_MO_replay_125 rfl fd_MO_132 sg_50 rfl (xs_n rfl ?_)
          refine xs_ic_ne (q := 155) (r := 131) i_MO_replay_128 rfl rfl ⟨(hp.2.2 h114).2.1, (hp.2.2 h114).2.2.1⟩ (fun h128 => (xs_n rfl ?_)) (fun h128 => (xs_n rfl ?_))
          · refine xs_aload_n (q := 156) i_MO_replay_155 rfl rfl (xs_n rfl ?_)
            refine xs_cv (q := 159) (av := [_]) (rest := []) i_MO_replay_156 rfl (e_MO_replay_156) ⟨rfl, rfl⟩ rfl rfl ?_
            rw [am_V_iff]
            refine ⟨⟨_, sg_50⟩, by have hR2 := hR; rw [mo_pe, if_neg (fun q => h128 q.2)] at hR2; exact hR2.1, ?_⟩
            refine xs_r1 rfl (xs_n rfl ?_)
            refine xs_popi (q := 160) i_MO_replay_159 rfl (xs_n rfl ?_)
            refine xs_goto (q := 69) i_MO_replay_160 rfl (xs_z rfl ?_)
            rw [mo_pe, if_neg (fun q => h128 q.2)] at hR
            obtain ⟨q1, q2, q3⟩ := hR
            exact ⟨100000 + f * 1000, by omega, Or.inr (Or.inl (⟨f, j, e, _, _, rfl, rfl, rfl, ⟨hk, q2, q3⟩, rfl⟩))⟩
          · refine xs_aload_n (q := 132) i_MO_replay_131 rfl rfl (xs_n rfl ?_)
            refine xs_aload_n (q := 133) i_MO_replay_132 rfl rfl (xs_n rfl ?_)
            refine xs_getr (q := 136) i_MO_replay_133 rfl fd_MO_41 sg_50 rfl (xs_n rfl ?_)
            refine xs_iload (q := 138) i_MO_replay_136 rfl rfl (xs_n rfl ?_)
            refine xs_iaload (q := 139) i_MO_replay_138 rfl sg_61 rfl (by have q1 := hp.1; have q2 := (hp.2.2 h114).1; omega) (xs_n rfl ?_)
            refine xs_aload_n (q := 140) i_MO_replay_139 rfl rfl (xs_n rfl ?_)
            refine xs_getr (q := 143) i_MO_replay_140 rfl fd_MO_44 sg_50 rfl (xs_n rfl ?_)
            refine xs_iload (q := 145) i_MO_replay_143 rfl rfl (xs_n rfl ?_)
            refine xs_iaload (q := 146) i_MO_replay_145 rfl sg_62 rfl (by have q1 := hp.1; have q2 := (hp.2.2 h114).1; omega) (xs_n rfl ?_)
            refine xs_cv (q := 149) (av := [_, _, _]) (rest := []) i_MO_replay_146 rfl (e_MO_replay_146) ⟨rfl, rfl⟩ rfl rfl ?_
            rw [am_V_iff]
            refine ⟨⟨_, sg_50⟩, ((hp.2.2 h114).2.2.2 h128).1, ?_⟩
            refine xs_r0 rfl (xs_n rfl ?_)
            refine xs_iinc (q := 152) (ls2 := [_, _, _, _, _, _, _]) i_MO_replay_149 rfl rfl rfl (xs_n rfl ?_)
            refine xs_goto (q := 108) i_MO_replay_152 rfl (xs_z rfl ?_)
            rw [mo_pe, if_pos ⟨h114, h128⟩] at hR
            exact ⟨100000 + f * 1000 + f1, by omega, Or.inr (Or.inr (Or.inr (Or.inl (⟨f, f1, j, e + 1, _, _, rfl, rfl, rfl, ⟨hk, by omega, ((hp.2.2 h114).2.2.2 h128).2, hR⟩, rfl⟩))))⟩
      · skip
        have h6b := (h6 hk).2.2
        have h6n := (h6 hk).1
        have h6c := h6b.1
        refine xs_iload (q := 189) i_MO_replay_187 rfl rfl (xs_n rfl ?_)
        refine xs_aload_n (q := 190) i_MO_replay_189 rfl rfl (xs_n rfl ?_)
        refine xs_geti (q := 193) i_MO_replay_190 rfl fd_MO_141 sg_50 rfl (xs_n rfl ?_)
        refine xs_ic_ge (q := 245) (r := 196) i_MO_replay_193 rfl rfl ⟨by have := h6b.1; unfold am_R; omega, by have := h6b.1; show am_R (mo_pY M k 50 26); unfold am_R; omega⟩ (fun h193 => (xs_n rfl ?_)) (fun h193 => (xs_n rfl ?_))
        · have h193b : mo_pY M k 50 26 ≤ (t : Int) := h193
          refine xs_iconst (q := 246) i_MO_replay_245 rfl (xs_n rfl ?_)
          refine xs_istore (q := 248) (ls2 := [_, _, _, _, _, _, _]) i_MO_replay_246 rfl rfl rfl (xs_z rfl ?_)
          obtain rfl : t = (mo_pY M k 50 26).toNat := by omega
          refine ⟨10000, by omega, Or.inr (Or.inr (Or.inr (Or.inr (Or.inr (⟨j, e, 0, rfl, rfl, rfl, ?_, ⟨hk, h6n.1⟩, rfl⟩)))))⟩
          exact (am_up_id rfl).symm
        · have h193b : (t : Int) < mo_pY M k 50 26 := h193
          refine xs_aload_n (q := 197) i_MO_replay_196 rfl rfl (xs_n rfl ?_)
          refine xs_getr (q := 200) i_MO_replay_197 rfl fd_MO_62 sg_50 rfl (xs_n rfl ?_)
          refine xs_iload (q := 202) i_MO_replay_200 rfl rfl (xs_n rfl ?_)
          refine xs_iaload (q := 203) i_MO_replay_202 rfl sg_68 rfl (by have := h6b.1; omega) (xs_n rfl ?_)
          refine xs_if_le (q := 209) (r := 206) i_MO_replay_203 rfl rfl (h6b.2.1 _ (by have := h6b.1; omega)) (fun h203 => (xs_n rfl ?_)) (fun h203 => (xs_n rfl ?_))
          · refine xs_aload_n (q := 210) i_MO_replay_209 rfl rfl (xs_n rfl ?_)
            refine xs_dupr (q := 211) i_MO_replay_210 rfl (xs_n rfl ?_)
            refine xs_geti (q := 214) i_MO_replay_211 rfl fd_MO_226 sg_50 rfl (xs_n rfl ?_)
            refine xs_iconst (q := 215) i_MO_replay_214 rfl (xs_n rfl ?_)
            refine xs_iadd (q := 216) i_MO_replay_215 rfl (xs_n rfl ?_)
            refine xs_puti (q := 219) i_MO_replay_216 rfl fd_MO_226 sg_50 rfl (xs_n rfl ?_)
            refine xs_iload (q := 221) i_MO_replay_219 rfl rfl (xs_n rfl ?_)
            refine xs_aload_n (q := 222) i_MO_replay_221 rfl rfl (xs_n rfl ?_)
            refine xs_getr (q := 225) i_MO_replay_222 rfl fd_MO_65 sg_50 rfl (xs_n rfl ?_)
            refine xs_iload (q := 227) i_MO_replay_225 rfl rfl (xs_n rfl ?_)
            refine xs_iaload (q := 228) i_MO_replay_227 rfl sg_69 rfl (by have := h6b.1; omega) (xs_n rfl ?_)
            refine xs_aload_n (q := 229) i_MO_replay_228 rfl rfl (xs_n rfl ?_)
            refine xs_getr (q := 232) i_MO_replay_229 rfl fd_MO_34 sg_50 rfl (xs_n rfl ?_)
            refine xs_iload (q := 234) i_MO_replay_232 rfl rfl (xs_n rfl ?_)
            refine xs_iaload (q := 235) i_MO_replay_234 rfl sg_59 rfl (by have := h6b.1; omega) (xs_n rfl ?_)
            refine xs_isub (q := 236) i_MO_replay_235 rfl (xs_n rfl ?_)
            refine xs_iadd (q := 237) i_MO_replay_236 rfl (xs_n rfl ?_)
            refine xs_istore (q := 239) (ls2 := [_, _, _, _, _, _, _]) i_MO_replay_237 rfl rfl rfl (xs_n rfl ?_)
            refine xs_iinc (q := 242) (ls2 := [_, _, _, _, _, _, _]) i_MO_replay_239 rfl rfl rfl (xs_n rfl ?_)
            refine xs_goto (q := 187) i_MO_replay_242 rfl (xs_z rfl ?_)
            have e1 : mo_px (mo_pY M k) (t + 1) = mo_px (mo_pY M k) t + (mo_pY M k 69 t - mo_pY M k 59 t) := by simp only [mo_px, ma_su]; rw [if_neg (show ¬ 0 < mo_pY M k 68 t from Int.not_lt.mpr h203)]
            have e2 : mo_pc (mo_pY M k) (t + 1) = mo_pc (mo_pY M k) t + 1 := by simp only [mo_pc, ma_su]; rw [if_neg (show ¬ 0 < mo_pY M k 68 t from Int.not_lt.mpr h203)]
            refine ⟨50000 - (t + 1), by omega, Or.inr (Or.inr (Or.inr (Or.inr (Or.inl (⟨j, e, t + 1, rfl, ?_, rfl, ?_, ⟨hk, by omega⟩, rfl⟩)))))⟩
            · rw [e1]; rfl
            · rw [e2, am_up_s, am_up_uu]
          · refine xs_goto (q := 239) i_MO_replay_206 rfl (xs_n rfl ?_)
            refine xs_iinc (q := 242) (ls2 := [_, _, _, _, _, _, _]) i_MO_replay_239 rfl rfl rfl (xs_n rfl ?_)
            refine xs_goto (q := 187) i_MO_replay_242 rfl (xs_z rfl ?_)
            have e1 : mo_px (mo_pY M k) (t + 1) = mo_px (mo_pY M k) t := by simp only [mo_px, ma_su]; rw [if_pos (show 0 < mo_pY M k 68 t from h203), Int.add_zero]
            have e2 : mo_pc (mo_pY M k) (t + 1) = mo_pc (mo_pY M k) t := by simp only [mo_pc, ma_su]; rw [if_pos (show 0 < mo_pY M k 68 t from h203), Int.add_zero]
            refine ⟨50000 - (t + 1), by omega, Or.inr (Or.inr (Or.inr (Or.inr (Or.inl (⟨j, e, t + 1, rfl, ?_, rfl, ?_, ⟨hk, by omega⟩, rfl⟩)))))⟩
            · rw [e1]; rfl
            · rw [e2]
      · skip
        have h6b := (h6 hk).2.2
        have h6n := (h6 hk).1
        have h6c := h6b.1
        refine xs_iload (q := 250) i_MO_replay_248 rfl rfl (xs_n rfl ?_)
        refine xs_iload_n (q := 251) i_MO_replay_250 rfl rfl (xs_n rfl ?_)
        refine xs_ic_ge (q := 291) (r := 254) i_MO_replay_251 rfl rfl ⟨by unfold am_R; omega, by unfold am_R; omega⟩ (fun h251 => (xs_n rfl ?_)) (fun h251 => (xs_n rfl ?_))
        · refine xs_aload_n (q := 292) i_MO_replay_291 rfl rfl (xs_n rfl ?_)
          refine xs_cv (q := 295) (av := [_]) (rest := []) i_MO_replay_292 rfl (e_MO_replay_292) ⟨rfl, rfl⟩ rfl rfl ?_
          rw [am_V_iff]
          refine ⟨⟨_, sg_50⟩, rfl, ?_⟩
          refine xs_r0 rfl (xs_n rfl ?_)
          refine xs_iload (q := 297) i_MO_replay_295 rfl rfl (xs_n rfl ?_)
          refine xs_iret i_MO_replay_297 ?_
          obtain rfl : t = (mo_pN M).toNat := by omega
          exact xs_fin (by simp only [f_MO_replay]; rw [if_pos hk]) (by simp only [g_MO_replay]; rw [if_pos hk]; rfl) trivial
        · refine xs_aload_n (q := 255) i_MO_replay_254 rfl rfl (xs_n rfl ?_)
          refine xs_dupr (q := 256) i_MO_replay_255 rfl (xs_n rfl ?_)
          refine xs_geti (q := 259) i_MO_replay_256 rfl fd_MO_229 sg_50 rfl (xs_n rfl ?_)
          refine xs_aload_n (q := 260) i_MO_replay_259 rfl rfl (xs_n rfl ?_)
          refine xs_getr (q := 263) i_MO_replay_260 rfl fd_MO_68 sg_50 rfl (xs_n rfl ?_)
          refine xs_iload (q := 265) i_MO_replay_263 rfl rfl (xs_n rfl ?_)
          refine xs_iaload (q := 266) i_MO_replay_265 rfl sg_70 rfl (by omega) (xs_n rfl ?_)
          refine xs_aload_n (q := 267) i_MO_replay_266 rfl rfl (xs_n rfl ?_)
          refine xs_getr (q := 270) i_MO_replay_267 rfl fd_MO_89 sg_50 rfl (xs_n rfl ?_)
          refine xs_iload (q := 272) i_MO_replay_270 rfl rfl (xs_n rfl ?_)
          refine xs_iaload (q := 273) i_MO_replay_272 rfl sg_77 rfl (by omega) (xs_n rfl ?_)
          refine xs_ic_ne (q := 280) (r := 276) i_MO_replay_273 rfl rfl ⟨(h6b.2.2 _ (by omega)).1, (h6b.2.2 _ (by omega)).2⟩ (fun h273 => (xs_n rfl ?_)) (fun h273 => (xs_n rfl ?_))
          · refine xs_iconst (q := 281) i_MO_replay_280 rfl (xs_n rfl ?_)
            refine xs_iadd (q := 282) i_MO_replay_281 rfl (xs_n rfl ?_)
            refine xs_puti (q := 285) i_MO_replay_282 rfl fd_MO_229 sg_50 rfl (xs_n rfl ?_)
            refine xs_iinc (q := 288) (ls2 := [_, _, _, _, _, _, _]) i_MO_replay_285 rfl rfl rfl (xs_n rfl ?_)
            refine xs_goto (q := 248) i_MO_replay_288 rfl (xs_z rfl ?_)
            have e1 : mo_ps (mo_pY M k) (t + 1) = mo_ps (mo_pY M k) t + 0 := by simp only [mo_ps, ma_su]; rw [if_neg (show ¬ mo_pY M k 70 t = mo_pY M k 77 t from h273)]
            refine ⟨10000 - (t + 1), by omega, Or.inr (Or.inr (Or.inr (Or.inr (Or.inr (⟨j, e, t + 1, rfl, rfl, rfl, ?_, ⟨hk, by omega⟩, rfl⟩)))))⟩
            unfold mo_pf
            rw [e1, am_up_s, am_up_uu]
          · refine xs_iconst (q := 277) i_MO_replay_276 rfl (xs_n rfl ?_)
            refine xs_goto (q := 281) i_MO_replay_277 rfl (xs_n rfl ?_)
            refine xs_iadd (q := 282) i_MO_replay_281 rfl (xs_n rfl ?_)
            refine xs_puti (q := 285) i_MO_replay_282 rfl fd_MO_229 sg_50 rfl (xs_n rfl ?_)
            refine xs_iinc (q := 288) (ls2 := [_, _, _, _, _, _, _]) i_MO_replay_285 rfl rfl rfl (xs_n rfl ?_)
            refine xs_goto (q := 248) i_MO_replay_288 rfl (xs_z rfl ?_)
            have e1 : mo_ps (mo_pY M k) (t + 1) = mo_ps (mo_pY M k) t + 1 := by simp only [mo_ps, ma_su]; rw [if_pos (show mo_pY M k 70 t = mo_pY M k 77 t from h273)]
            refine ⟨10000 - (t + 1), by omega, Or.inr (Or.inr (Or.inr (Or.inr (Or.inr (⟨j, e, t + 1, rfl, rfl, rfl, ?_, ⟨hk, by omega⟩, rfl⟩)))))⟩
            unfold mo_pf
            rw [e1, am_up_s, am_up_uu]
    · exact h.elim
