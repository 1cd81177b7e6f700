/-! contracts: the reference, its small methods (wip/whole/p40.py) -/
/-- the reference's tasks, rules -/
def mo_ok (M : am_M) : Prop := (0 ≤ M 50 1 ∧ M 50 1 ≤ 5) ∧ ∀ r : Nat, (r : Int) < M 50 1 → (0 ≤ M 55 r ∧ M 55 r < M 50 1) ∧ (1 ≤ M 51 r ∧ M 51 r ≤ 60) ∧ (0 ≤ M 52 r ∧ M 52 r < M 51 r) ∧ (1 ≤ M 53 r ∧ M 53 r ≤ M 54 r ∧ M 54 r ≤ M 51 r)
def mo_rb (M : am_M) : Prop := (1 ≤ M 57 1 ∧ M 57 1 ≤ 60 ∧ 1 ≤ M 56 1 ∧ M 56 1 ≤ M 57 1) ∧ (1 ≤ M 57 2 ∧ M 57 2 ≤ 60 ∧ 1 ≤ M 56 2 ∧ M 56 2 ≤ M 57 2)
def mo_hy (M : am_M) : Nat → Int
  | 0 => 1
  | n + 1 => mo_hy M n / ((Nat.gcd (mo_hy M n).toNat (M 51 n).toNat : Nat) : Int) * M 51 n
def P_MO_thrown : am_P := fun av M => match av with
  | [.inr (.inl i)] => i = 50
  | _ => False
def f_MO_thrown : am_Fr := fun av M => match av with
  | [.inr (.inl i)] => some (.inl (M 50 0))
  | _ => none
abbrev g_MO_thrown : am_Fm := g_id
theorem m_MO_thrown (l : Launch) : am_MF l y_MO_thrown w_MO_thrown r_MO_thrown P_MO_thrown f_MO_thrown g_MO_thrown := by
  refine am_mk0 i_MO_thrown_ok fd_MO_ok am_CC0 (plainFor_of_name (by decide +kernel)) (by decide) ?_ 6 ?_
  · intro av M h
    unfold P_MO_thrown at h
    split at h
    · exact ⟨Nat.le_of_ble_eq_true rfl, rfl⟩
    · exact h.elim
  · intro av M Z h
    unfold P_MO_thrown at h
    split at h
    · rename_i i
      subst h
      refine xs_aload_n (q := 1) i_MO_thrown_0 rfl rfl (xs_n rfl ?_)
      refine xs_geti (q := 4) i_MO_thrown_1 rfl fd_MO_92 sg_50 rfl (xs_n rfl ?_)
      refine xs_iret i_MO_thrown_4 ?_
      exact xs_fin rfl rfl trivial
    · exact h.elim
def P_MO_hyperperiod : am_P := fun av M => match av with
  | [.inr (.inl i)] => i = 50 ∧ mo_ok M ∧ ∀ n : Nat, (n : Int) < M 50 1 → 1 ≤ mo_hy M n ∧ mo_hy M n ≤ 2000
  | _ => False
def f_MO_hyperperiod : am_Fr := fun av M => match av with
  | [.inr (.inl i)] => some (.inl (mo_hy M (M 50 1).toNat))
  | _ => none
abbrev g_MO_hyperperiod : am_Fm := g_id
def ct_MO_hyperperiod : am_T := fun pc => if pc = 20 then some (2, am_ctS P_MO_divisor (am_po f_MO_divisor g_MO_divisor)) else none
theorem e_MO_hyperperiod_20 : ct_MO_hyperperiod 20 = some (2, am_ctS P_MO_divisor (am_po f_MO_divisor g_MO_divisor)) := rfl
theorem ct_MO_hyperperiod_ok (l : Launch) : am_CC b_MO_hyperperiod 3 w_MO_hyperperiod y_MO_hyperperiod.cls l r_MO_hyperperiod ct_MO_hyperperiod := by
  intro p e s m args below meth c H0 A D G ad Q S hK hN hA pc q ct h
  have hts := S.2.2.2.2
  unfold ct_MO_hyperperiod at h
  split at h
  · rename_i hpc
    subst hpc; cases h
    exact am_callS S vw_N_ok hK hN hA ⟨Nat.zero_le _, Nat.zero_le _⟩ (m_MO_divisor l) (s_MO_99 hts am_vW hN ⟨by decide, by decide⟩) d_MO_hyperperiod_20
  cases h
def inv_MO_hyperperiod : List am_V → am_M → Nat → am_K := fun av M μ pc ls st M2 => match av with
  | [.inr (.inl i)] => (pc = 0 ∧ ls = am_l0 [.inr (.inl i)] 3 ∧ st = [] ∧ M = M2 ∧ μ = 100) ∨ ∃ t : Nat, pc = 4 ∧ ls = [some (.inr (.inl i)), some (.inl (mo_hy M t)), some (.inl (t : Int))] ∧ st = [] ∧ M = M2 ∧ (t : Int) ≤ M 50 1 ∧ μ = (M 50 1 - t).toNat
  | _ => False
theorem m_MO_hyperperiod (l : Launch) : am_MF l y_MO_hyperperiod w_MO_hyperperiod r_MO_hyperperiod P_MO_hyperperiod f_MO_hyperperiod g_MO_hyperperiod := by
  refine am_mkL (fun pc => pc == 4) i_MO_hyperperiod_ok fd_MO_ok (ct_MO_hyperperiod_ok l) (plainFor_of_name (by decide +kernel)) (by decide) ?_ 40 inv_MO_hyperperiod ?_ ?_
  · intro av M h
    unfold P_MO_hyperperiod at h
    split at h
    · exact ⟨Nat.le_of_ble_eq_true rfl, rfl⟩
    · exact h.elim
  · intro av M h
    unfold P_MO_hyperperiod at h
    split at h
    · exact ⟨_, Or.inl ⟨rfl, rfl, rfl, rfl, rfl⟩⟩
    · exact h.elim
  · intro av M h μ pc ls st M2 hi
    unfold P_MO_hyperperiod at h
    split at h
    · rename_i i
      obtain ⟨rfl, ⟨h1, h2⟩, h3⟩ := h
      rcases hi with ⟨rfl, rfl, rfl, rfl, rfl⟩ | ⟨t, rfl, rfl, rfl, rfl, ht, rfl⟩
      · skip
        refine xs_iconst (q := 1) i_MO_hyperperiod_0 rfl (xs_n rfl ?_)
        refine xs_istore_n (q := 2) (ls2 := [_, _, _]) i_MO_hyperperiod_1 rfl rfl rfl (xs_n rfl ?_)
        refine xs_iconst (q := 3) i_MO_hyperperiod_2 rfl (xs_n rfl ?_)
        refine xs_istore_n (q := 4) (ls2 := [_, _, _]) i_MO_hyperperiod_3 rfl rfl rfl (xs_z rfl ?_)
        exact ⟨(M 50 1).toNat, by omega, Or.inr ⟨0, rfl, rfl, rfl, rfl, by omega, by omega⟩⟩
      · skip
        refine xs_iload_n (q := 5) i_MO_hyperperiod_4 rfl rfl (xs_n rfl ?_)
        refine xs_aload_n (q := 6) i_MO_hyperperiod_5 rfl rfl (xs_n rfl ?_)
        refine xs_geti (q := 9) i_MO_hyperperiod_6 rfl fd_MO_96 sg_50 rfl (xs_n rfl ?_)
        refine xs_ic_ge (q := 38) (r := 12) i_MO_hyperperiod_9 rfl rfl ⟨by unfold am_R; omega, by unfold am_R; omega⟩ (fun h9 => (xs_n rfl ?_)) (fun h9 => (xs_n rfl ?_))
        · refine xs_iload_n (q := 39) i_MO_hyperperiod_38 rfl rfl (xs_n rfl ?_)
          refine xs_iret i_MO_hyperperiod_39 ?_
          obtain rfl : t = (M 50 1).toNat := by omega
          exact xs_fin rfl rfl trivial
        · have hp := h2 t h9
          have hh := h3 t h9
          have hg : 0 < Nat.gcd (mo_hy M t).toNat (M 51 t).toNat := Nat.gcd_pos_of_pos_right _ (by omega)
          have hl : Nat.gcd (mo_hy M t).toNat (M 51 t).toNat ≤ (M 51 t).toNat := Nat.gcd_le_right _ (by omega)
          refine xs_iload_n (q := 13) i_MO_hyperperiod_12 rfl rfl (xs_n rfl ?_)
          refine xs_iload_n (q := 14) i_MO_hyperperiod_13 rfl rfl (xs_n rfl ?_)
          refine xs_aload_n (q := 15) i_MO_hyperperiod_14 rfl rfl (xs_n rfl ?_)
          refine xs_getr (q := 18) i_MO_hyperperiod_15 rfl fd_MO_7 sg_50 rfl (xs_n rfl ?_)
          refine xs_iload_n (q := 19) i_MO_hyperperiod_18 rfl rfl (xs_n rfl ?_)
          refine xs_iaload (q := 20) i_MO_hyperperiod_19 rfl sg_51 rfl (by omega) (xs_n rfl ?_)
          refine xs_cs (q := 23) (av := [_, _]) (rest := [_]) i_MO_hyperperiod_20 rfl (e_MO_hyperperiod_20) ⟨rfl, rfl⟩ rfl rfl ?_
          rw [am_S_iff]
          refine ⟨⟨by omega, by simp only [Int.toNat_natCast]; omega⟩, ?_⟩
          dsimp only [g_MO_divisor, g_id]
          refine xs_r1 rfl (xs_n rfl ?_)
          refine xs_idiv (q := 24) i_MO_hyperperiod_23 rfl (by simp only [Int.toNat_natCast]; omega) (xs_n rfl ?_)
          refine xs_aload_n (q := 25) i_MO_hyperperiod_24 rfl rfl (xs_n rfl ?_)
          refine xs_getr (q := 28) i_MO_hyperperiod_25 rfl fd_MO_7 sg_50 rfl (xs_n rfl ?_)
          refine xs_iload_n (q := 29) i_MO_hyperperiod_28 rfl rfl (xs_n rfl ?_)
          refine xs_iaload (q := 30) i_MO_hyperperiod_29 rfl sg_51 rfl (by omega) (xs_n rfl ?_)
          refine xs_imul (q := 31) i_MO_hyperperiod_30 rfl (xs_n rfl ?_)
          refine xs_istore_n (q := 32) (ls2 := [_, _, _]) i_MO_hyperperiod_31 rfl rfl rfl (xs_n rfl ?_)
          refine xs_iinc (q := 35) (ls2 := [_, _, _]) i_MO_hyperperiod_32 rfl rfl rfl (xs_n rfl ?_)
          refine xs_goto (q := 4) i_MO_hyperperiod_35 rfl (xs_z rfl ?_)
          exact ⟨(M 50 1 - (t + 1 : Nat)).toNat, by omega, Or.inr ⟨t + 1, rfl, rfl, rfl, rfl, by omega, rfl⟩⟩
    · exact h.elim
def mo_dem (M : am_M) (k r : Int) : Int := if k = 1 then (1 + ma_ru (if M 56 1 < r then r - M 56 1 else 0) (M 57 1)) * M 56 1 else if k = 2 then ma_ru r (M 57 2) * M 56 2 else 0
def P_MO_taken : am_P := fun av M => match av with
  | [.inr (.inl i), .inl k, .inl r] => i = 50 ∧ am_R k ∧ (0 ≤ r ∧ r ≤ 100000) ∧ mo_rb M
  | _ => False
def f_MO_taken : am_Fr := fun av M => match av with
  | [.inr (.inl i), .inl k, .inl r] => some (.inl (mo_dem M k r))
  | _ => none
abbrev g_MO_taken : am_Fm := g_id
def ct_MO_taken : am_T := fun pc => if pc = 34 then some (2, am_ctS P_MO_times (am_po f_MO_times g_MO_times)) else if pc = 58 then some (2, am_ctS P_MO_times (am_po f_MO_times g_MO_times)) else none
theorem e_MO_taken_34 : ct_MO_taken 34 = some (2, am_ctS P_MO_times (am_po f_MO_times g_MO_times)) := rfl
theorem e_MO_taken_58 : ct_MO_taken 58 = some (2, am_ctS P_MO_times (am_po f_MO_times g_MO_times)) := rfl
theorem ct_MO_taken_ok (l : Launch) : am_CC b_MO_taken 3 w_MO_taken y_MO_taken.cls l r_MO_taken ct_MO_taken := by
  intro p e s m args below meth c H0 A D G ad Q S hK hN hA pc q ct h
  have hts := S.2.2.2.2
  unfold ct_MO_taken at h
  split at h
  · rename_i hpc
    subst hpc; cases h
    exact am_callS S vw_N_ok hK hN hA ⟨Nat.zero_le _, Nat.zero_le _⟩ (m_MO_times l) (s_MO_115 hts am_vW hN ⟨by decide, by decide⟩) d_MO_taken_34
  split at h
  · rename_i hpc
    subst hpc; cases h
    exact am_callS S vw_N_ok hK hN hA ⟨Nat.zero_le _, Nat.zero_le _⟩ (m_MO_times l) (s_MO_115 hts am_vW hN ⟨by decide, by decide⟩) d_MO_taken_58
  cases h
theorem m_MO_taken (l : Launch) : am_MF l y_MO_taken w_MO_taken r_MO_taken P_MO_taken f_MO_taken g_MO_taken := by
  refine am_mk0 i_MO_taken_ok fd_MO_ok (ct_MO_taken_ok l) (plainFor_of_name (by decide +kernel)) (by decide) ?_ 40 ?_
  · intro av M h
    unfold P_MO_taken at h
    split at h
    · exact ⟨Nat.le_of_ble_eq_true rfl, rfl⟩
    · exact h.elim
  · intro av M Z h
    unfold P_MO_taken at h
    split at h
    · rename_i i k r
      obtain ⟨rfl, h1, h3, h4, h5⟩ := h
      refine xs_iload_n (q := 1) i_MO_taken_0 rfl rfl (xs_n rfl ?_)
      refine xs_iconst (q := 2) i_MO_taken_1 rfl (xs_n rfl ?_)
      refine xs_ic_ne (q := 46) (r := 5) i_MO_taken_2 rfl rfl ⟨h1, by unfold am_R; omega⟩ (fun h2 => (xs_n rfl ?_)) (fun h2 => (xs_n rfl ?_))
      · refine xs_iload_n (q := 47) i_MO_taken_46 rfl rfl (xs_n rfl ?_)
        refine xs_iconst (q := 48) i_MO_taken_47 rfl (xs_n rfl ?_)
        refine xs_ic_ne (q := 71) (r := 51) i_MO_taken_48 rfl rfl ⟨h1, by unfold am_R; omega⟩ (fun h48 => (xs_n rfl ?_)) (fun h48 => (xs_n rfl ?_))
        · refine xs_iconst (q := 72) i_MO_taken_71 rfl (xs_n rfl ?_)
          refine xs_iret i_MO_taken_72 ?_
          exact xs_fin (by simp only [f_MO_taken, mo_dem]; rw [if_neg h2, if_neg h48]) rfl trivial
        · refine xs_iload_n (q := 52) i_MO_taken_51 rfl rfl (xs_n rfl ?_)
          refine xs_aload_n (q := 53) i_MO_taken_52 rfl rfl (xs_n rfl ?_)
          refine xs_getr (q := 56) i_MO_taken_53 rfl fd_MO_28 sg_50 rfl (xs_n rfl ?_)
          refine xs_iconst (q := 57) i_MO_taken_56 rfl (xs_n rfl ?_)
          refine xs_iaload (q := 58) i_MO_taken_57 rfl sg_57 rfl (by omega) (xs_n rfl ?_)
          refine xs_cs (q := 61) (av := [_, _]) (rest := []) i_MO_taken_58 rfl (e_MO_taken_58) ⟨rfl, rfl⟩ rfl rfl ?_
          rw [am_S_iff]
          refine ⟨by show (0 ≤ r ∧ r ≤ 1000000 ∧ 0 < M 57 2 ∧ M 57 2 ≤ 1000000); omega, ?_⟩
          dsimp only [g_MO_times, g_id]
          refine xs_r1 rfl (xs_n rfl ?_)
          refine xs_aload_n (q := 62) i_MO_taken_61 rfl rfl (xs_n rfl ?_)
          refine xs_getr (q := 65) i_MO_taken_62 rfl fd_MO_25 sg_50 rfl (xs_n rfl ?_)
          refine xs_iconst (q := 66) i_MO_taken_65 rfl (xs_n rfl ?_)
          refine xs_iaload (q := 67) i_MO_taken_66 rfl sg_56 rfl (by omega) (xs_n rfl ?_)
          refine xs_imul (q := 68) i_MO_taken_67 rfl (xs_n rfl ?_)
          refine xs_goto (q := 72) i_MO_taken_68 rfl (xs_n rfl ?_)
          refine xs_iret i_MO_taken_72 ?_
          exact xs_fin (by simp only [f_MO_taken, mo_dem]; rw [if_neg h2, if_pos h48]; rfl) rfl trivial
      · refine xs_iconst (q := 6) i_MO_taken_5 rfl (xs_n rfl ?_)
        refine xs_iload_n (q := 7) i_MO_taken_6 rfl rfl (xs_n rfl ?_)
        refine xs_aload_n (q := 8) i_MO_taken_7 rfl rfl (xs_n rfl ?_)
        refine xs_getr (q := 11) i_MO_taken_8 rfl fd_MO_25 sg_50 rfl (xs_n rfl ?_)
        refine xs_iconst (q := 12) i_MO_taken_11 rfl (xs_n rfl ?_)
        refine xs_iaload (q := 13) i_MO_taken_12 rfl sg_56 rfl (by omega) (xs_n rfl ?_)
        refine xs_ic_le (q := 27) (r := 16) i_MO_taken_13 rfl rfl ⟨by unfold am_R; omega, by show am_R (M 56 1); unfold am_R; omega⟩ (fun h13 => (xs_n rfl ?_)) (fun h13 => (xs_n rfl ?_))
        · have h13 : r ≤ M 56 1 := h13
          refine xs_iconst (q := 28) i_MO_taken_27 rfl (xs_n rfl ?_)
          refine xs_aload_n (q := 29) i_MO_taken_28 rfl rfl (xs_n rfl ?_)
          refine xs_getr (q := 32) i_MO_taken_29 rfl fd_MO_28 sg_50 rfl (xs_n rfl ?_)
          refine xs_iconst (q := 33) i_MO_taken_32 rfl (xs_n rfl ?_)
          refine xs_iaload (q := 34) i_MO_taken_33 rfl sg_57 rfl (by omega) (xs_n rfl ?_)
          refine xs_cs (q := 37) (av := [_, _]) (rest := [_]) i_MO_taken_34 rfl (e_MO_taken_34) ⟨rfl, rfl⟩ rfl rfl ?_
          rw [am_S_iff]
          refine ⟨by show (0 ≤ (0 : Int) ∧ (0 : Int) ≤ 1000000 ∧ 0 < M 57 1 ∧ M 57 1 ≤ 1000000); omega, ?_⟩
          dsimp only [g_MO_times, g_id]
          refine xs_r1 rfl (xs_n rfl ?_)
          refine xs_iadd (q := 38) i_MO_taken_37 rfl (xs_n rfl ?_)
          refine xs_aload_n (q := 39) i_MO_taken_38 rfl rfl (xs_n rfl ?_)
          refine xs_getr (q := 42) i_MO_taken_39 rfl fd_MO_25 sg_50 rfl (xs_n rfl ?_)
          refine xs_iconst (q := 43) i_MO_taken_42 rfl (xs_n rfl ?_)
          refine xs_iaload (q := 44) i_MO_taken_43 rfl sg_56 rfl (by omega) (xs_n rfl ?_)
          refine xs_imul (q := 45) i_MO_taken_44 rfl (xs_n rfl ?_)
          refine xs_iret i_MO_taken_45 ?_
          exact xs_fin (by simp only [f_MO_taken, mo_dem]; rw [if_pos h2, if_neg (Int.not_lt.mpr h13)]; rfl) rfl trivial
        · have h13 : M 56 1 < r := h13
          refine xs_iload_n (q := 17) i_MO_taken_16 rfl rfl (xs_n rfl ?_)
          refine xs_aload_n (q := 18) i_MO_taken_17 rfl rfl (xs_n rfl ?_)
          refine xs_getr (q := 21) i_MO_taken_18 rfl fd_MO_25 sg_50 rfl (xs_n rfl ?_)
          refine xs_iconst (q := 22) i_MO_taken_21 rfl (xs_n rfl ?_)
          refine xs_iaload (q := 23) i_MO_taken_22 rfl sg_56 rfl (by omega) (xs_n rfl ?_)
          refine xs_isub (q := 24) i_MO_taken_23 rfl (xs_n rfl ?_)
          refine xs_goto (q := 28) i_MO_taken_24 rfl (xs_n rfl ?_)
          refine xs_aload_n (q := 29) i_MO_taken_28 rfl rfl (xs_n rfl ?_)
          refine xs_getr (q := 32) i_MO_taken_29 rfl fd_MO_28 sg_50 rfl (xs_n rfl ?_)
          refine xs_iconst (q := 33) i_MO_taken_32 rfl (xs_n rfl ?_)
          refine xs_iaload (q := 34) i_MO_taken_33 rfl sg_57 rfl (by omega) (xs_n rfl ?_)
          refine xs_cs (q := 37) (av := [_, _]) (rest := [_]) i_MO_taken_34 rfl (e_MO_taken_34) ⟨rfl, rfl⟩ rfl rfl ?_
          rw [am_S_iff]
          refine ⟨by show (0 ≤ r - M 56 1 ∧ r - M 56 1 ≤ 1000000 ∧ 0 < M 57 1 ∧ M 57 1 ≤ 1000000); omega, ?_⟩
          dsimp only [g_MO_times, g_id]
          refine xs_r1 rfl (xs_n rfl ?_)
          refine xs_iadd (q := 38) i_MO_taken_37 rfl (xs_n rfl ?_)
          refine xs_aload_n (q := 39) i_MO_taken_38 rfl rfl (xs_n rfl ?_)
          refine xs_getr (q := 42) i_MO_taken_39 rfl fd_MO_25 sg_50 rfl (xs_n rfl ?_)
          refine xs_iconst (q := 43) i_MO_taken_42 rfl (xs_n rfl ?_)
          refine xs_iaload (q := 44) i_MO_taken_43 rfl sg_56 rfl (by omega) (xs_n rfl ?_)
          refine xs_imul (q := 45) i_MO_taken_44 rfl (xs_n rfl ?_)
          refine xs_iret i_MO_taken_45 ?_
          exact xs_fin (by simp only [f_MO_taken, mo_dem]; rw [if_pos h2, if_pos h13]; rfl) rfl trivial
    · exact h.elim
def P_MO_begins : am_P := fun av M => match av with
  | [.inr (.inl i), .inl t, .inl a] => i = 50 ∧ (0 ≤ t ∧ t < 5) ∧ (0 ≤ a ∧ a ≤ 1000000) ∧ (0 ≤ M 52 t.toNat ∧ M 52 t.toNat ≤ 60) ∧ (1 ≤ M 51 t.toNat ∧ M 51 t.toNat ≤ 60)
  | _ => False
def f_MO_begins : am_Fr := fun av M => match av with
  | [.inr (.inl i), .inl t, .inl a] => some (.inl (if M 52 t.toNat ≤ a ∧ (a - M 52 t.toNat) % M 51 t.toNat = 0 then 1 else 0))
  | _ => none
abbrev g_MO_begins : am_Fm := g_id
theorem m_MO_begins (l : Launch) : am_MF l y_MO_begins w_MO_begins r_MO_begins P_MO_begins f_MO_begins g_MO_begins := by
  refine am_mk0 i_MO_begins_ok fd_MO_ok am_CC0 (plainFor_of_name (by decide +kernel)) (by decide) ?_ 30 ?_
  · intro av M h
    unfold P_MO_begins at h
    split at h
    · exact ⟨Nat.le_of_ble_eq_true rfl, rfl⟩
    · exact h.elim
  · intro av M Z h
    unfold P_MO_begins at h
    split at h
    · rename_i i t a
      obtain ⟨rfl, h1, h2, h3, h4⟩ := h
      have e1 := Int.emod_nonneg (a - M 52 t.toNat) (show M 51 t.toNat ≠ 0 by omega)
      have e2 := Int.emod_lt_of_pos (a - M 52 t.toNat) (show 0 < M 51 t.toNat by omega)
      refine xs_iload_n (q := 1) i_MO_begins_0 rfl rfl (xs_n rfl ?_)
      refine xs_aload_n (q := 2) i_MO_begins_1 rfl rfl (xs_n rfl ?_)
      refine xs_getr (q := 5) i_MO_begins_2 rfl fd_MO_13 sg_50 rfl (xs_n rfl ?_)
      refine xs_iload_n (q := 6) i_MO_begins_5 rfl rfl (xs_n rfl ?_)
      refine xs_iaload (q := 7) i_MO_begins_6 rfl sg_52 rfl (by omega) (xs_n rfl ?_)
      refine xs_ic_lt (q := 32) (r := 10) i_MO_begins_7 rfl rfl ⟨by unfold am_R; omega, by unfold am_R; omega⟩ (fun h7 => (xs_n rfl ?_)) (fun h7 => (xs_n rfl ?_))
      · refine xs_iconst (q := 33) i_MO_begins_32 rfl (xs_n rfl ?_)
        refine xs_iret i_MO_begins_33 ?_
        exact xs_fin (by simp only [f_MO_begins]; rw [if_neg (fun z => by omega)]) rfl (by first | exact Or.inl rfl | exact Or.inr rfl)
      · refine xs_iload_n (q := 11) i_MO_begins_10 rfl rfl (xs_n rfl ?_)
        refine xs_aload_n (q := 12) i_MO_begins_11 rfl rfl (xs_n rfl ?_)
        refine xs_getr (q := 15) i_MO_begins_12 rfl fd_MO_13 sg_50 rfl (xs_n rfl ?_)
        refine xs_iload_n (q := 16) i_MO_begins_15 rfl rfl (xs_n rfl ?_)
        refine xs_iaload (q := 17) i_MO_begins_16 rfl sg_52 rfl (by omega) (xs_n rfl ?_)
        refine xs_isub (q := 18) i_MO_begins_17 rfl (xs_n rfl ?_)
        refine xs_aload_n (q := 19) i_MO_begins_18 rfl rfl (xs_n rfl ?_)
        refine xs_getr (q := 22) i_MO_begins_19 rfl fd_MO_7 sg_50 rfl (xs_n rfl ?_)
        refine xs_iload_n (q := 23) i_MO_begins_22 rfl rfl (xs_n rfl ?_)
        refine xs_iaload (q := 24) i_MO_begins_23 rfl sg_51 rfl (by omega) (xs_n rfl ?_)
        refine xs_irem (q := 25) i_MO_begins_24 rfl (by omega) (xs_n rfl ?_)
        refine xs_if_ne (q := 32) (r := 28) i_MO_begins_25 rfl rfl (by unfold am_R; omega) (fun h25 => (xs_n rfl ?_)) (fun h25 => (xs_n rfl ?_))
        · refine xs_iconst (q := 33) i_MO_begins_32 rfl (xs_n rfl ?_)
          refine xs_iret i_MO_begins_33 ?_
          exact xs_fin (by simp only [f_MO_begins]; rw [if_neg (fun z => h25 z.2)]) rfl (by first | exact Or.inl rfl | exact Or.inr rfl)
        · refine xs_iconst (q := 29) i_MO_begins_28 rfl (xs_n rfl ?_)
          refine xs_goto (q := 33) i_MO_begins_29 rfl (xs_n rfl ?_)
          refine xs_iret i_MO_begins_33 ?_
          exact xs_fin (by simp only [f_MO_begins]; rw [if_pos ⟨h7, h25⟩]) rfl (by first | exact Or.inl rfl | exact Or.inr rfl)
    · exact h.elim
def mo_rk (M : am_M) : Nat := am_fi (fun r => decide (0 < M 64 (M 55 r).toNat)) (M 50 1).toNat 0
def mo_rt (M : am_M) : Int := if (mo_rk M : Int) < M 50 1 then M 55 (mo_rk M) else -1
def P_MO_readyTask : am_P := fun av M => match av with
  | [.inr (.inl i)] => i = 50 ∧ mo_ok M ∧ ∀ j, j < 5 → am_R (M 64 j)
  | _ => False
def f_MO_readyTask : am_Fr := fun av M => match av with
  | [.inr (.inl i)] => some (.inl (mo_rt M))
  | _ => none
abbrev g_MO_readyTask : am_Fm := g_id
def inv_MO_readyTask : List am_V → am_M → Nat → am_K := fun av M μ pc ls st M2 => match av with
  | [.inr (.inl b)] => (pc = 0 ∧ ls = am_l0 [.inr (.inl b)] 2 ∧ st = [] ∧ M = M2 ∧ μ = 100) ∨ ∃ i : Int, pc = 2 ∧ ls = [some (.inr (.inl b)), some (.inl i)] ∧ st = [] ∧ M = M2 ∧ ((0 ≤ i ∧ i ≤ M 50 1) ∧ ∀ j : Nat, (j : Int) < i → ¬ 0 < M 64 (M 55 j).toNat) ∧ μ = (M 50 1 - i).toNat
  | _ => False
theorem m_MO_readyTask (l : Launch) : am_MF l y_MO_readyTask w_MO_readyTask r_MO_readyTask P_MO_readyTask f_MO_readyTask g_MO_readyTask := by
  refine am_mkL (fun pc => pc == 2) i_MO_readyTask_ok fd_MO_ok am_CC0 (plainFor_of_name (by decide +kernel)) (by decide) ?_ 40 inv_MO_readyTask ?_ ?_
  · intro av M h
    unfold P_MO_readyTask at h
    split at h
    · exact ⟨Nat.le_of_ble_eq_true rfl, rfl⟩
    · exact h.elim
  · intro av M h
    unfold P_MO_readyTask at h
    split at h
    · exact ⟨_, Or.inl ⟨rfl, rfl, rfl, rfl, rfl⟩⟩
    · exact h.elim
  · intro av M h μ pc ls st M2 hi
    unfold P_MO_readyTask at h
    split at h
    · rename_i b
      obtain ⟨rfl, ⟨h1, h4⟩, h3⟩ := h
      rcases hi with ⟨rfl, rfl, rfl, rfl, rfl⟩ | ⟨i, rfl, rfl, rfl, rfl, ⟨hi, hn⟩, rfl⟩
      · skip
        refine xs_iconst (q := 1) i_MO_readyTask_0 rfl (xs_n rfl ?_)
        refine xs_istore_n (q := 2) (ls2 := [_, _]) i_MO_readyTask_1 rfl rfl rfl (xs_z rfl ?_)
        exact ⟨(M 50 1).toNat, by omega, Or.inr ⟨0, rfl, rfl, rfl, rfl, ⟨by omega, fun j hj => by omega⟩, by omega⟩⟩
      · skip
        refine xs_iload_n (q := 3) i_MO_readyTask_2 rfl rfl (xs_n rfl ?_)
        refine xs_aload_n (q := 4) i_MO_readyTask_3 rfl rfl (xs_n rfl ?_)
        refine xs_geti (q := 7) i_MO_readyTask_4 rfl fd_MO_96 sg_50 rfl (xs_n rfl ?_)
        refine xs_ic_ge (q := 37) (r := 10) i_MO_readyTask_7 rfl rfl ⟨by unfold am_R; omega, by unfold am_R; omega⟩ (fun h7 => (xs_n rfl ?_)) (fun h7 => (xs_n rfl ?_))
        · refine xs_iconst (q := 38) i_MO_readyTask_37 rfl (xs_n rfl ?_)
          refine xs_iret i_MO_readyTask_38 ?_
          have e9 : mo_rk M = (M 50 1).toNat := am_fi_eq _ _ 0 (M 50 1).toNat (by omega) (by omega) (fun j _ hj => decide_eq_false (hn j (by omega))) (fun z => by omega)
          exact xs_fin (by simp only [f_MO_readyTask, mo_rt]; rw [e9, if_neg (by omega)]) rfl trivial
        · have hq := (h4 i.toNat (by omega)).1
          refine xs_aload_n (q := 11) i_MO_readyTask_10 rfl rfl (xs_n rfl ?_)
          refine xs_getr (q := 14) i_MO_readyTask_11 rfl fd_MO_50 sg_50 rfl (xs_n rfl ?_)
          refine xs_aload_n (q := 15) i_MO_readyTask_14 rfl rfl (xs_n rfl ?_)
          refine xs_getr (q := 18) i_MO_readyTask_15 rfl fd_MO_22 sg_50 rfl (xs_n rfl ?_)
          refine xs_iload_n (q := 19) i_MO_readyTask_18 rfl rfl (xs_n rfl ?_)
          refine xs_iaload (q := 20) i_MO_readyTask_19 rfl sg_55 rfl (by omega) (xs_n rfl ?_)
          refine xs_iaload (q := 21) i_MO_readyTask_20 rfl sg_64 rfl (by omega) (xs_n rfl ?_)
          refine xs_if_le (q := 31) (r := 24) i_MO_readyTask_21 rfl rfl (h3 _ (by omega)) (fun h21 => (xs_n rfl ?_)) (fun h21 => (xs_n rfl ?_))
          · refine xs_iinc (q := 34) (ls2 := [_, _]) i_MO_readyTask_31 rfl rfl rfl (xs_n rfl ?_)
            refine xs_goto (q := 2) i_MO_readyTask_34 rfl (xs_z rfl ?_)
            exact ⟨(M 50 1 - (i + 1)).toNat, by omega, Or.inr ⟨i + 1, rfl, rfl, rfl, rfl, ⟨by omega, am_ls hn (by omega) (by omega)⟩, rfl⟩⟩
          · refine xs_aload_n (q := 25) i_MO_readyTask_24 rfl rfl (xs_n rfl ?_)
            refine xs_getr (q := 28) i_MO_readyTask_25 rfl fd_MO_22 sg_50 rfl (xs_n rfl ?_)
            refine xs_iload_n (q := 29) i_MO_readyTask_28 rfl rfl (xs_n rfl ?_)
            refine xs_iaload (q := 30) i_MO_readyTask_29 rfl sg_55 rfl (by omega) (xs_n rfl ?_)
            refine xs_iret i_MO_readyTask_30 ?_
            have e9 : mo_rk M = i.toNat := am_fi_eq _ _ 0 i.toNat (by omega) (by omega) (fun j _ hj => decide_eq_false (hn j (by omega))) (fun _ => decide_eq_true h21)
            exact xs_fin (by simp only [f_MO_readyTask, mo_rt]; rw [e9, if_pos (by omega)]) rfl trivial
    · exact h.elim
def P_MO_comesIn : am_P := fun av M => match av with
  | [.inr (.inl i)] => i = 50 ∧ (0 ≤ M 50 26 ∧ M 50 26 < 40)
  | _ => False
def f_MO_comesIn : am_Fr := fun av M => match av with
  | [.inr (.inl i)] => none
  | _ => none
def g_MO_comesIn : am_Fm := fun av M => match av with
  | [.inr (.inl i)] => am_up (am_up (am_up M 68 (M 50 26).toNat (M 58 (M 50 26).toNat)) 69 (M 50 26).toNat (-1)) 50 26 (M 50 26 + 1)
  | _ => M
theorem m_MO_comesIn (l : Launch) : am_MF l y_MO_comesIn w_MO_comesIn r_MO_comesIn P_MO_comesIn f_MO_comesIn g_MO_comesIn := by
  refine am_mk0 i_MO_comesIn_ok fd_MO_ok am_CC0 (plainFor_of_name (by decide +kernel)) (by decide) ?_ 30 ?_
  · intro av M h
    unfold P_MO_comesIn at h
    split at h
    · exact ⟨Nat.le_of_ble_eq_true rfl, rfl⟩
    · exact h.elim
  · intro av M Z h
    unfold P_MO_comesIn at h
    split at h
    · rename_i i
      obtain ⟨rfl, h1⟩ := h
      refine xs_aload_n (q := 1) i_MO_comesIn_0 rfl rfl (xs_n rfl ?_)
      refine xs_getr (q := 4) i_MO_comesIn_1 rfl fd_MO_62 sg_50 rfl (xs_n rfl ?_)
      refine xs_aload_n (q := 5) i_MO_comesIn_4 rfl rfl (xs_n rfl ?_)
      refine xs_geti (q := 8) i_MO_comesIn_5 rfl fd_MO_141 sg_50 rfl (xs_n rfl ?_)
      refine xs_aload_n (q := 9) i_MO_comesIn_8 rfl rfl (xs_n rfl ?_)
      refine xs_getr (q := 12) i_MO_comesIn_9 rfl fd_MO_31 sg_50 rfl (xs_n rfl ?_)
      refine xs_aload_n (q := 13) i_MO_comesIn_12 rfl rfl (xs_n rfl ?_)
      refine xs_geti (q := 16) i_MO_comesIn_13 rfl fd_MO_141 sg_50 rfl (xs_n rfl ?_)
      refine xs_iaload (q := 17) i_MO_comesIn_16 rfl sg_58 rfl (by omega) (xs_n rfl ?_)
      refine xs_iastore (q := 18) i_MO_comesIn_17 rfl sg_68 (by omega) (xs_n rfl ?_)
      refine xs_aload_n (q := 19) i_MO_comesIn_18 rfl rfl (xs_n rfl ?_)
      refine xs_getr (q := 22) i_MO_comesIn_19 rfl fd_MO_65 sg_50 rfl (xs_n rfl ?_)
      refine xs_aload_n (q := 23) i_MO_comesIn_22 rfl rfl (xs_n rfl ?_)
      refine xs_geti (q := 26) i_MO_comesIn_23 rfl fd_MO_141 sg_50 rfl (xs_n rfl ?_)
      refine xs_iconst (q := 27) i_MO_comesIn_26 rfl (xs_n rfl ?_)
      refine xs_iastore (q := 28) i_MO_comesIn_27 rfl sg_69 (by simp only [am_up]; omega) (xs_n rfl ?_)
      refine xs_aload_n (q := 29) i_MO_comesIn_28 rfl rfl (xs_n rfl ?_)
      refine xs_dupr (q := 30) i_MO_comesIn_29 rfl (xs_n rfl ?_)
      refine xs_geti (q := 33) i_MO_comesIn_30 rfl fd_MO_141 sg_50 rfl (xs_n rfl ?_)
      refine xs_iconst (q := 34) i_MO_comesIn_33 rfl (xs_n rfl ?_)
      refine xs_iadd (q := 35) i_MO_comesIn_34 rfl (xs_n rfl ?_)
      refine xs_puti (q := 38) i_MO_comesIn_35 rfl fd_MO_141 sg_50 rfl (xs_n rfl ?_)
      refine xs_ret i_MO_comesIn_38 ?_
      exact xs_fin rfl rfl trivial
    · exact h.elim
def P_MO_tell : am_P := fun av M => match av with
  | [.inr (.inl i), .inl t, .inl k] => i = 50 ∧ (0 ≤ t ∧ t < 5) ∧ am_R k ∧ am_R (M 66 t.toNat)
  | _ => False
def f_MO_tell : am_Fr := fun av M => match av with
  | [.inr (.inl i), .inl t, .inl k] => none
  | _ => none
def g_MO_tell : am_Fm := fun av M => match av with
  | [.inr (.inl i), .inl t, .inl k] => am_up M 66 t.toNat (if M 66 t.toNat = 0 ∨ k < M 66 t.toNat then k else M 66 t.toNat)
  | _ => M
theorem m_MO_tell (l : Launch) : am_MF l y_MO_tell w_MO_tell r_MO_tell P_MO_tell f_MO_tell g_MO_tell := by
  refine am_mk0 i_MO_tell_ok fd_MO_ok am_CC0 (plainFor_of_name (by decide +kernel)) (by decide) ?_ 30 ?_
  · intro av M h
    unfold P_MO_tell at h
    split at h
    · exact ⟨Nat.le_of_ble_eq_true rfl, rfl⟩
    · exact h.elim
  · intro av M Z h
    unfold P_MO_tell at h
    split at h
    · rename_i i t k
      obtain ⟨rfl, h1, h2, h3⟩ := h
      refine xs_aload_n (q := 1) i_MO_tell_0 rfl rfl (xs_n rfl ?_)
      refine xs_getr (q := 4) i_MO_tell_1 rfl fd_MO_56 sg_50 rfl (xs_n rfl ?_)
      refine xs_iload_n (q := 5) i_MO_tell_4 rfl rfl (xs_n rfl ?_)
      refine xs_aload_n (q := 6) i_MO_tell_5 rfl rfl (xs_n rfl ?_)
      refine xs_getr (q := 9) i_MO_tell_6 rfl fd_MO_56 sg_50 rfl (xs_n rfl ?_)
      refine xs_iload_n (q := 10) i_MO_tell_9 rfl rfl (xs_n rfl ?_)
      refine xs_iaload (q := 11) i_MO_tell_10 rfl sg_66 rfl (by omega) (xs_n rfl ?_)
      refine xs_if_eq (q := 24) (r := 14) i_MO_tell_11 rfl rfl h3 (fun h11 => (xs_n rfl ?_)) (fun h11 => (xs_n rfl ?_))
      · refine xs_iload_n (q := 25) i_MO_tell_24 rfl rfl (xs_n rfl ?_)
        refine xs_goto (q := 34) i_MO_tell_25 rfl (xs_n rfl ?_)
        refine xs_iastore (q := 35) i_MO_tell_34 rfl sg_66 (by omega) (xs_n rfl ?_)
        refine xs_ret i_MO_tell_35 ?_
        exact xs_fin rfl (by simp only [g_MO_tell]; rw [if_pos (Or.inl h11)]) trivial
      · refine xs_iload_n (q := 15) i_MO_tell_14 rfl rfl (xs_n rfl ?_)
        refine xs_aload_n (q := 16) i_MO_tell_15 rfl rfl (xs_n rfl ?_)
        refine xs_getr (q := 19) i_MO_tell_16 rfl fd_MO_56 sg_50 rfl (xs_n rfl ?_)
        refine xs_iload_n (q := 20) i_MO_tell_19 rfl rfl (xs_n rfl ?_)
        refine xs_iaload (q := 21) i_MO_tell_20 rfl sg_66 rfl (by omega) (xs_n rfl ?_)
        refine xs_ic_ge (q := 28) (r := 24) i_MO_tell_21 rfl rfl ⟨h2, h3⟩ (fun h21 => (xs_n rfl ?_)) (fun h21 => (xs_n rfl ?_))
        · refine xs_aload_n (q := 29) i_MO_tell_28 rfl rfl (xs_n rfl ?_)
          refine xs_getr (q := 32) i_MO_tell_29 rfl fd_MO_56 sg_50 rfl (xs_n rfl ?_)
          refine xs_iload_n (q := 33) i_MO_tell_32 rfl rfl (xs_n rfl ?_)
          refine xs_iaload (q := 34) i_MO_tell_33 rfl sg_66 rfl (by omega) (xs_n rfl ?_)
          refine xs_iastore (q := 35) i_MO_tell_34 rfl sg_66 (by omega) (xs_n rfl ?_)
          refine xs_ret i_MO_tell_35 ?_
          exact xs_fin rfl (by simp only [g_MO_tell]; rw [if_neg (fun z => z.elim h11 (by omega))]) trivial
        · refine xs_iload_n (q := 25) i_MO_tell_24 rfl rfl (xs_n rfl ?_)
          refine xs_goto (q := 34) i_MO_tell_25 rfl (xs_n rfl ?_)
          refine xs_iastore (q := 35) i_MO_tell_34 rfl sg_66 (by omega) (xs_n rfl ?_)
          refine xs_ret i_MO_tell_35 ?_
          exact xs_fin rfl (by simp only [g_MO_tell]; rw [if_pos (Or.inr h21)]) trivial
    · exact h.elim
def P_MO_arrive : am_P := fun av M => match av with
  | [.inr (.inl i), .inl c, .inl z] => i = 50 ∧ (0 ≤ M 50 11 ∧ M 50 11 < 40) ∧ (z = 0 ∨ z = 1) ∧ M 50 26 = M 50 11
  | _ => False
def f_MO_arrive : am_Fr := fun av M => match av with
  | [.inr (.inl i), .inl c, .inl z] => some (.inl (M 50 11))
  | _ => none
def g_MO_arrive : am_Fm := fun av M => match av with
  | [.inr (.inl i), .inl c, .inl z] => am_up (g_MO_comesIn [.inr (.inl 50)] (am_up (am_up (am_up M 58 (M 50 11).toNat c) 59 (M 50 11).toNat (M 50 19)) 60 (M 50 11).toNat z)) 50 11 (M 50 11 + 1)
  | _ => M
def ct_MO_arrive : am_T := fun pc => if pc = 34 then some (1, am_ctV vw_S 11 P_MO_comesIn (am_po f_MO_comesIn g_MO_comesIn)) else none
theorem e_MO_arrive_34 : ct_MO_arrive 34 = some (1, am_ctV vw_S 11 P_MO_comesIn (am_po f_MO_comesIn g_MO_comesIn)) := rfl
theorem ct_MO_arrive_ok (l : Launch) : am_CC b_MO_arrive 3 w_MO_arrive y_MO_arrive.cls l r_MO_arrive ct_MO_arrive := by
  intro p e s m args below meth c H0 A D G ad Q S hK hN hA pc q ct h
  have hts := S.2.2.2.2
  unfold ct_MO_arrive at h
  split at h
  · rename_i hpc
    subst hpc; cases h
    exact am_callV S vw_N_ok hK hN hA ⟨Nat.zero_le _, Nat.zero_le _⟩ (m_MO_comesIn l) (s_MO_188 hts am_vW hN ⟨by decide, by decide⟩) (by rfl) d_MO_arrive_34
  cases h
theorem m_MO_arrive (l : Launch) : am_MF l y_MO_arrive w_MO_arrive r_MO_arrive P_MO_arrive f_MO_arrive g_MO_arrive := by
  refine am_mk0 i_MO_arrive_ok fd_MO_ok (ct_MO_arrive_ok l) (plainFor_of_name (by decide +kernel)) (by decide) ?_ 40 ?_
  · intro av M h
    unfold P_MO_arrive at h
    split at h
    · exact ⟨Nat.le_of_ble_eq_true rfl, rfl⟩
    · exact h.elim
  · intro av M Z h
    unfold P_MO_arrive at h
    split at h
    · rename_i i c z
      obtain ⟨rfl, h1, h2, h3⟩ := h
      refine xs_aload_n (q := 1) i_MO_arrive_0 rfl rfl (xs_n rfl ?_)
      refine xs_getr (q := 4) i_MO_arrive_1 rfl fd_MO_31 sg_50 rfl (xs_n rfl ?_)
      refine xs_aload_n (q := 5) i_MO_arrive_4 rfl rfl (xs_n rfl ?_)
      refine xs_geti (q := 8) i_MO_arrive_5 rfl fd_MO_185 sg_50 rfl (xs_n rfl ?_)
      refine xs_iload_n (q := 9) i_MO_arrive_8 rfl rfl (xs_n rfl ?_)
      refine xs_iastore (q := 10) i_MO_arrive_9 rfl sg_58 (by omega) (xs_n rfl ?_)
      refine xs_aload_n (q := 11) i_MO_arrive_10 rfl rfl (xs_n rfl ?_)
      refine xs_getr (q := 14) i_MO_arrive_11 rfl fd_MO_34 sg_50 rfl (xs_n rfl ?_)
      refine xs_aload_n (q := 15) i_MO_arrive_14 rfl rfl (xs_n rfl ?_)
      refine xs_geti (q := 18) i_MO_arrive_15 rfl fd_MO_185 sg_50 rfl (xs_n rfl ?_)
      refine xs_aload_n (q := 19) i_MO_arrive_18 rfl rfl (xs_n rfl ?_)
      refine xs_geti (q := 22) i_MO_arrive_19 rfl fd_MO_132 sg_50 rfl (xs_n rfl ?_)
      refine xs_iastore (q := 23) i_MO_arrive_22 rfl sg_59 (by simp only [am_up]; omega) (xs_n rfl ?_)
      refine xs_aload_n (q := 24) i_MO_arrive_23 rfl rfl (xs_n rfl ?_)
      refine xs_getr (q := 27) i_MO_arrive_24 rfl fd_MO_37 sg_50 rfl (xs_n rfl ?_)
      refine xs_aload_n (q := 28) i_MO_arrive_27 rfl rfl (xs_n rfl ?_)
      refine xs_geti (q := 31) i_MO_arrive_28 rfl fd_MO_185 sg_50 rfl (xs_n rfl ?_)
      refine xs_iload_n (q := 32) i_MO_arrive_31 rfl rfl (xs_n rfl ?_)
      refine xs_bastore (q := 33) i_MO_arrive_32 rfl sg_60 (h2) (by simp only [am_up]; omega) (xs_n rfl ?_)
      refine xs_aload_n (q := 34) i_MO_arrive_33 rfl rfl (xs_n rfl ?_)
      refine xs_cv (q := 37) (av := [_]) (rest := []) i_MO_arrive_34 rfl (e_MO_arrive_34) ⟨rfl, rfl⟩ rfl rfl ?_
      rw [am_V_iff]
      refine ⟨⟨_, sg_50⟩, ⟨rfl, by simp [am_up]; omega⟩, ?_⟩
      refine xs_r0 rfl (xs_n rfl ?_)
      refine xs_aload_n (q := 38) i_MO_arrive_37 rfl rfl (xs_n rfl ?_)
      refine xs_dupr (q := 39) i_MO_arrive_38 rfl (xs_n rfl ?_)
      refine xs_geti (q := 42) i_MO_arrive_39 rfl fd_MO_185 sg_50 rfl (xs_n rfl ?_)
      refine xs_iconst (q := 43) i_MO_arrive_42 rfl (xs_n rfl ?_)
      refine xs_iadd (q := 44) i_MO_arrive_43 rfl (xs_n rfl ?_)
      refine xs_puti (q := 47) i_MO_arrive_44 rfl fd_MO_185 sg_50 rfl (xs_n rfl ?_)
      refine xs_aload_n (q := 48) i_MO_arrive_47 rfl rfl (xs_n rfl ?_)
      refine xs_geti (q := 51) i_MO_arrive_48 rfl fd_MO_185 sg_50 rfl (xs_n rfl ?_)
      refine xs_iconst (q := 52) i_MO_arrive_51 rfl (xs_n rfl ?_)
      refine xs_isub (q := 53) i_MO_arrive_52 rfl (xs_n rfl ?_)
      refine xs_iret i_MO_arrive_53 ?_
      refine xs_fin (by simp [f_MO_arrive, g_MO_comesIn, am_up]) (by simp [g_MO_arrive, g_MO_comesIn, am_up]) trivial
    · exact h.elim
def P_MO_queued : am_P := fun av M => match av with
  | [.inr (.inl i)] => i = 50 ∧ (0 ≤ M 50 26 ∧ M 50 26 ≤ 40) ∧ ∀ j, j < 40 → am_R (M 68 j)
  | _ => False
def f_MO_queued : am_Fr := fun av M => match av with
  | [.inr (.inl i)] => some (.inl (ma_su (fun j => if 0 < M 68 j then 1 else 0) (M 50 26).toNat))
  | _ => none
abbrev g_MO_queued : am_Fm := g_id
def inv_MO_queued : List am_V → am_M → Nat → am_K := fun av M μ pc ls st M2 => match av with
  | [.inr (.inl b)] => (pc = 0 ∧ ls = am_l0 [.inr (.inl b)] 3 ∧ st = [] ∧ M = M2 ∧ μ = 100) ∨ ∃ i x : Int, pc = 4 ∧ ls = [some (.inr (.inl b)), some (.inl x), some (.inl i)] ∧ st = [] ∧ M = M2 ∧ ((0 ≤ i ∧ i ≤ M 50 26) ∧ x = ma_su (fun j => if 0 < M 68 j then 1 else 0) i.toNat) ∧ μ = (M 50 26 - i).toNat
  | _ => False
theorem m_MO_queued (l : Launch) : am_MF l y_MO_queued w_MO_queued r_MO_queued P_MO_queued f_MO_queued g_MO_queued := by
  refine am_mkL (fun pc => pc == 4) i_MO_queued_ok fd_MO_ok am_CC0 (plainFor_of_name (by decide +kernel)) (by decide) ?_ 40 inv_MO_queued ?_ ?_
  · intro av M h
    unfold P_MO_queued at h
    split at h
    · exact ⟨Nat.le_of_ble_eq_true rfl, rfl⟩
    · exact h.elim
  · intro av M h
    unfold P_MO_queued at h
    split at h
    · exact ⟨_, Or.inl ⟨rfl, rfl, rfl, rfl, rfl⟩⟩
    · exact h.elim
  · intro av M h μ pc ls st M2 hi
    unfold P_MO_queued at h
    split at h
    · rename_i b
      obtain ⟨rfl, h1, h2⟩ := h
      rcases hi with ⟨rfl, rfl, rfl, rfl, rfl⟩ | ⟨i, x, rfl, rfl, rfl, rfl, ⟨hi, hx⟩, rfl⟩
      · skip
        refine xs_iconst (q := 1) i_MO_queued_0 rfl (xs_n rfl ?_)
        refine xs_istore_n (q := 2) (ls2 := [_, _, _]) i_MO_queued_1 rfl rfl rfl (xs_n rfl ?_)
        refine xs_iconst (q := 3) i_MO_queued_2 rfl (xs_n rfl ?_)
        refine xs_istore_n (q := 4) (ls2 := [_, _, _]) i_MO_queued_3 rfl rfl rfl (xs_z rfl ?_)
        exact ⟨(M 50 26).toNat, by omega, Or.inr ⟨0, 0, rfl, rfl, rfl, rfl, ⟨by omega, rfl⟩, by omega⟩⟩
      · skip
        refine xs_iload_n (q := 5) i_MO_queued_4 rfl rfl (xs_n rfl ?_)
        refine xs_aload_n (q := 6) i_MO_queued_5 rfl rfl (xs_n rfl ?_)
        refine xs_geti (q := 9) i_MO_queued_6 rfl fd_MO_141 sg_50 rfl (xs_n rfl ?_)
        refine xs_ic_ge (q := 35) (r := 12) i_MO_queued_9 rfl rfl ⟨by unfold am_R; omega, by unfold am_R; omega⟩ (fun h9 => (xs_n rfl ?_)) (fun h9 => (xs_n rfl ?_))
        · refine xs_iload_n (q := 36) i_MO_queued_35 rfl rfl (xs_n rfl ?_)
          refine xs_iret i_MO_queued_36 ?_
          obtain rfl : i = M 50 26 := by omega
          exact xs_fin (by simp only [f_MO_queued]; rw [hx]) rfl trivial
        · refine xs_iload_n (q := 13) i_MO_queued_12 rfl rfl (xs_n rfl ?_)
          refine xs_aload_n (q := 14) i_MO_queued_13 rfl rfl (xs_n rfl ?_)
          refine xs_getr (q := 17) i_MO_queued_14 rfl fd_MO_62 sg_50 rfl (xs_n rfl ?_)
          refine xs_iload_n (q := 18) i_MO_queued_17 rfl rfl (xs_n rfl ?_)
          refine xs_iaload (q := 19) i_MO_queued_18 rfl sg_68 rfl (by omega) (xs_n rfl ?_)
          refine xs_if_le (q := 26) (r := 22) i_MO_queued_19 rfl rfl (h2 _ (by omega)) (fun h19 => (xs_n rfl ?_)) (fun h19 => (xs_n rfl ?_))
          · refine xs_iconst (q := 27) i_MO_queued_26 rfl (xs_n rfl ?_)
            refine xs_iadd (q := 28) i_MO_queued_27 rfl (xs_n rfl ?_)
            refine xs_istore_n (q := 29) (ls2 := [_, _, _]) i_MO_queued_28 rfl rfl rfl (xs_n rfl ?_)
            refine xs_iinc (q := 32) (ls2 := [_, _, _]) i_MO_queued_29 rfl rfl rfl (xs_n rfl ?_)
            refine xs_goto (q := 4) i_MO_queued_32 rfl (xs_z rfl ?_)
            exact ⟨(M 50 26 - (i + 1)).toNat, by omega, Or.inr ⟨i + 1, _, rfl, rfl, rfl, rfl, ⟨by omega, by rw [hx, show (i + 1).toNat = i.toNat + 1 by omega]; simp only [ma_su]; rw [if_neg (by omega)]⟩, rfl⟩⟩
          · refine xs_iconst (q := 23) i_MO_queued_22 rfl (xs_n rfl ?_)
            refine xs_goto (q := 27) i_MO_queued_23 rfl (xs_n rfl ?_)
            refine xs_iadd (q := 28) i_MO_queued_27 rfl (xs_n rfl ?_)
            refine xs_istore_n (q := 29) (ls2 := [_, _, _]) i_MO_queued_28 rfl rfl rfl (xs_n rfl ?_)
            refine xs_iinc (q := 32) (ls2 := [_, _, _]) i_MO_queued_29 rfl rfl rfl (xs_n rfl ?_)
            refine xs_goto (q := 4) i_MO_queued_32 rfl (xs_z rfl ?_)
            exact ⟨(M 50 26 - (i + 1)).toNat, by omega, Or.inr ⟨i + 1, _, rfl, rfl, rfl, rfl, ⟨by omega, by rw [hx, show (i + 1).toNat = i.toNat + 1 by omega]; simp only [ma_su]; rw [if_pos h19]⟩, rfl⟩⟩
    · exact h.elim
