/-! contracts: the small static ones (wip/whole/p20.py) -/
abbrev g_id : am_Fm := fun _ M => M
def P_SD_isWithin : am_P := fun av _ => match av with
  | [.inl a, .inl b, .inl c] => am_R a ∧ am_R b ∧ am_R c
  | _ => False
def f_SD_isWithin : am_Fr := fun av _ => match av with
  | [.inl a, .inl b, .inl c] => some (.inl (if b ≤ a ∧ a ≤ c then 1 else 0))
  | _ => none
abbrev g_SD_isWithin : am_Fm := g_id
abbrev P_MO_in : am_P := P_SD_isWithin
abbrev f_MO_in : am_Fr := f_SD_isWithin
abbrev g_MO_in : am_Fm := g_id
theorem m_SD_isWithin (l : Launch) : am_MF l y_SD_isWithin w_SD_isWithin r_SD_isWithin P_SD_isWithin f_SD_isWithin g_SD_isWithin := by
  refine am_mk0 i_SD_isWithin_ok fd_SD_ok am_CC0 (by decide +kernel) (by decide) ?_ 12 ?_
  · intro av M h
    unfold P_SD_isWithin at h
    split at h
    · exact ⟨Nat.le_of_ble_eq_true rfl, rfl⟩
    · exact h.elim
  · intro av M Z h
    unfold P_SD_isWithin at h
    split at h
    · rename_i a b c
      obtain ⟨ha, hb, hc⟩ := h
      refine xs_iload_n (q := 1) i_SD_isWithin_0 rfl rfl (xs_n rfl ?_)
      refine xs_iload_n (q := 2) i_SD_isWithin_1 rfl rfl (xs_n rfl ?_)
      refine xs_ic_lt (q := 14) (r := 5) i_SD_isWithin_2 rfl rfl ⟨ha, hb⟩ (fun h2 => (xs_n rfl ?_)) (fun h2 => (xs_n rfl ?_))
      · refine xs_iconst (q := 15) i_SD_isWithin_14 rfl (xs_n rfl ?_)
        refine xs_iret i_SD_isWithin_15 ?_
        exact xs_fin (by simp only [f_SD_isWithin]; (first | rfl | (rw [if_pos (by omega)]) | (rw [if_neg (by omega)]))) rfl (by first | exact Or.inl rfl | exact Or.inr rfl)
      · refine xs_iload_n (q := 6) i_SD_isWithin_5 rfl rfl (xs_n rfl ?_)
        refine xs_iload_n (q := 7) i_SD_isWithin_6 rfl rfl (xs_n rfl ?_)
        refine xs_ic_gt (q := 14) (r := 10) i_SD_isWithin_7 rfl rfl ⟨ha, hc⟩ (fun h7 => (xs_n rfl ?_)) (fun h7 => (xs_n rfl ?_))
        · refine xs_iconst (q := 15) i_SD_isWithin_14 rfl (xs_n rfl ?_)
          refine xs_iret i_SD_isWithin_15 ?_
          exact xs_fin (by simp only [f_SD_isWithin]; (first | rfl | (rw [if_pos (by omega)]) | (rw [if_neg (by omega)]))) rfl (by first | exact Or.inl rfl | exact Or.inr rfl)
        · refine xs_iconst (q := 11) i_SD_isWithin_10 rfl (xs_n rfl ?_)
          refine xs_goto (q := 15) i_SD_isWithin_11 rfl (xs_n rfl ?_)
          refine xs_iret i_SD_isWithin_15 ?_
          exact xs_fin (by simp only [f_SD_isWithin]; (first | rfl | (rw [if_pos (by omega)]) | (rw [if_neg (by omega)]))) rfl (by first | exact Or.inl rfl | exact Or.inr rfl)
    · exact h.elim
theorem m_MO_in (l : Launch) : am_MF l y_MO_in w_MO_in r_MO_in P_MO_in f_MO_in g_MO_in := by
  refine am_mk0 i_MO_in_ok fd_MO_ok am_CC0 (by decide +kernel) (by decide) ?_ 12 ?_
  · intro av M h
    unfold P_MO_in P_SD_isWithin at h
    split at h
    · exact ⟨Nat.le_of_ble_eq_true rfl, rfl⟩
    · exact h.elim
  · intro av M Z h
    unfold P_MO_in P_SD_isWithin at h
    split at h
    · rename_i a b c
      obtain ⟨ha, hb, hc⟩ := h
      refine xs_iload_n (q := 1) i_MO_in_0 rfl rfl (xs_n rfl ?_)
      refine xs_iload_n (q := 2) i_MO_in_1 rfl rfl (xs_n rfl ?_)
      refine xs_ic_lt (q := 14) (r := 5) i_MO_in_2 rfl rfl ⟨ha, hb⟩ (fun h2 => (xs_n rfl ?_)) (fun h2 => (xs_n rfl ?_))
      · refine xs_iconst (q := 15) i_MO_in_14 rfl (xs_n rfl ?_)
        refine xs_iret i_MO_in_15 ?_
        exact xs_fin (by simp only [f_SD_isWithin]; (first | rfl | (rw [if_pos (by omega)]) | (rw [if_neg (by omega)]))) rfl (by first | exact Or.inl rfl | exact Or.inr rfl)
      · refine xs_iload_n (q := 6) i_MO_in_5 rfl rfl (xs_n rfl ?_)
        refine xs_iload_n (q := 7) i_MO_in_6 rfl rfl (xs_n rfl ?_)
        refine xs_ic_gt (q := 14) (r := 10) i_MO_in_7 rfl rfl ⟨ha, hc⟩ (fun h7 => (xs_n rfl ?_)) (fun h7 => (xs_n rfl ?_))
        · refine xs_iconst (q := 15) i_MO_in_14 rfl (xs_n rfl ?_)
          refine xs_iret i_MO_in_15 ?_
          exact xs_fin (by simp only [f_SD_isWithin]; (first | rfl | (rw [if_pos (by omega)]) | (rw [if_neg (by omega)]))) rfl (by first | exact Or.inl rfl | exact Or.inr rfl)
        · refine xs_iconst (q := 11) i_MO_in_10 rfl (xs_n rfl ?_)
          refine xs_goto (q := 15) i_MO_in_11 rfl (xs_n rfl ?_)
          refine xs_iret i_MO_in_15 ?_
          exact xs_fin (by simp only [f_SD_isWithin]; (first | rfl | (rw [if_pos (by omega)]) | (rw [if_neg (by omega)]))) rfl (by first | exact Or.inl rfl | exact Or.inr rfl)
    · exact h.elim
def P_SD_roundedUp : am_P := fun av _ => match av with
  | [.inl a, .inl d] => 0 ≤ a ∧ a ≤ 1000000 ∧ 0 < d ∧ d ≤ 1000000
  | _ => False
def f_SD_roundedUp : am_Fr := fun av _ => match av with
  | [.inl a, .inl d] => some (.inl (ma_ru a d))
  | _ => none
abbrev g_SD_roundedUp : am_Fm := g_id
abbrev P_MO_times : am_P := P_SD_roundedUp
abbrev f_MO_times : am_Fr := f_SD_roundedUp
abbrev g_MO_times : am_Fm := g_id
theorem m_SD_roundedUp (l : Launch) : am_MF l y_SD_roundedUp w_SD_roundedUp r_SD_roundedUp P_SD_roundedUp f_SD_roundedUp g_SD_roundedUp := by
  refine am_mk0 i_SD_roundedUp_ok fd_SD_ok am_CC0 (by decide +kernel) (by decide) ?_ 14 ?_
  · intro av M h
    unfold P_SD_roundedUp at h
    split at h
    · exact ⟨Nat.le_of_ble_eq_true rfl, rfl⟩
    · exact h.elim
  · intro av M Z h
    unfold P_SD_roundedUp at h
    split at h
    · rename_i a d
      refine xs_iload_n (q := 1) i_SD_roundedUp_0 rfl rfl (xs_n rfl ?_)
      refine xs_if_le (q := 14) (r := 4) i_SD_roundedUp_1 rfl rfl (by unfold am_R; omega) (fun h1 => (xs_n rfl ?_)) (fun h1 => (xs_n rfl ?_))
      · refine xs_iconst (q := 15) i_SD_roundedUp_14 rfl (xs_n rfl ?_)
        refine xs_iret i_SD_roundedUp_15 ?_
        omega
      · refine xs_iload_n (q := 5) i_SD_roundedUp_4 rfl rfl (xs_n rfl ?_)
        refine xs_iload_n (q := 6) i_SD_roundedUp_5 rfl rfl (xs_n rfl ?_)
        refine xs_iadd (q := 7) i_SD_roundedUp_6 rfl (xs_n rfl ?_)
        refine xs_iconst (q := 8) i_SD_roundedUp_7 rfl (xs_n rfl ?_)
        refine xs_isub (q := 9) i_SD_roundedUp_8 rfl (xs_n rfl ?_)
        refine xs_iload_n (q := 10) i_SD_roundedUp_9 rfl rfl (xs_n rfl ?_)
        refine xs_idiv (q := 11) i_SD_roundedUp_10 rfl (by omega) (xs_n rfl ?_)
        refine xs_goto (q := 15) i_SD_roundedUp_11 rfl (xs_n rfl ?_)
        refine xs_iret i_SD_roundedUp_15 ?_
        exact xs_fin rfl rfl trivial
    · exact h.elim
theorem m_MO_times (l : Launch) : am_MF l y_MO_times w_MO_times r_MO_times P_MO_times f_MO_times g_MO_times := by
  refine am_mk0 i_MO_times_ok fd_MO_ok am_CC0 (by decide +kernel) (by decide) ?_ 14 ?_
  · intro av M h
    unfold P_MO_times P_SD_roundedUp at h
    split at h
    · exact ⟨Nat.le_of_ble_eq_true rfl, rfl⟩
    · exact h.elim
  · intro av M Z h
    unfold P_MO_times P_SD_roundedUp at h
    split at h
    · rename_i a d
      refine xs_iload_n (q := 1) i_MO_times_0 rfl rfl (xs_n rfl ?_)
      refine xs_iload_n (q := 2) i_MO_times_1 rfl rfl (xs_n rfl ?_)
      refine xs_iadd (q := 3) i_MO_times_2 rfl (xs_n rfl ?_)
      refine xs_iconst (q := 4) i_MO_times_3 rfl (xs_n rfl ?_)
      refine xs_isub (q := 5) i_MO_times_4 rfl (xs_n rfl ?_)
      refine xs_iload_n (q := 6) i_MO_times_5 rfl rfl (xs_n rfl ?_)
      refine xs_idiv (q := 7) i_MO_times_6 rfl (by omega) (xs_n rfl ?_)
      refine xs_iret i_MO_times_7 ?_
      exact xs_fin rfl rfl trivial
    · exact h.elim
def P_SD_isKind : am_P := fun av _ => match av with
  | [.inl a] => am_R a
  | _ => False
def f_SD_isKind : am_Fr := fun av _ => match av with
  | [.inl a] => some (.inl (if 0 ≤ a ∧ a ≤ 3 then 1 else 0))
  | _ => none
abbrev g_SD_isKind : am_Fm := g_id
def ct_SD_isKind : am_T := fun pc => if pc = 3 then some (3, am_ctS P_SD_isWithin (am_po f_SD_isWithin g_SD_isWithin)) else none
theorem e_SD_isKind_3 : ct_SD_isKind 3 = some (3, am_ctS P_SD_isWithin (am_po f_SD_isWithin g_SD_isWithin)) := rfl
theorem ct_SD_isKind_ok (l : Launch) : am_CC b_SD_isKind 1 w_SD_isKind y_SD_isKind.cls l r_SD_isKind ct_SD_isKind := by
  intro p e s m args below meth c H0 A D G ad Q S hK hN hA pc q ct h
  have hts := S.2.2.2.2
  unfold ct_SD_isKind at h
  split at h
  · rename_i hpc
    subst hpc; cases h
    exact am_callS S vw_N_ok hK hN hA ⟨Nat.zero_le _, Nat.zero_le _⟩ (m_SD_isWithin l) (s_SD_76 hts am_vW hN ⟨by decide, by decide⟩) d_SD_isKind_3
  cases h
theorem m_SD_isKind (l : Launch) : am_MF l y_SD_isKind w_SD_isKind r_SD_isKind P_SD_isKind f_SD_isKind g_SD_isKind := by
  refine am_mk0 i_SD_isKind_ok fd_SD_ok (ct_SD_isKind_ok l) (by decide +kernel) (by decide) ?_ 8 ?_
  · intro av M h
    unfold P_SD_isKind at h
    split at h
    · exact ⟨Nat.le_of_ble_eq_true rfl, rfl⟩
    · exact h.elim
  · intro av M Z h
    unfold P_SD_isKind at h
    split at h
    · rename_i a
      refine xs_iload_n (q := 1) i_SD_isKind_0 rfl rfl (xs_n rfl ?_)
      refine xs_iconst (q := 2) i_SD_isKind_1 rfl (xs_n rfl ?_)
      refine xs_iconst (q := 3) i_SD_isKind_2 rfl (xs_n rfl ?_)
      refine xs_cs (q := 6) i_SD_isKind_3 rfl (e_SD_isKind_3) ⟨rfl, rfl⟩ rfl rfl ?_
      rw [am_S_iff]
      refine ⟨⟨h, by unfold am_R; omega, by unfold am_R; omega⟩, ?_⟩
      refine xs_r1 rfl (xs_n rfl ?_)
      refine xs_iret i_SD_isKind_6 ?_
      exact xs_fin rfl rfl (by show (_ ∨ _); by_cases h9 : 0 ≤ a ∧ a ≤ 3 <;> simp [h9])
    · exact h.elim
def P_RB_hasBudget : am_P := fun av _ => match av with
  | [.inl a] => am_R a
  | _ => False
def f_RB_hasBudget : am_Fr := fun av _ => match av with
  | [.inl a] => some (.inl (if a = 1 ∨ a = 2 then 1 else 0))
  | _ => none
abbrev g_RB_hasBudget : am_Fm := g_id
theorem m_RB_hasBudget (l : Launch) : am_MF l y_RB_hasBudget w_RB_hasBudget r_RB_hasBudget P_RB_hasBudget f_RB_hasBudget g_RB_hasBudget := by
  refine am_mk0 i_RB_hasBudget_ok fd_RB_ok am_CC0 (by decide +kernel) (by decide) ?_ 14 ?_
  · intro av M h
    unfold P_RB_hasBudget at h
    split at h
    · exact ⟨Nat.le_of_ble_eq_true rfl, rfl⟩
    · exact h.elim
  · intro av M Z h
    unfold P_RB_hasBudget at h
    split at h
    · rename_i a
      refine xs_iload_n (q := 1) i_RB_hasBudget_0 rfl rfl (xs_n rfl ?_)
      refine xs_iconst (q := 2) i_RB_hasBudget_1 rfl (xs_n rfl ?_)
      refine xs_ic_eq (q := 10) (r := 5) i_RB_hasBudget_2 rfl rfl ⟨h, by unfold am_R; omega⟩ (fun h2 => (xs_n rfl ?_)) (fun h2 => (xs_n rfl ?_))
      · refine xs_iconst (q := 11) i_RB_hasBudget_10 rfl (xs_n rfl ?_)
        refine xs_goto (q := 15) i_RB_hasBudget_11 rfl (xs_n rfl ?_)
        refine xs_iret i_RB_hasBudget_15 ?_
        exact xs_fin (by simp only [f_RB_hasBudget]; (first | rfl | (rw [if_pos (by omega)]) | (rw [if_neg (by omega)]))) rfl (by first | exact Or.inl rfl | exact Or.inr rfl)
      · refine xs_iload_n (q := 6) i_RB_hasBudget_5 rfl rfl (xs_n rfl ?_)
        refine xs_iconst (q := 7) i_RB_hasBudget_6 rfl (xs_n rfl ?_)
        refine xs_ic_ne (q := 14) (r := 10) i_RB_hasBudget_7 rfl rfl ⟨h, by unfold am_R; omega⟩ (fun h7 => (xs_n rfl ?_)) (fun h7 => (xs_n rfl ?_))
        · refine xs_iconst (q := 15) i_RB_hasBudget_14 rfl (xs_n rfl ?_)
          refine xs_iret i_RB_hasBudget_15 ?_
          exact xs_fin (by simp only [f_RB_hasBudget]; (first | rfl | (rw [if_pos (by omega)]) | (rw [if_neg (by omega)]))) rfl (by first | exact Or.inl rfl | exact Or.inr rfl)
        · refine xs_iconst (q := 11) i_RB_hasBudget_10 rfl (xs_n rfl ?_)
          refine xs_goto (q := 15) i_RB_hasBudget_11 rfl (xs_n rfl ?_)
          refine xs_iret i_RB_hasBudget_15 ?_
          exact xs_fin (by simp only [f_RB_hasBudget]; (first | rfl | (rw [if_pos (by omega)]) | (rw [if_neg (by omega)]))) rfl (by first | exact Or.inl rfl | exact Or.inr rfl)
    · exact h.elim
def P_RB_mayHave : am_P := fun av _ => match av with
  | [.inl a, .inl b, .inl c] => am_R a ∧ am_R b ∧ am_R c
  | _ => False
def f_RB_mayHave : am_Fr := fun av _ => match av with
  | [.inl a, .inl b, .inl c] => some (.inl (if (a = 1 ∨ a = 2) → ((1 ≤ c ∧ c ≤ 60) ∧ (1 ≤ b ∧ b ≤ c)) then 1 else 0))
  | _ => none
abbrev g_RB_mayHave : am_Fm := g_id
theorem am_ite {p : Prop} [Decidable p] : am_R (if p then 1 else 0) := by by_cases h : p <;> simp [h, am_R]
theorem am_ite0 {p : Prop} [Decidable p] (h : (if p then (1 : Int) else 0) = 0) : ¬ p := by
  intro hp
  rw [if_pos hp] at h
  omega
theorem am_ite1 {p : Prop} [Decidable p] (h : ¬ (if p then (1 : Int) else 0) = 0) : p := by
  by_cases hp : p
  · exact hp
  · rw [if_neg hp] at h
    exact absurd rfl h
def ct_RB_mayHave : am_T := fun pc => if pc = 1 then some (1, am_ctS P_RB_hasBudget (am_po f_RB_hasBudget g_RB_hasBudget)) else if pc = 11 then some (3, am_ctS P_SD_isWithin (am_po f_SD_isWithin g_SD_isWithin)) else if pc = 20 then some (3, am_ctS P_SD_isWithin (am_po f_SD_isWithin g_SD_isWithin)) else none
theorem e_RB_mayHave_1 : ct_RB_mayHave 1 = some (1, am_ctS P_RB_hasBudget (am_po f_RB_hasBudget g_RB_hasBudget)) := rfl
theorem e_RB_mayHave_11 : ct_RB_mayHave 11 = some (3, am_ctS P_SD_isWithin (am_po f_SD_isWithin g_SD_isWithin)) := rfl
theorem e_RB_mayHave_20 : ct_RB_mayHave 20 = some (3, am_ctS P_SD_isWithin (am_po f_SD_isWithin g_SD_isWithin)) := rfl
theorem ct_RB_mayHave_ok (l : Launch) : am_CC b_RB_mayHave 3 w_RB_mayHave y_RB_mayHave.cls l r_RB_mayHave ct_RB_mayHave := by
  intro p e s m args below meth c H0 A D G ad Q S hK hN hA pc q ct h
  have hts := S.2.2.2.2
  unfold ct_RB_mayHave at h
  split at h
  · rename_i hpc
    subst hpc; cases h
    exact am_callS S vw_N_ok hK hN hA ⟨Nat.zero_le _, Nat.zero_le _⟩ (m_RB_hasBudget l) (s_RB_31 hts am_vW hN ⟨by decide, by decide⟩) d_RB_mayHave_1
  split at h
  · rename_i hpc
    subst hpc; cases h
    exact am_callS S vw_N_ok hK hN hA ⟨Nat.zero_le _, Nat.zero_le _⟩ (m_SD_isWithin l) (s_RB_35 hts am_vW hN ⟨by decide, by decide⟩) d_RB_mayHave_11
  split at h
  · rename_i hpc
    subst hpc; cases h
    exact am_callS S vw_N_ok hK hN hA ⟨Nat.zero_le _, Nat.zero_le _⟩ (m_SD_isWithin l) (s_RB_35 hts am_vW hN ⟨by decide, by decide⟩) d_RB_mayHave_20
  cases h
theorem m_RB_mayHave (l : Launch) : am_MF l y_RB_mayHave w_RB_mayHave r_RB_mayHave P_RB_mayHave f_RB_mayHave g_RB_mayHave := by
  refine am_mk0 i_RB_mayHave_ok fd_RB_ok (ct_RB_mayHave_ok l) (by decide +kernel) (by decide) ?_ 24 ?_
  · intro av M h
    unfold P_RB_mayHave at h
    split at h
    · exact ⟨Nat.le_of_ble_eq_true rfl, rfl⟩
    · exact h.elim
  · intro av M Z h
    unfold P_RB_mayHave at h
    split at h
    · rename_i a b c
      obtain ⟨ha, hb, hc⟩ := h
      refine xs_iload_n (q := 1) i_RB_mayHave_0 rfl rfl (xs_n rfl ?_)
      refine xs_cs (q := 4) i_RB_mayHave_1 rfl (e_RB_mayHave_1) ⟨rfl, rfl⟩ rfl rfl ?_
      rw [am_S_iff]
      refine ⟨ha, ?_⟩
      refine xs_r1 rfl (xs_n rfl ?_)
      refine xs_if_eq (q := 26) (r := 7) i_RB_mayHave_4 rfl rfl am_ite (fun h4 => (xs_n rfl ?_)) (fun h4 => (xs_n rfl ?_))
      · refine xs_iconst (q := 27) i_RB_mayHave_26 rfl (xs_n rfl ?_)
        refine xs_goto (q := 31) i_RB_mayHave_27 rfl (xs_n rfl ?_)
        refine xs_iret i_RB_mayHave_31 ?_
        exact xs_fin (by simp only [f_RB_mayHave]; rw [if_pos (fun z => absurd z (am_ite0 h4))]) rfl (by first | exact Or.inl rfl | exact Or.inr rfl)
      · refine xs_iload_n (q := 8) i_RB_mayHave_7 rfl rfl (xs_n rfl ?_)
        refine xs_iconst (q := 9) i_RB_mayHave_8 rfl (xs_n rfl ?_)
        refine xs_bipush (q := 11) i_RB_mayHave_9 rfl (by decide) (xs_n rfl ?_)
        refine xs_cs (q := 14) i_RB_mayHave_11 rfl (e_RB_mayHave_11) ⟨rfl, rfl⟩ rfl rfl ?_
        rw [am_S_iff]
        refine ⟨⟨hc, by unfold am_R; omega, by unfold am_R; omega⟩, ?_⟩
        refine xs_r1 rfl (xs_n rfl ?_)
        refine xs_if_eq (q := 30) (r := 17) i_RB_mayHave_14 rfl rfl am_ite (fun h14 => (xs_n rfl ?_)) (fun h14 => (xs_n rfl ?_))
        · refine xs_iconst (q := 31) i_RB_mayHave_30 rfl (xs_n rfl ?_)
          refine xs_iret i_RB_mayHave_31 ?_
          exact xs_fin (by simp only [f_RB_mayHave]; rw [if_neg (fun z => am_ite0 h14 (z (am_ite1 h4)).1)]) rfl (by first | exact Or.inl rfl | exact Or.inr rfl)
        · refine xs_iload_n (q := 18) i_RB_mayHave_17 rfl rfl (xs_n rfl ?_)
          refine xs_iconst (q := 19) i_RB_mayHave_18 rfl (xs_n rfl ?_)
          refine xs_iload_n (q := 20) i_RB_mayHave_19 rfl rfl (xs_n rfl ?_)
          refine xs_cs (q := 23) i_RB_mayHave_20 rfl (e_RB_mayHave_20) ⟨rfl, rfl⟩ rfl rfl ?_
          rw [am_S_iff]
          refine ⟨⟨hb, by unfold am_R; omega, hc⟩, ?_⟩
          refine xs_r1 rfl (xs_n rfl ?_)
          refine xs_if_eq (q := 30) (r := 26) i_RB_mayHave_23 rfl rfl am_ite (fun h23 => (xs_n rfl ?_)) (fun h23 => (xs_n rfl ?_))
          · refine xs_iconst (q := 31) i_RB_mayHave_30 rfl (xs_n rfl ?_)
            refine xs_iret i_RB_mayHave_31 ?_
            exact xs_fin (by simp only [f_RB_mayHave]; rw [if_neg (fun z => am_ite0 h23 (z (am_ite1 h4)).2)]) rfl (by first | exact Or.inl rfl | exact Or.inr rfl)
          · refine xs_iconst (q := 27) i_RB_mayHave_26 rfl (xs_n rfl ?_)
            refine xs_goto (q := 31) i_RB_mayHave_27 rfl (xs_n rfl ?_)
            refine xs_iret i_RB_mayHave_31 ?_
            exact xs_fin (by simp only [f_RB_mayHave]; rw [if_pos (fun _ => ⟨am_ite1 h14, am_ite1 h23⟩)]) rfl (by first | exact Or.inl rfl | exact Or.inr rfl)
    · exact h.elim
def P_JM_max : am_P := fun av _ => match av with
  | [.inl a, .inl b] => am_R a ∧ am_R b
  | _ => False
def f_JM_max : am_Fr := fun av _ => match av with
  | [.inl a, .inl b] => some (.inl (if a < b then b else a))
  | _ => none
abbrev g_JM_max : am_Fm := g_id
abbrev P_JM_min : am_P := P_JM_max
def f_JM_min : am_Fr := fun av _ => match av with
  | [.inl a, .inl b] => some (.inl (if b < a then b else a))
  | _ => none
abbrev g_JM_min : am_Fm := g_id
def P_JM_floorMod : am_P := fun av _ => match av with
  | [.inl a, .inl b] => (0 ≤ a ∧ a < 2147483648) ∧ (0 < b ∧ b < 2147483648)
  | _ => False
def f_JM_floorMod : am_Fr := fun av _ => match av with
  | [.inl a, .inl b] => some (.inl (a % b))
  | _ => none
abbrev g_JM_floorMod : am_Fm := g_id
theorem m_JM_max (l : Launch) : am_MF l y_JM_max w_JM_max r_JM_max P_JM_max f_JM_max g_JM_max := by
  refine am_mk0 i_JM_max_ok fd_none_ok am_CC0 (by decide +kernel) (by decide) ?_ 8 ?_
  · intro av M h
    unfold P_JM_max at h
    split at h
    · exact ⟨Nat.le_of_ble_eq_true rfl, rfl⟩
    · exact h.elim
  · intro av M Z h
    unfold P_JM_max at h
    split at h
    · rename_i a b
      refine xs_iload_n (q := 1) i_JM_max_0 rfl rfl (xs_n rfl ?_)
      refine xs_iload_n (q := 2) i_JM_max_1 rfl rfl (xs_n rfl ?_)
      refine xs_ic_lt (q := 9) (r := 5) i_JM_max_2 rfl rfl h (fun h2 => (xs_n rfl ?_)) (fun h2 => (xs_n rfl ?_))
      · refine xs_iload_n (q := 10) i_JM_max_9 rfl rfl (xs_n rfl ?_)
        refine xs_iret i_JM_max_10 ?_
        exact xs_fin (by simp only [f_JM_max]; (first | rfl | (rw [if_pos (by omega)]) | (rw [if_neg (by omega)]))) rfl trivial
      · refine xs_iload_n (q := 6) i_JM_max_5 rfl rfl (xs_n rfl ?_)
        refine xs_goto (q := 10) i_JM_max_6 rfl (xs_n rfl ?_)
        refine xs_iret i_JM_max_10 ?_
        exact xs_fin (by simp only [f_JM_max]; (first | rfl | (rw [if_pos (by omega)]) | (rw [if_neg (by omega)]))) rfl trivial
    · exact h.elim
theorem m_JM_min (l : Launch) : am_MF l y_JM_min w_JM_min r_JM_min P_JM_min f_JM_min g_JM_min := by
  refine am_mk0 i_JM_min_ok fd_none_ok am_CC0 (by decide +kernel) (by decide) ?_ 8 ?_
  · intro av M h
    unfold P_JM_min P_JM_max at h
    split at h
    · exact ⟨Nat.le_of_ble_eq_true rfl, rfl⟩
    · exact h.elim
  · intro av M Z h
    unfold P_JM_min P_JM_max at h
    split at h
    · rename_i a b
      refine xs_iload_n (q := 1) i_JM_min_0 rfl rfl (xs_n rfl ?_)
      refine xs_iload_n (q := 2) i_JM_min_1 rfl rfl (xs_n rfl ?_)
      refine xs_ic_gt (q := 9) (r := 5) i_JM_min_2 rfl rfl h (fun h2 => (xs_n rfl ?_)) (fun h2 => (xs_n rfl ?_))
      · refine xs_iload_n (q := 10) i_JM_min_9 rfl rfl (xs_n rfl ?_)
        refine xs_iret i_JM_min_10 ?_
        exact xs_fin (by simp only [f_JM_min]; (first | rfl | (rw [if_pos (by omega)]) | (rw [if_neg (by omega)]))) rfl trivial
      · refine xs_iload_n (q := 6) i_JM_min_5 rfl rfl (xs_n rfl ?_)
        refine xs_goto (q := 10) i_JM_min_6 rfl (xs_n rfl ?_)
        refine xs_iret i_JM_min_10 ?_
        exact xs_fin (by simp only [f_JM_min]; (first | rfl | (rw [if_pos (by omega)]) | (rw [if_neg (by omega)]))) rfl trivial
    · exact h.elim
theorem m_JM_floorMod (l : Launch) : am_MF l y_JM_floorMod w_JM_floorMod r_JM_floorMod P_JM_floorMod f_JM_floorMod g_JM_floorMod := by
  refine am_mk0 i_JM_floorMod_ok fd_none_ok am_CC0 (by decide +kernel) (by decide) ?_ 20 ?_
  · intro av M h
    unfold P_JM_floorMod at h
    split at h
    · exact ⟨Nat.le_of_ble_eq_true rfl, rfl⟩
    · exact h.elim
  · intro av M Z h
    unfold P_JM_floorMod at h
    split at h
    · rename_i a b
      refine xs_iload_n (q := 1) i_JM_floorMod_0 rfl rfl (xs_n rfl ?_)
      refine xs_iload_n (q := 2) i_JM_floorMod_1 rfl rfl (xs_n rfl ?_)
      refine xs_irem (q := 3) i_JM_floorMod_2 rfl (by omega) (xs_n rfl ?_)
      refine xs_istore_n (q := 4) (ls2 := [_, _, _]) i_JM_floorMod_3 rfl rfl rfl (xs_n rfl ?_)
      refine xs_iload_n (q := 5) i_JM_floorMod_4 rfl rfl (xs_n rfl ?_)
      refine xs_iload_n (q := 6) i_JM_floorMod_5 rfl rfl (xs_n rfl ?_)
      refine xs_ixor (q := 7) i_JM_floorMod_6 rfl (by omega) (fun z6 hz6 hy6 => (xs_n rfl ?_))
      refine xs_if_ge (q := 18) (r := 10) i_JM_floorMod_7 rfl rfl ⟨by omega, by omega⟩ (fun h7 => (xs_n rfl ?_)) (fun h7 => (xs_n rfl ?_))
      · refine xs_iload_n (q := 19) i_JM_floorMod_18 rfl rfl (xs_n rfl ?_)
        refine xs_iret i_JM_floorMod_19 ?_
        exact xs_fin rfl rfl trivial
      · refine xs_iload_n (q := 11) i_JM_floorMod_10 rfl rfl (xs_n rfl ?_)
        refine xs_if_eq (q := 18) (r := 14) i_JM_floorMod_11 rfl rfl ⟨by have := Int.emod_nonneg a (show b ≠ 0 by omega); omega, by have := Int.emod_lt_of_pos a (show 0 < b by omega); omega⟩ (fun h11 => (xs_n rfl ?_)) (fun h11 => (xs_n rfl ?_))
        · refine xs_iload_n (q := 19) i_JM_floorMod_18 rfl rfl (xs_n rfl ?_)
          refine xs_iret i_JM_floorMod_19 ?_
          exact xs_fin rfl rfl trivial
        · refine xs_iload_n (q := 15) i_JM_floorMod_14 rfl rfl (xs_n rfl ?_)
          refine xs_iload_n (q := 16) i_JM_floorMod_15 rfl rfl (xs_n rfl ?_)
          refine xs_iadd (q := 17) i_JM_floorMod_16 rfl (xs_n rfl ?_)
          refine xs_iret i_JM_floorMod_17 ?_
          omega
    · exact h.elim
def P_MO_divisor : am_P := fun av _ => match av with
  | [.inl a, .inl b] => (0 ≤ a ∧ a < 1000000) ∧ (0 ≤ b ∧ b < 1000000)
  | _ => False
def f_MO_divisor : am_Fr := fun av _ => match av with
  | [.inl a, .inl b] => some (.inl ((Nat.gcd a.toNat b.toNat : Nat) : Int))
  | _ => none
abbrev g_MO_divisor : am_Fm := g_id
def inv_MO_divisor : List am_V → am_M → Nat → am_K := fun av M μ pc ls st M2 => match av with
  | [.inl a, .inl b] => (pc = 0 ∧ ls = am_l0 [.inl a, .inl b] 5 ∧ st = [] ∧ M2 = M ∧ μ = b.toNat + 1) ∨ ∃ x y w, pc = 4 ∧ ls = [some (.inl a), some (.inl b), some (.inl x), some (.inl y), w] ∧ st = [] ∧ M2 = M ∧ ((0 ≤ x ∧ x < 1000000) ∧ (0 ≤ y ∧ y < 1000000) ∧ Nat.gcd x.toNat y.toNat = Nat.gcd a.toNat b.toNat) ∧ μ = y.toNat
  | _ => False
theorem am_gcd {x y : Int} (hx : 0 ≤ x) (hy : 0 < y) : Nat.gcd y.toNat (x % y).toNat = Nat.gcd x.toNat y.toNat := by
  obtain ⟨m, rfl⟩ := Int.eq_ofNat_of_zero_le hx
  obtain ⟨n, rfl⟩ := Int.eq_ofNat_of_zero_le (Int.le_of_lt hy)
  rw [← Int.natCast_emod]
  simp only [Int.toNat_natCast]
  rw [Nat.gcd_comm m n, Nat.gcd_rec n m, Nat.gcd_comm]
theorem m_MO_divisor (l : Launch) : am_MF l y_MO_divisor w_MO_divisor r_MO_divisor P_MO_divisor f_MO_divisor g_MO_divisor := by
  refine am_mkL (fun pc => pc == 4) i_MO_divisor_ok fd_MO_ok am_CC0 (by decide +kernel) (by decide) ?_ 20 inv_MO_divisor ?_ ?_
  · intro av M h
    unfold P_MO_divisor at h
    split at h
    · exact ⟨Nat.le_of_ble_eq_true rfl, rfl⟩
    · exact h.elim
  · intro av M h
    unfold P_MO_divisor at h
    split at h
    · exact ⟨_, Or.inl ⟨rfl, rfl, rfl, rfl, rfl⟩⟩
    · exact h.elim
  · intro av M h μ pc ls st M2 hi
    unfold P_MO_divisor at h
    split at h
    · rename_i a b
      rcases hi with ⟨rfl, rfl, rfl, rfl, rfl⟩ | ⟨x, y, w, rfl, rfl, rfl, rfl, ⟨hx, hy, hg⟩, rfl⟩
      · skip
        refine xs_iload_n (q := 1) i_MO_divisor_0 rfl rfl (xs_n rfl ?_)
        refine xs_istore_n (q := 2) (ls2 := [_, _, _, _, _]) i_MO_divisor_1 rfl rfl rfl (xs_n rfl ?_)
        refine xs_iload_n (q := 3) i_MO_divisor_2 rfl rfl (xs_n rfl ?_)
        refine xs_istore_n (q := 4) (ls2 := [_, _, _, _, _]) i_MO_divisor_3 rfl rfl rfl (xs_z rfl ?_)
        exact ⟨b.toNat, by omega, Or.inr ⟨a, b, _, rfl, rfl, rfl, rfl, ⟨h.1, h.2, rfl⟩, rfl⟩⟩
      · skip
        refine xs_iload_n (q := 5) i_MO_divisor_4 rfl rfl (xs_n rfl ?_)
        refine xs_if_le (q := 21) (r := 8) i_MO_divisor_5 rfl rfl (by unfold am_R; omega) (fun h5 => (xs_n rfl ?_)) (fun h5 => (xs_n rfl ?_))
        · refine xs_iload_n (q := 22) i_MO_divisor_21 rfl rfl (xs_n rfl ?_)
          refine xs_iret i_MO_divisor_22 ?_
          exact xs_fin (by simp only [f_MO_divisor]; rw [← hg, show y.toNat = 0 by omega, Nat.gcd_zero_right]; simp; omega) rfl trivial
        · refine xs_iload_n (q := 9) i_MO_divisor_8 rfl rfl (xs_n rfl ?_)
          refine xs_iload_n (q := 10) i_MO_divisor_9 rfl rfl (xs_n rfl ?_)
          refine xs_irem (q := 11) i_MO_divisor_10 rfl (by omega) (xs_n rfl ?_)
          refine xs_istore (q := 13) (ls2 := [_, _, _, _, _]) i_MO_divisor_11 rfl rfl rfl (xs_n rfl ?_)
          refine xs_iload_n (q := 14) i_MO_divisor_13 rfl rfl (xs_n rfl ?_)
          refine xs_istore_n (q := 15) (ls2 := [_, _, _, _, _]) i_MO_divisor_14 rfl rfl rfl (xs_n rfl ?_)
          refine xs_iload (q := 17) i_MO_divisor_15 rfl rfl (xs_n rfl ?_)
          refine xs_istore_n (q := 18) (ls2 := [_, _, _, _, _]) i_MO_divisor_17 rfl rfl rfl (xs_n rfl ?_)
          refine xs_goto (q := 4) i_MO_divisor_18 rfl (xs_z rfl ?_)
          have e1 := Int.emod_nonneg x (show y ≠ 0 by omega)
          have e2 := Int.emod_lt_of_pos x (show 0 < y by omega)
          exact ⟨(x % y).toNat, by omega, Or.inr ⟨y, x % y, _, rfl, rfl, rfl, rfl, ⟨by omega, by omega, by rw [am_gcd (by omega) (by omega)]; exact hg⟩, rfl⟩⟩
    · exact h.elim
def P_TS_commonDivisor : am_P := fun av _ => match av with
  | [.inl a, .inl b] => (0 ≤ a ∧ a < 1000000) ∧ (1 ≤ b ∧ b ≤ 60)
  | _ => False
abbrev f_TS_commonDivisor : am_Fr := f_MO_divisor
abbrev g_TS_commonDivisor : am_Fm := g_id
def inv_TS_commonDivisor : List am_V → am_M → Nat → am_K := fun av M μ pc ls st M2 => match av with
  | [.inl a, .inl b] => (pc = 0 ∧ ls = am_l0 [.inl a, .inl b] 6 ∧ st = [] ∧ M2 = M ∧ μ = b.toNat + 1) ∨ ∃ x y t w, pc = 7 ∧ ls = [some (.inl a), some (.inl b), some (.inl x), some (.inl y), some (.inl t), w] ∧ st = [] ∧ M2 = M ∧ ((0 ≤ x ∧ x < 1000000) ∧ (0 ≤ y ∧ 0 ≤ t ∧ t + y ≤ 60) ∧ Nat.gcd x.toNat y.toNat = Nat.gcd a.toNat b.toNat) ∧ μ = y.toNat
  | _ => False
theorem m_TS_commonDivisor (l : Launch) : am_MF l y_TS_commonDivisor w_TS_commonDivisor r_TS_commonDivisor P_TS_commonDivisor f_TS_commonDivisor g_TS_commonDivisor := by
  refine am_mkL (fun pc => pc == 7) i_TS_commonDivisor_ok fd_TS_ok am_CC0 (by decide +kernel) (by decide) ?_ 30 inv_TS_commonDivisor ?_ ?_
  · intro av M h
    unfold P_TS_commonDivisor at h
    split at h
    · exact ⟨Nat.le_of_ble_eq_true rfl, rfl⟩
    · exact h.elim
  · intro av M h
    unfold P_TS_commonDivisor at h
    split at h
    · exact ⟨_, Or.inl ⟨rfl, rfl, rfl, rfl, rfl⟩⟩
    · exact h.elim
  · intro av M h μ pc ls st M2 hi
    unfold P_TS_commonDivisor at h
    split at h
    · rename_i a b
      rcases hi with ⟨rfl, rfl, rfl, rfl, rfl⟩ | ⟨x, y, t, w, rfl, rfl, rfl, rfl, ⟨hx, hy, hg⟩, rfl⟩
      · skip
        refine xs_iload_n (q := 1) i_TS_commonDivisor_0 rfl rfl (xs_n rfl ?_)
        refine xs_istore_n (q := 2) (ls2 := [_, _, _, _, _, _]) i_TS_commonDivisor_1 rfl rfl rfl (xs_n rfl ?_)
        refine xs_iload_n (q := 3) i_TS_commonDivisor_2 rfl rfl (xs_n rfl ?_)
        refine xs_istore_n (q := 4) (ls2 := [_, _, _, _, _, _]) i_TS_commonDivisor_3 rfl rfl rfl (xs_n rfl ?_)
        refine xs_iconst (q := 5) i_TS_commonDivisor_4 rfl (xs_n rfl ?_)
        refine xs_istore (q := 7) (ls2 := [_, _, _, _, _, _]) i_TS_commonDivisor_5 rfl rfl rfl (xs_z rfl ?_)
        exact ⟨b.toNat, by omega, Or.inr ⟨a, b, 0, _, rfl, rfl, rfl, rfl, ⟨h.1, by omega, rfl⟩, rfl⟩⟩
      · skip
        refine xs_iload (q := 9) i_TS_commonDivisor_7 rfl rfl (xs_n rfl ?_)
        refine xs_bipush (q := 11) i_TS_commonDivisor_9 rfl (by decide) (xs_n rfl ?_)
        refine xs_ic_ge (q := 34) (r := 14) i_TS_commonDivisor_11 rfl rfl ⟨by unfold am_R; omega, by unfold am_R; omega⟩ (fun h11 => (xs_n rfl ?_)) (fun h11 => (xs_n rfl ?_))
        · refine xs_iload_n (q := 35) i_TS_commonDivisor_34 rfl rfl (xs_n rfl ?_)
          refine xs_if_le (q := 42) (r := 38) i_TS_commonDivisor_35 rfl rfl (by unfold am_R; omega) (fun h35 => (xs_n rfl ?_)) (fun h35 => (xs_n rfl ?_))
          · refine xs_iconst (q := 43) i_TS_commonDivisor_42 rfl (xs_n rfl ?_)
            refine xs_iret i_TS_commonDivisor_43 ?_
            omega
          · refine xs_iload_n (q := 39) i_TS_commonDivisor_38 rfl rfl (xs_n rfl ?_)
            refine xs_goto (q := 43) i_TS_commonDivisor_39 rfl (xs_n rfl ?_)
            refine xs_iret i_TS_commonDivisor_43 ?_
            omega
        · refine xs_iload_n (q := 15) i_TS_commonDivisor_14 rfl rfl (xs_n rfl ?_)
          refine xs_if_le (q := 34) (r := 18) i_TS_commonDivisor_15 rfl rfl (by unfold am_R; omega) (fun h15 => (xs_n rfl ?_)) (fun h15 => (xs_n rfl ?_))
          · refine xs_iload_n (q := 35) i_TS_commonDivisor_34 rfl rfl (xs_n rfl ?_)
            refine xs_if_le (q := 42) (r := 38) i_TS_commonDivisor_35 rfl rfl (by unfold am_R; omega) (fun h35 => (xs_n rfl ?_)) (fun h35 => (xs_n rfl ?_))
            · refine xs_iconst (q := 43) i_TS_commonDivisor_42 rfl (xs_n rfl ?_)
              refine xs_iret i_TS_commonDivisor_43 ?_
              have hp : 0 < Nat.gcd a.toNat b.toNat := Nat.gcd_pos_of_pos_right _ (by omega)
              rw [← hg, show y.toNat = 0 by omega, Nat.gcd_zero_right] at hp
              omega
            · refine xs_iload_n (q := 39) i_TS_commonDivisor_38 rfl rfl (xs_n rfl ?_)
              refine xs_goto (q := 43) i_TS_commonDivisor_39 rfl (xs_n rfl ?_)
              refine xs_iret i_TS_commonDivisor_43 ?_
              exact xs_fin (by simp only [f_TS_commonDivisor, f_MO_divisor]; rw [← hg, show y.toNat = 0 by omega, Nat.gcd_zero_right]; simp; omega) rfl trivial
          · refine xs_iload_n (q := 19) i_TS_commonDivisor_18 rfl rfl (xs_n rfl ?_)
            refine xs_iload_n (q := 20) i_TS_commonDivisor_19 rfl rfl (xs_n rfl ?_)
            refine xs_irem (q := 21) i_TS_commonDivisor_20 rfl (by omega) (xs_n rfl ?_)
            refine xs_istore (q := 23) (ls2 := [_, _, _, _, _, _]) i_TS_commonDivisor_21 rfl rfl rfl (xs_n rfl ?_)
            refine xs_iload_n (q := 24) i_TS_commonDivisor_23 rfl rfl (xs_n rfl ?_)
            refine xs_istore_n (q := 25) (ls2 := [_, _, _, _, _, _]) i_TS_commonDivisor_24 rfl rfl rfl (xs_n rfl ?_)
            refine xs_iload (q := 27) i_TS_commonDivisor_25 rfl rfl (xs_n rfl ?_)
            refine xs_istore_n (q := 28) (ls2 := [_, _, _, _, _, _]) i_TS_commonDivisor_27 rfl rfl rfl (xs_n rfl ?_)
            refine xs_iinc (q := 31) (ls2 := [_, _, _, _, _, _]) i_TS_commonDivisor_28 rfl rfl rfl (xs_n rfl ?_)
            refine xs_goto (q := 7) i_TS_commonDivisor_31 rfl (xs_z rfl ?_)
            have e1 := Int.emod_nonneg x (show y ≠ 0 by omega)
            have e2 := Int.emod_lt_of_pos x (show 0 < y by omega)
            exact ⟨(x % y).toNat, by omega, Or.inr ⟨y, x % y, t + 1, _, rfl, rfl, rfl, rfl, ⟨by omega, by omega, by rw [am_gcd (by omega) (by omega)]; exact hg⟩, rfl⟩⟩
    · exact h.elim
