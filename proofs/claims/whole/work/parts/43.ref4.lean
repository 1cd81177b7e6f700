/-! contracts: the reference, firstJob (wip/whole/p43.py) -/
def mo_fh (M : am_M) : Nat := am_fi (fun j => decide (0 < M 68 j ∧ M 60 j ≠ 0)) (M 50 26).toNat 0
def mo_fs (M : am_M) : Nat := am_fi (fun j => decide (0 < M 68 j ∧ M 60 j = 0)) (M 50 26).toNat 0
def mo_fj (M : am_M) : Int := if mo_fh M < (M 50 26).toNat then (mo_fh M : Int) else if mo_fs M < (M 50 26).toNat then (mo_fs M : Int) else -1
def P_MO_firstJob : am_P := fun av M => match av with
  | [.inr (.inl i)] => i = 50 ∧ (0 ≤ M 50 26 ∧ M 50 26 ≤ 40) ∧ ∀ j, j < 40 → am_R (M 68 j) ∧ (M 60 j = 0 ∨ M 60 j = 1)
  | _ => False
def f_MO_firstJob : am_Fr := fun av M => match av with
  | [.inr (.inl i)] => some (.inl (mo_fj M))
  | _ => none
abbrev g_MO_firstJob : am_Fm := g_id
def inv_MO_firstJob : List am_V → am_M → Nat → am_K := fun av M μ pc ls st M2 => match av with
  | [.inr (.inl i)] => (pc = 0 ∧ ls = am_l0 [.inr (.inl i)] 3 ∧ st = [] ∧ M = M2 ∧ μ = 1000) ∨ (∃ (s : Nat) (w : Option am_V), pc = 2 ∧ ls = [some (.inr (.inl i)), some (.inl (s : Int)), w] ∧ st = [] ∧ M = M2 ∧ (s ≤ 2 ∧ (1 ≤ s → ∀ j : Nat, (j : Int) < M 50 26 → ¬ (0 < M 68 j ∧ M 60 j ≠ 0)) ∧ (2 ≤ s → ∀ j : Nat, (j : Int) < M 50 26 → ¬ (0 < M 68 j ∧ M 60 j = 0))) ∧ μ = (2 - s) * 100 + 99) ∨
    (∃ (s t : Nat), pc = 9 ∧ ls = [some (.inr (.inl i)), some (.inl (s : Int)), some (.inl (t : Int))] ∧ st = [] ∧ M = M2 ∧ ((s < 2 ∧ (t : Int) ≤ M 50 26) ∧ (1 ≤ s → ∀ j : Nat, (j : Int) < M 50 26 → ¬ (0 < M 68 j ∧ M 60 j ≠ 0)) ∧ (s = 0 → ∀ j : Nat, (j : Int) < t → ¬ (0 < M 68 j ∧ M 60 j ≠ 0)) ∧ (s = 1 → ∀ j : Nat, (j : Int) < t → ¬ (0 < M 68 j ∧ M 60 j = 0))) ∧ μ = (2 - s) * 100 + 50 - t)
  | _ => False
theorem m_MO_firstJob (l : Launch) : am_MF l y_MO_firstJob w_MO_firstJob r_MO_firstJob P_MO_firstJob f_MO_firstJob g_MO_firstJob := by
  refine am_mkL (fun pc => pc == 2 || pc == 9) i_MO_firstJob_ok fd_MO_ok am_CC0 (plainFor_of_name (by decide +kernel)) (by decide) ?_ 40 inv_MO_firstJob ?_ ?_
  · intro av M h
    unfold P_MO_firstJob at h
    split at h
    · exact ⟨Nat.le_of_ble_eq_true rfl, rfl⟩
    · exact h.elim
  · intro av M h
    unfold P_MO_firstJob at h
    split at h
    · exact ⟨_, Or.inl ⟨rfl, rfl, rfl, rfl, rfl⟩⟩
    · exact h.elim
  · intro av M h μ pc ls st M2 hi
    unfold P_MO_firstJob at h
    split at h
    · rename_i i
      obtain ⟨rfl, h1, h2⟩ := h
      rcases hi with ⟨rfl, rfl, rfl, rfl, rfl⟩ | ⟨s, w, rfl, rfl, rfl, rfl, hs, rfl⟩ | ⟨s, t, rfl, rfl, rfl, rfl, ⟨hst, hn, hn0, hn1⟩, rfl⟩
      · skip
        refine xs_iconst (q := 1) i_MO_firstJob_0 rfl (xs_n rfl ?_)
        refine xs_istore_n (q := 2) (ls2 := [_, _, _]) i_MO_firstJob_1 rfl rfl rfl (xs_z rfl ?_)
        exact ⟨299, by omega, Or.inr (Or.inl ⟨0, _, rfl, rfl, rfl, rfl, ⟨by omega, fun z => by omega, fun z => by omega⟩, rfl⟩)⟩
      · skip
        refine xs_iload_n (q := 3) i_MO_firstJob_2 rfl rfl (xs_n rfl ?_)
        refine xs_iconst (q := 4) i_MO_firstJob_3 rfl (xs_n rfl ?_)
        refine xs_ic_ge (q := 58) (r := 7) i_MO_firstJob_4 rfl rfl ⟨by unfold am_R; omega, by unfold am_R; omega⟩ (fun h4 => (xs_n rfl ?_)) (fun h4 => (xs_n rfl ?_))
        · refine xs_iconst (q := 59) i_MO_firstJob_58 rfl (xs_n rfl ?_)
          refine xs_iret i_MO_firstJob_59 ?_
          have e8 : mo_fh M = (M 50 26).toNat := am_fi_eq _ _ 0 _ (by omega) (by omega) (fun j _ hj => decide_eq_false (hs.2.1 (by omega) j (by omega))) (fun z => by omega)
          have e9 : mo_fs M = (M 50 26).toNat := am_fi_eq _ _ 0 _ (by omega) (by omega) (fun j _ hj => decide_eq_false (hs.2.2 (by omega) j (by omega))) (fun z => by omega)
          exact xs_fin (by simp only [f_MO_firstJob, mo_fj]; rw [e8, if_neg (by omega), e9, if_neg (by omega)]) rfl trivial
        · refine xs_iconst (q := 8) i_MO_firstJob_7 rfl (xs_n rfl ?_)
          refine xs_istore_n (q := 9) (ls2 := [_, _, _]) i_MO_firstJob_8 rfl rfl rfl (xs_z rfl ?_)
          exact ⟨(2 - s) * 100 + 50, by omega, Or.inr (Or.inr ⟨s, 0, rfl, rfl, rfl, rfl, ⟨⟨by omega, by omega⟩, hs.2.1, fun _ j hj => by omega, fun _ j hj => by omega⟩, rfl⟩)⟩
      · skip
        refine xs_iload_n (q := 10) i_MO_firstJob_9 rfl rfl (xs_n rfl ?_)
        refine xs_aload_n (q := 11) i_MO_firstJob_10 rfl rfl (xs_n rfl ?_)
        refine xs_geti (q := 14) i_MO_firstJob_11 rfl fd_MO_141 sg_50 rfl (xs_n rfl ?_)
        refine xs_ic_ge (q := 52) (r := 17) i_MO_firstJob_14 rfl rfl ⟨by unfold am_R; omega, by unfold am_R; omega⟩ (fun h14 => (xs_n rfl ?_)) (fun h14 => (xs_n rfl ?_))
        · refine xs_iinc (q := 55) (ls2 := [_, _, _]) i_MO_firstJob_52 rfl rfl rfl (xs_n rfl ?_)
          refine xs_goto (q := 2) i_MO_firstJob_55 rfl (xs_z rfl ?_)
          exact ⟨(2 - (s + 1)) * 100 + 99, by omega, Or.inr (Or.inl ⟨s + 1, _, rfl, rfl, rfl, rfl, ⟨by omega, fun _ j hj => by (by_cases e : s = 0); exact hn0 e j (by omega); exact hn (by omega) j hj, fun z j hj => hn1 (by omega) j (by omega)⟩, rfl⟩)⟩
        · have hq := h2 t (by omega)
          refine xs_aload_n (q := 18) i_MO_firstJob_17 rfl rfl (xs_n rfl ?_)
          refine xs_getr (q := 21) i_MO_firstJob_18 rfl fd_MO_62 sg_50 rfl (xs_n rfl ?_)
          refine xs_iload_n (q := 22) i_MO_firstJob_21 rfl rfl (xs_n rfl ?_)
          refine xs_iaload (q := 23) i_MO_firstJob_22 rfl sg_68 rfl (by omega) (xs_n rfl ?_)
          refine xs_if_le (q := 46) (r := 26) i_MO_firstJob_23 rfl rfl (by simp only [Int.toNat_natCast]; exact hq.1) (fun h23 => (xs_n rfl ?_)) (fun h23 => (xs_n rfl ?_))
          · refine xs_iinc (q := 49) (ls2 := [_, _, _]) i_MO_firstJob_46 rfl rfl rfl (xs_n rfl ?_)
            refine xs_goto (q := 9) i_MO_firstJob_49 rfl (xs_z rfl ?_)
            exact ⟨(2 - s) * 100 + 50 - (t + 1), by omega, Or.inr (Or.inr ⟨s, t + 1, rfl, rfl, rfl, rfl, ⟨⟨by omega, by omega⟩, hn, fun e => am_ls (i := (t : Int)) (hn0 e) (by simp only [Int.toNat_natCast] at *; omega) (by omega), fun e => am_ls (i := (t : Int)) (hn1 e) (by simp only [Int.toNat_natCast] at *; omega) (by omega)⟩, rfl⟩)⟩
          · refine xs_aload_n (q := 27) i_MO_firstJob_26 rfl rfl (xs_n rfl ?_)
            refine xs_getr (q := 30) i_MO_firstJob_27 rfl fd_MO_37 sg_50 rfl (xs_n rfl ?_)
            refine xs_iload_n (q := 31) i_MO_firstJob_30 rfl rfl (xs_n rfl ?_)
            refine xs_baload (q := 32) i_MO_firstJob_31 rfl sg_60 (by omega) (xs_n rfl ?_)
            refine xs_iload_n (q := 33) i_MO_firstJob_32 rfl rfl (xs_n rfl ?_)
            refine xs_if_ne (q := 40) (r := 36) i_MO_firstJob_33 rfl rfl (by unfold am_R; omega) (fun h33 => (xs_n rfl ?_)) (fun h33 => (xs_n rfl ?_))
            · refine xs_iconst (q := 41) i_MO_firstJob_40 rfl (xs_n rfl ?_)
              refine xs_ic_ne (q := 46) (r := 44) i_MO_firstJob_41 rfl rfl ⟨by simp only [Int.toNat_natCast]; unfold am_R; omega, by unfold am_R; omega⟩ (fun h41 => (xs_n rfl ?_)) (fun h41 => (xs_n rfl ?_))
              · refine xs_iinc (q := 49) (ls2 := [_, _, _]) i_MO_firstJob_46 rfl rfl rfl (xs_n rfl ?_)
                refine xs_goto (q := 9) i_MO_firstJob_49 rfl (xs_z rfl ?_)
                exact ⟨(2 - s) * 100 + 50 - (t + 1), by omega, Or.inr (Or.inr ⟨s, t + 1, rfl, rfl, rfl, rfl, ⟨⟨by omega, by omega⟩, hn, fun e => am_ls (i := (t : Int)) (hn0 e) (by simp only [Int.toNat_natCast] at *; omega) (by omega), fun e => am_ls (i := (t : Int)) (hn1 e) (by simp only [Int.toNat_natCast] at *; omega) (by omega)⟩, rfl⟩)⟩
              · refine xs_iload_n (q := 45) i_MO_firstJob_44 rfl rfl (xs_n rfl ?_)
                refine xs_iret i_MO_firstJob_45 ?_
                simp only [Int.toNat_natCast] at h23 h41
                have e8 : mo_fh M = (M 50 26).toNat := am_fi_eq _ _ 0 _ (by omega) (by omega) (fun j _ hj => decide_eq_false (hn (by omega) j (by omega))) (fun z => by omega)
                have e9 : mo_fs M = t := am_fi_eq _ _ 0 t (by omega) (by omega) (fun j _ hj => decide_eq_false (hn1 (by omega) j (by omega))) (fun _ => decide_eq_true ⟨h23, h41⟩)
                exact xs_fin (by simp only [f_MO_firstJob, mo_fj]; rw [e8, if_neg (by omega), e9, if_pos (by omega)]) rfl trivial
            · refine xs_iconst (q := 37) i_MO_firstJob_36 rfl (xs_n rfl ?_)
              refine xs_goto (q := 41) i_MO_firstJob_37 rfl (xs_n rfl ?_)
              refine xs_ic_ne (q := 46) (r := 44) i_MO_firstJob_41 rfl rfl ⟨by simp only [Int.toNat_natCast]; unfold am_R; omega, by unfold am_R; omega⟩ (fun h41 => (xs_n rfl ?_)) (fun h41 => (xs_n rfl ?_))
              · refine xs_iinc (q := 49) (ls2 := [_, _, _]) i_MO_firstJob_46 rfl rfl rfl (xs_n rfl ?_)
                refine xs_goto (q := 9) i_MO_firstJob_49 rfl (xs_z rfl ?_)
                exact ⟨(2 - s) * 100 + 50 - (t + 1), by omega, Or.inr (Or.inr ⟨s, t + 1, rfl, rfl, rfl, rfl, ⟨⟨by omega, by omega⟩, hn, fun e => am_ls (i := (t : Int)) (hn0 e) (by simp only [Int.toNat_natCast] at *; omega) (by omega), fun e => am_ls (i := (t : Int)) (hn1 e) (by simp only [Int.toNat_natCast] at *; omega) (by omega)⟩, rfl⟩)⟩
              · refine xs_iload_n (q := 45) i_MO_firstJob_44 rfl rfl (xs_n rfl ?_)
                refine xs_iret i_MO_firstJob_45 ?_
                simp only [Int.toNat_natCast] at h23 h41
                have e9 : mo_fh M = t := am_fi_eq _ _ 0 t (by omega) (by omega) (fun j _ hj => decide_eq_false (hn0 (by omega) j (by omega))) (fun _ => decide_eq_true ⟨h23, by omega⟩)
                exact xs_fin (by simp only [f_MO_firstJob, mo_fj]; rw [e9, if_pos (by omega)]) rfl trivial
    · exact h.elim
