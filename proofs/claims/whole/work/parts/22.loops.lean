/-! contracts: the class's loops over tasks (wip/whole/p22.py) -/
section XS2
variable {Sg : List am_S} {Sc : Option (Nat × (Nat → Int))} {Fd : Nat → Option (Nat × Nat × Nat)} {Ct : am_T} {Zr : am_Z} {I : Nat → Option (Instr × Nat)} {sp : Nat → Bool} {Z : am_K} {n pc : Nat} {ls : am_L} {st : List am_V} {M : am_M}
theorem xs_q {q : Nat} (hq : pc = q) (h : am_nx Sg Sc Fd Ct Zr I sp Z n q ls st M) : am_nx Sg Sc Fd Ct Zr I sp Z n pc ls st M := by subst hq; exact h
theorem xs_lookup {a d : Int} {ps : Array (Int × Int)} {len : Nat} (hi : I pc = some (.lookupswitch d ps, len)) (h0 : 0 ≤ (pc : Int) + d) (h1 : ∀ o ∈ ps.toList, 0 ≤ (pc : Int) + o.2) (h2 : (ps.toList.zip (ps.toList.drop 1)).all (fun (a, next) => a.1 < next.1) = true) (hR : am_R a) (h : am_lk a d (fun o => am_nx Sg Sc Fd Ct Zr I sp Z n ((pc : Int) + o).toNat ls st M) ps.toList) : am_wp Sg Sc Fd Ct Zr I sp Z (n + 1) pc ls (.inl a :: st) M := xs hi ⟨h0, h1, h2, hR, h⟩
theorem am_lk0 {a d : Int} {f : Int → Prop} (h : f d) : am_lk a d f [] := h
end XS2
def am_fill (id n : Nat) (v : Int) (M : am_M) : am_M := fun a b => if a = id ∧ b < n then v else M a b
theorem am_fill_0 (id : Nat) (v : Int) (M : am_M) : am_fill id 0 v M = M := by funext a b; simp [am_fill]
theorem am_fill_s (id n : Nat) (v : Int) (M : am_M) : am_up (am_fill id n v M) id n v = am_fill id (n + 1) v M := by
  funext a b
  simp only [am_up, am_fill]
  by_cases h1 : a = id
  · by_cases h2 : b = n
    · simp [h1, h2]
    · by_cases h3 : b < n
      · rw [if_neg (fun z => h2 z.2), if_pos ⟨h1, h3⟩, if_pos ⟨h1, by omega⟩]
      · rw [if_neg (fun z => h2 z.2), if_neg (fun z => h3 z.2), if_neg (fun z => h3 (by omega))]
  · simp [h1]
/-- the columns below n get h -/
def am_col (M : am_M) (n : Nat) (h : Nat → Nat → Int) : am_M := fun k j => if j < n then h k j else M k j
theorem am_col_0 (M : am_M) (h : Nat → Nat → Int) : am_col M 0 h = M := by funext k j; simp [am_col]
theorem am_col_ge {M : am_M} {n k j : Nat} {h : Nat → Nat → Int} (hj : n ≤ j) : am_col M n h k j = M k j := by simp [am_col]; omega
theorem am_col_lt {M : am_M} {n k j : Nat} {h : Nat → Nat → Int} (hj : j < n) : am_col M n h k j = h k j := by simp [am_col, hj]
theorem am_col_k {M : am_M} {n k j : Nat} {h : Nat → Nat → Int} (hk : h k j = M k j) : am_col M n h k j = M k j := by simp [am_col, hk]
theorem am_col_s {M M2 M3 : am_M} {n : Nat} {h : Nat → Nat → Int} (hM : M2 = am_col M n h) (h1 : ∀ k, M3 k n = h k n) (h2 : ∀ k j, j ≠ n → M3 k j = M2 k j) : M3 = am_col M (n + 1) h := by
  funext k j
  by_cases e : j = n
  · subst e
    rw [h1, am_col_lt (by omega)]
  · rw [h2 k j e, hM]
    by_cases e2 : j < n
    · rw [am_col_lt e2, am_col_lt (by omega)]
    · rw [am_col_ge (by omega), am_col_ge (by omega)]
/-- the first place from i on, of k, with p; else i + k -/
def am_fi (p : Nat → Bool) : Nat → Nat → Nat
  | 0, i => i
  | k + 1, i => if p i = true then i else am_fi p k (i + 1)
theorem am_fi_eq (p : Nat → Bool) : ∀ (k i r : Nat), i ≤ r → r ≤ i + k → (∀ j, i ≤ j → j < r → p j = false) → (r < i + k → p r = true) → am_fi p k i = r
  | 0, i, r, h1, h2, _, _ => by simp only [am_fi]; omega
  | k + 1, i, r, h1, h2, h3, h4 => by
    simp only [am_fi]
    by_cases e : i = r
    · subst e
      rw [if_pos (h4 (by omega))]
    · rw [if_neg (by rw [h3 i (Nat.le_refl _) (by omega)]; decide)]
      exact am_fi_eq p k (i + 1) r (by omega) (by omega) (fun j hj => h3 j (by omega)) (fun h => h4 (by omega))
/-- the tasks as they must lie -/
def ts_ok (M : am_M) : Prop := (0 ≤ M 1 5 ∧ M 1 5 ≤ 5) ∧ ∀ r : Nat, (r : Int) < M 1 5 → (0 ≤ M 6 r ∧ M 6 r < M 1 5) ∧ (1 ≤ M 2 r ∧ M 2 r ≤ 60) ∧ (0 ≤ M 3 r ∧ M 3 r < M 2 r) ∧ (1 ≤ M 4 r ∧ M 4 r ≤ M 5 r ∧ M 5 r ≤ M 2 r)
def rb_ok (M : am_M) : Prop := (1 ≤ M 9 1 ∧ M 9 1 ≤ 60 ∧ 1 ≤ M 8 1 ∧ M 8 1 ≤ M 9 1) ∧ (1 ≤ M 9 2 ∧ M 9 2 ≤ 60 ∧ 1 ≤ M 8 2 ∧ M 8 2 ≤ M 9 2) ∧ (0 ≤ M 7 2 ∧ M 7 2 ≤ 3)
def P_JA_fill : am_P := fun av M => match av with
  | [.inr (.inl id), .inl v] => id < 100 ∧ ∃ N, vw_S[id]? = some (.inl (0, N))
  | _ => False
def f_JA_fill : am_Fr := fun av M => match av with
  | [.inr (.inl id), .inl v] => none
  | _ => none
def g_JA_fill : am_Fm := fun av M => match av with
  | [.inr (.inl id), .inl v] => (match vw_S[id]? with
    | some (.inl (_, N)) => am_fill id N v M
    | _ => M)
  | _ => M
def inv_JA_fill : List am_V → am_M → Nat → am_K := fun av M μ pc ls st M2 => match av with
  | [.inr (.inl id), .inl v] => (pc = 0 ∧ ls = am_l0 [.inr (.inl id), .inl v] 4 ∧ st = [] ∧ M = M2 ∧ μ = 1000000000000) ∨ ∃ (i : Int) (N : Nat), pc = 5 ∧ ls = [some (.inr (.inl id)), some (.inl v), some (.inl i), some (.inl (N : Int))] ∧ st = [] ∧ M2 = am_fill id i.toNat v M ∧ (vw_S[id]? = some (.inl (0, N)) ∧ 0 ≤ i ∧ i ≤ N) ∧ μ = (N - i).toNat
  | _ => False
theorem m_JA_fill (l : Launch) : am_MF l y_JA_fill w_JA_fill r_JA_fill P_JA_fill f_JA_fill g_JA_fill := by
  refine am_mkL (fun pc => pc == 5) i_JA_fill_ok fd_none_ok am_CC0 (by decide +kernel) (by decide) ?_ 20 inv_JA_fill ?_ ?_
  · intro av M h
    unfold P_JA_fill at h
    split at h
    · exact ⟨Nat.le_of_ble_eq_true rfl, rfl⟩
    · exact h.elim
  · intro av M h
    unfold P_JA_fill at h
    split at h
    · exact ⟨_, Or.inl ⟨rfl, rfl, rfl, rfl, rfl⟩⟩
    · exact h.elim
  · intro av M h μ pc ls st M2 hi
    unfold P_JA_fill at h
    split at h
    · rename_i id v
      obtain ⟨h1, N, hN⟩ := h
      rcases hi with ⟨rfl, rfl, rfl, rfl, rfl⟩ | ⟨i, N, rfl, rfl, rfl, rfl, ⟨hN, hi0, hi1⟩, rfl⟩
      · skip
        refine xs_iconst (q := 1) i_JA_fill_0 rfl (xs_n rfl ?_)
        refine xs_istore_n (q := 2) (ls2 := [_, _, _, _]) i_JA_fill_1 rfl rfl rfl (xs_n rfl ?_)
        refine xs_aload_n (q := 3) i_JA_fill_2 rfl rfl (xs_n rfl ?_)
        refine xs_alen (q := 4) i_JA_fill_3 rfl hN (am_ns (by omega)) (xs_n rfl ?_)
        refine xs_istore_n (q := 5) (ls2 := [_, _, _, _]) i_JA_fill_4 rfl rfl rfl (xs_z rfl ?_)
        have hz := vw_Sz _ _ _ hN
        exact ⟨N, by omega, Or.inr ⟨0, N, rfl, rfl, rfl, (am_fill_0 _ _ _).symm, ⟨hN, by omega, by omega⟩, by omega⟩⟩
      · skip
        refine xs_iload_n (q := 6) i_JA_fill_5 rfl rfl (xs_n rfl ?_)
        refine xs_iload_n (q := 7) i_JA_fill_6 rfl rfl (xs_n rfl ?_)
        refine xs_ic_ge (q := 20) (r := 10) i_JA_fill_7 rfl rfl ⟨by have := vw_Sz _ _ _ hN; unfold am_R; omega, by have := vw_Sz _ _ _ hN; unfold am_R; omega⟩ (fun h7 => (xs_n rfl ?_)) (fun h7 => (xs_n rfl ?_))
        · refine xs_ret i_JA_fill_20 ?_
          exact xs_fin rfl (by simp only [g_JA_fill]; rw [hN]; rw [show i.toNat = N by omega]) trivial
        · refine xs_aload_n (q := 11) i_JA_fill_10 rfl rfl (xs_n rfl ?_)
          refine xs_iload_n (q := 12) i_JA_fill_11 rfl rfl (xs_n rfl ?_)
          refine xs_iload_n (q := 13) i_JA_fill_12 rfl rfl (xs_n rfl ?_)
          refine xs_iastore (q := 14) i_JA_fill_13 rfl hN (by omega) (xs_n rfl ?_)
          refine xs_iinc (q := 17) (ls2 := [_, _, _, _]) i_JA_fill_14 rfl rfl rfl (xs_n rfl ?_)
          refine xs_goto (q := 5) i_JA_fill_17 rfl (xs_z rfl ?_)
          exact ⟨(N - (i + 1) : Int).toNat, by omega, Or.inr ⟨i + 1, N, rfl, rfl, rfl, by rw [am_fill_s, show (i + 1).toNat = i.toNat + 1 by omega], ⟨hN, by omega, by omega⟩, rfl⟩⟩
    · exact h.elim
def P_RB_clear : am_P := fun av M => match av with
  | [.inr (.inl i)] => i = 7
  | _ => False
def f_RB_clear : am_Fr := fun av M => match av with
  | [.inr (.inl i)] => none
  | _ => none
def g_RB_clear : am_Fm := fun av M => match av with
  | [.inr (.inl i)] => am_up (am_fill 9 4 60 (am_fill 8 4 1 M)) 7 2 0
  | _ => M
def ct_RB_clear : am_T := fun pc => if pc = 5 then some (2, am_ctS P_JA_fill (am_po f_JA_fill g_JA_fill)) else if pc = 14 then some (2, am_ctS P_JA_fill (am_po f_JA_fill g_JA_fill)) else none
theorem e_RB_clear_5 : ct_RB_clear 5 = some (2, am_ctS P_JA_fill (am_po f_JA_fill g_JA_fill)) := rfl
theorem e_RB_clear_14 : ct_RB_clear 14 = some (2, am_ctS P_JA_fill (am_po f_JA_fill g_JA_fill)) := rfl
theorem ct_RB_clear_ok (l : Launch) : am_CC b_RB_clear 1 w_RB_clear y_RB_clear.cls l r_RB_clear ct_RB_clear := by
  intro p e s m args below meth c H0 A D G ad Q S hK hN hA pc q ct h
  have hts := S.2.2.2.2
  unfold ct_RB_clear at h
  split at h
  · rename_i hpc
    subst hpc; cases h
    exact am_callS S vw_N_ok hK hN hA ⟨Nat.zero_le _, Nat.zero_le _⟩ (m_JA_fill l) (s_RB_25 hts am_vW hN ⟨by decide, by decide⟩) d_RB_clear_5
  split at h
  · rename_i hpc
    subst hpc; cases h
    exact am_callS S vw_N_ok hK hN hA ⟨Nat.zero_le _, Nat.zero_le _⟩ (m_JA_fill l) (s_RB_25 hts am_vW hN ⟨by decide, by decide⟩) d_RB_clear_14
  cases h
theorem m_RB_clear (l : Launch) : am_MF l y_RB_clear w_RB_clear r_RB_clear P_RB_clear f_RB_clear g_RB_clear := by
  refine am_mk0 i_RB_clear_ok fd_RB_ok (ct_RB_clear_ok l) (plainFor_of_name (by decide +kernel)) (by decide) ?_ 16 ?_
  · intro av M h
    unfold P_RB_clear at h
    split at h
    · exact ⟨Nat.le_of_ble_eq_true rfl, rfl⟩
    · exact h.elim
  · intro av M Z h
    unfold P_RB_clear at h
    split at h
    · rename_i i
      subst h
      refine xs_aload_n (q := 1) i_RB_clear_0 rfl rfl (xs_n rfl ?_)
      refine xs_getr (q := 4) i_RB_clear_1 rfl fd_RB_9 sg_7 rfl (xs_n rfl ?_)
      refine xs_iconst (q := 5) i_RB_clear_4 rfl (xs_n rfl ?_)
      refine xs_cs (q := 8) i_RB_clear_5 rfl (e_RB_clear_5) ⟨rfl, rfl⟩ rfl rfl ?_
      rw [am_S_iff]
      refine ⟨⟨by decide, 4, rfl⟩, ?_⟩
      refine xs_r0 rfl (xs_n rfl ?_)
      refine xs_aload_n (q := 9) i_RB_clear_8 rfl rfl (xs_n rfl ?_)
      refine xs_getr (q := 12) i_RB_clear_9 rfl fd_RB_15 sg_7 rfl (xs_n rfl ?_)
      refine xs_bipush (q := 14) i_RB_clear_12 rfl (by decide) (xs_n rfl ?_)
      refine xs_cs (q := 17) i_RB_clear_14 rfl (e_RB_clear_14) ⟨rfl, rfl⟩ rfl rfl ?_
      rw [am_S_iff]
      refine ⟨⟨by decide, 4, rfl⟩, ?_⟩
      refine xs_r0 rfl (xs_n rfl ?_)
      refine xs_aload_n (q := 18) i_RB_clear_17 rfl rfl (xs_n rfl ?_)
      refine xs_iconst (q := 19) i_RB_clear_18 rfl (xs_n rfl ?_)
      refine xs_puti (q := 22) i_RB_clear_19 rfl fd_RB_18 sg_7 rfl (xs_n rfl ?_)
      refine xs_ret i_RB_clear_22 ?_
      exact xs_fin rfl rfl trivial
    · exact h.elim
def P_RB_demandWithin : am_P := fun av M => match av with
  | [.inr (.inl i), .inl s, .inl k] => i = 7 ∧ (0 ≤ s ∧ s ≤ 100000) ∧ am_R k ∧ rb_ok M
  | _ => False
def f_RB_demandWithin : am_Fr := fun av M => match av with
  | [.inr (.inl i), .inl s, .inl k] => some (.inl (if k = 1 then (1 + ma_ru (if 0 < s - M 8 1 then s - M 8 1 else 0) (M 9 1)) * M 8 1 else if k = 2 then ma_ru s (M 9 2) * M 8 2 else 0))
  | _ => none
abbrev g_RB_demandWithin : am_Fm := g_id
def ct_RB_demandWithin : am_T := fun pc => if pc = 38 then some (2, am_ctS P_JM_max (am_po f_JM_max g_JM_max)) else if pc = 47 then some (2, am_ctS P_SD_roundedUp (am_po f_SD_roundedUp g_SD_roundedUp)) else if pc = 66 then some (2, am_ctS P_SD_roundedUp (am_po f_SD_roundedUp g_SD_roundedUp)) else none
theorem e_RB_demandWithin_38 : ct_RB_demandWithin 38 = some (2, am_ctS P_JM_max (am_po f_JM_max g_JM_max)) := rfl
theorem e_RB_demandWithin_47 : ct_RB_demandWithin 47 = some (2, am_ctS P_SD_roundedUp (am_po f_SD_roundedUp g_SD_roundedUp)) := rfl
theorem e_RB_demandWithin_66 : ct_RB_demandWithin 66 = some (2, am_ctS P_SD_roundedUp (am_po f_SD_roundedUp g_SD_roundedUp)) := rfl
theorem ct_RB_demandWithin_ok (l : Launch) : am_CC b_RB_demandWithin 3 w_RB_demandWithin y_RB_demandWithin.cls l r_RB_demandWithin ct_RB_demandWithin := by
  intro p e s m args below meth c H0 A D G ad Q S hK hN hA pc q ct h
  have hts := S.2.2.2.2
  unfold ct_RB_demandWithin at h
  split at h
  · rename_i hpc
    subst hpc; cases h
    exact am_callS S vw_N_ok hK hN hA ⟨Nat.zero_le _, Nat.zero_le _⟩ (m_JM_max l) (s_RB_39 hts am_vW hN ⟨by decide, by decide⟩) d_RB_demandWithin_38
  split at h
  · rename_i hpc
    subst hpc; cases h
    exact am_callS S vw_N_ok hK hN hA ⟨Nat.zero_le _, Nat.zero_le _⟩ (m_SD_roundedUp l) (s_RB_45 hts am_vW hN ⟨by decide, by decide⟩) d_RB_demandWithin_47
  split at h
  · rename_i hpc
    subst hpc; cases h
    exact am_callS S vw_N_ok hK hN hA ⟨Nat.zero_le _, Nat.zero_le _⟩ (m_SD_roundedUp l) (s_RB_45 hts am_vW hN ⟨by decide, by decide⟩) d_RB_demandWithin_66
  cases h
theorem m_RB_demandWithin (l : Launch) : am_MF l y_RB_demandWithin w_RB_demandWithin r_RB_demandWithin P_RB_demandWithin f_RB_demandWithin g_RB_demandWithin := by
  refine am_mk0 i_RB_demandWithin_ok fd_RB_ok (ct_RB_demandWithin_ok l) (plainFor_of_name (by decide +kernel)) (by decide) ?_ 40 ?_
  · intro av M h
    unfold P_RB_demandWithin at h
    split at h
    · exact ⟨Nat.le_of_ble_eq_true rfl, rfl⟩
    · exact h.elim
  · intro av M Z h
    unfold P_RB_demandWithin at h
    split at h
    · rename_i i s k
      obtain ⟨rfl, h1, h2, h3, h4, h5⟩ := h
      refine xs_iload_n (q := 1) i_RB_demandWithin_0 rfl rfl (xs_n rfl ?_)
      refine xs_lookup i_RB_demandWithin_1 (by decide) (by decide) (by decide) (h2) ⟨fun h1_0 => ?_, fun h1n0 => ⟨fun h1_1 => ?_, fun h1d => ?_⟩⟩
      · skip
        show am_nx _ _ _ _ _ _ _ _ _ _ _ _ _
        refine xs_q (q := 28) rfl (xs_n rfl ?_)
        have e1 : k = 1 := h1_0
        subst e1
        refine xs_iconst (q := 29) i_RB_demandWithin_28 rfl (xs_n rfl ?_)
        refine xs_iconst (q := 30) i_RB_demandWithin_29 rfl (xs_n rfl ?_)
        refine xs_iload_n (q := 31) i_RB_demandWithin_30 rfl rfl (xs_n rfl ?_)
        refine xs_aload_n (q := 32) i_RB_demandWithin_31 rfl rfl (xs_n rfl ?_)
        refine xs_getr (q := 35) i_RB_demandWithin_32 rfl fd_RB_9 sg_7 rfl (xs_n rfl ?_)
        refine xs_iload_n (q := 36) i_RB_demandWithin_35 rfl rfl (xs_n rfl ?_)
        refine xs_iaload (q := 37) i_RB_demandWithin_36 rfl sg_8 rfl (by omega) (xs_n rfl ?_)
        refine xs_isub (q := 38) i_RB_demandWithin_37 rfl (xs_n rfl ?_)
        refine xs_cs (q := 41) i_RB_demandWithin_38 rfl (e_RB_demandWithin_38) ⟨rfl, rfl⟩ rfl rfl ?_
        rw [am_S_iff]
        refine ⟨⟨by unfold am_R; omega, by show am_R (s - M 8 1); unfold am_R; omega⟩, ?_⟩
        dsimp only [g_JM_max, g_id]
        refine xs_r1 rfl (xs_n rfl ?_)
        refine xs_aload_n (q := 42) i_RB_demandWithin_41 rfl rfl (xs_n rfl ?_)
        refine xs_getr (q := 45) i_RB_demandWithin_42 rfl fd_RB_15 sg_7 rfl (xs_n rfl ?_)
        refine xs_iload_n (q := 46) i_RB_demandWithin_45 rfl rfl (xs_n rfl ?_)
        refine xs_iaload (q := 47) i_RB_demandWithin_46 rfl sg_9 rfl (by omega) (xs_n rfl ?_)
        refine xs_cs (q := 50) i_RB_demandWithin_47 rfl (e_RB_demandWithin_47) ⟨rfl, rfl⟩ rfl rfl ?_
        rw [am_S_iff]
        refine ⟨by show (0 ≤ (if 0 < s - M 8 1 then s - M 8 1 else 0) ∧ (if 0 < s - M 8 1 then s - M 8 1 else 0) ≤ 1000000 ∧ 0 < M 9 1 ∧ M 9 1 ≤ 1000000); by_cases hh : 0 < s - M 8 1 <;> simp only [hh, if_true, if_false] <;> omega, ?_⟩
        dsimp only [g_SD_roundedUp, g_id]
        refine xs_r1 rfl (xs_n rfl ?_)
        refine xs_iadd (q := 51) i_RB_demandWithin_50 rfl (xs_n rfl ?_)
        refine xs_aload_n (q := 52) i_RB_demandWithin_51 rfl rfl (xs_n rfl ?_)
        refine xs_getr (q := 55) i_RB_demandWithin_52 rfl fd_RB_9 sg_7 rfl (xs_n rfl ?_)
        refine xs_iload_n (q := 56) i_RB_demandWithin_55 rfl rfl (xs_n rfl ?_)
        refine xs_iaload (q := 57) i_RB_demandWithin_56 rfl sg_8 rfl (by omega) (xs_n rfl ?_)
        refine xs_imul (q := 58) i_RB_demandWithin_57 rfl (xs_n rfl ?_)
        refine xs_iret i_RB_demandWithin_58 ?_
        exact xs_fin rfl rfl trivial
      · skip
        show am_nx _ _ _ _ _ _ _ _ _ _ _ _ _
        refine xs_q (q := 59) rfl (xs_n rfl ?_)
        have e1 : k = 2 := h1_1
        subst e1
        refine xs_iload_n (q := 60) i_RB_demandWithin_59 rfl rfl (xs_n rfl ?_)
        refine xs_aload_n (q := 61) i_RB_demandWithin_60 rfl rfl (xs_n rfl ?_)
        refine xs_getr (q := 64) i_RB_demandWithin_61 rfl fd_RB_15 sg_7 rfl (xs_n rfl ?_)
        refine xs_iload_n (q := 65) i_RB_demandWithin_64 rfl rfl (xs_n rfl ?_)
        refine xs_iaload (q := 66) i_RB_demandWithin_65 rfl sg_9 rfl (by omega) (xs_n rfl ?_)
        refine xs_cs (q := 69) i_RB_demandWithin_66 rfl (e_RB_demandWithin_66) ⟨rfl, rfl⟩ rfl rfl ?_
        rw [am_S_iff]
        refine ⟨by show (0 ≤ s ∧ s ≤ 1000000 ∧ 0 < M 9 2 ∧ M 9 2 ≤ 1000000); omega, ?_⟩
        dsimp only [g_SD_roundedUp, g_id]
        refine xs_r1 rfl (xs_n rfl ?_)
        refine xs_aload_n (q := 70) i_RB_demandWithin_69 rfl rfl (xs_n rfl ?_)
        refine xs_getr (q := 73) i_RB_demandWithin_70 rfl fd_RB_9 sg_7 rfl (xs_n rfl ?_)
        refine xs_iload_n (q := 74) i_RB_demandWithin_73 rfl rfl (xs_n rfl ?_)
        refine xs_iaload (q := 75) i_RB_demandWithin_74 rfl sg_8 rfl (by omega) (xs_n rfl ?_)
        refine xs_imul (q := 76) i_RB_demandWithin_75 rfl (xs_n rfl ?_)
        refine xs_iret i_RB_demandWithin_76 ?_
        exact xs_fin rfl rfl trivial
      · refine am_lk0 ?_
        show am_nx _ _ _ _ _ _ _ _ _ _ _ _ _
        refine xs_q (q := 77) rfl (xs_n rfl ?_)
        refine xs_iconst (q := 78) i_RB_demandWithin_77 rfl (xs_n rfl ?_)
        refine xs_iret i_RB_demandWithin_78 ?_
        exact xs_fin (by simp only [f_RB_demandWithin]; rw [if_neg h1n0, if_neg h1d]) rfl trivial
    · exact h.elim
/-- the demand of a rank and those above it in a span -/
def ts_dem (M : am_M) (r : Nat) (s : Int) : Int := M 4 (M 6 r).toNat + ma_su (fun j => ma_ru s (M 2 (M 6 j).toNat) * M 4 (M 6 j).toNat) r
def P_TS_demandWithin : am_P := fun av M => match av with
  | [.inr (.inl i), .inl s, .inl r] => i = 1 ∧ (0 ≤ s ∧ s ≤ 100000) ∧ (0 ≤ r ∧ r < M 1 5) ∧ ts_ok M
  | _ => False
def f_TS_demandWithin : am_Fr := fun av M => match av with
  | [.inr (.inl i), .inl s, .inl r] => some (.inl (ts_dem M r.toNat s))
  | _ => none
abbrev g_TS_demandWithin : am_Fm := g_id
def ct_TS_demandWithin : am_T := fun pc => if pc = 39 then some (2, am_ctS P_SD_roundedUp (am_po f_SD_roundedUp g_SD_roundedUp)) else none
theorem e_TS_demandWithin_39 : ct_TS_demandWithin 39 = some (2, am_ctS P_SD_roundedUp (am_po f_SD_roundedUp g_SD_roundedUp)) := rfl
theorem ct_TS_demandWithin_ok (l : Launch) : am_CC b_TS_demandWithin 6 w_TS_demandWithin y_TS_demandWithin.cls l r_TS_demandWithin ct_TS_demandWithin := by
  intro p e s m args below meth c H0 A D G ad Q S hK hN hA pc q ct h
  have hts := S.2.2.2.2
  unfold ct_TS_demandWithin at h
  split at h
  · rename_i hpc
    subst hpc; cases h
    exact am_callS S vw_N_ok hK hN hA ⟨Nat.zero_le _, Nat.zero_le _⟩ (m_SD_roundedUp l) (s_TS_52 hts am_vW hN ⟨by decide, by decide⟩) d_TS_demandWithin_39
  cases h
def inv_TS_demandWithin : List am_V → am_M → Nat → am_K := fun av M μ pc ls st M2 => match av with
  | [.inr (.inl i), .inl s, .inl r] => (pc = 0 ∧ ls = am_l0 [.inr (.inl i), .inl s, .inl r] 6 ∧ st = [] ∧ M = M2 ∧ μ = r.toNat + 1) ∨ ∃ (x a : Int) (w : Option am_V), pc = 15 ∧ ls = [some (.inr (.inl i)), some (.inl s), some (.inl r), some (.inl x), some (.inl a), w] ∧ st = [] ∧ M = M2 ∧ (x = M 4 (M 6 r.toNat).toNat + ma_su (fun j => ma_ru s (M 2 (M 6 j).toNat) * M 4 (M 6 j).toNat) a.toNat ∧ 0 ≤ a ∧ a ≤ r) ∧ μ = (r - a).toNat
  | _ => False
theorem m_TS_demandWithin (l : Launch) : am_MF l y_TS_demandWithin w_TS_demandWithin r_TS_demandWithin P_TS_demandWithin f_TS_demandWithin g_TS_demandWithin := by
  refine am_mkL (fun pc => pc == 15) i_TS_demandWithin_ok fd_TS_ok (ct_TS_demandWithin_ok l) (plainFor_of_name (by decide +kernel)) (by decide) ?_ 40 inv_TS_demandWithin ?_ ?_
  · intro av M h
    unfold P_TS_demandWithin at h
    split at h
    · exact ⟨Nat.le_of_ble_eq_true rfl, rfl⟩
    · exact h.elim
  · intro av M h
    unfold P_TS_demandWithin at h
    split at h
    · exact ⟨_, Or.inl ⟨rfl, rfl, rfl, rfl, rfl⟩⟩
    · exact h.elim
  · intro av M h μ pc ls st M2 hi
    unfold P_TS_demandWithin at h
    split at h
    · rename_i i s r
      obtain ⟨rfl, h1, h2, h3, h4⟩ := h
      have hr := (h4 r.toNat (by omega)).1
      rcases hi with ⟨rfl, rfl, rfl, rfl, rfl⟩ | ⟨x, a, w, rfl, rfl, rfl, rfl, ⟨hx, ha0, ha1⟩, rfl⟩
      · skip
        refine xs_aload_n (q := 1) i_TS_demandWithin_0 rfl rfl (xs_n rfl ?_)
        refine xs_getr (q := 4) i_TS_demandWithin_1 rfl fd_TS_18 sg_1 rfl (xs_n rfl ?_)
        refine xs_aload_n (q := 5) i_TS_demandWithin_4 rfl rfl (xs_n rfl ?_)
        refine xs_getr (q := 8) i_TS_demandWithin_5 rfl fd_TS_24 sg_1 rfl (xs_n rfl ?_)
        refine xs_iload_n (q := 9) i_TS_demandWithin_8 rfl rfl (xs_n rfl ?_)
        refine xs_iaload (q := 10) i_TS_demandWithin_9 rfl sg_6 rfl (by omega) (xs_n rfl ?_)
        refine xs_iaload (q := 11) i_TS_demandWithin_10 rfl sg_4 rfl (by omega) (xs_n rfl ?_)
        refine xs_istore_n (q := 12) (ls2 := [_, _, _, _, _, _]) i_TS_demandWithin_11 rfl rfl rfl (xs_n rfl ?_)
        refine xs_iconst (q := 13) i_TS_demandWithin_12 rfl (xs_n rfl ?_)
        refine xs_istore (q := 15) (ls2 := [_, _, _, _, _, _]) i_TS_demandWithin_13 rfl rfl rfl (xs_z rfl ?_)
        exact ⟨r.toNat, by omega, Or.inr ⟨_, 0, _, rfl, rfl, rfl, rfl, ⟨by simp [ma_su], by omega, by omega⟩, by omega⟩⟩
      · skip
        refine xs_iload (q := 17) i_TS_demandWithin_15 rfl rfl (xs_n rfl ?_)
        refine xs_iload_n (q := 18) i_TS_demandWithin_17 rfl rfl (xs_n rfl ?_)
        refine xs_ic_ge (q := 58) (r := 21) i_TS_demandWithin_18 rfl rfl ⟨by unfold am_R; omega, by unfold am_R; omega⟩ (fun h18 => (xs_n rfl ?_)) (fun h18 => (xs_n rfl ?_))
        · refine xs_iload_n (q := 59) i_TS_demandWithin_58 rfl rfl (xs_n rfl ?_)
          refine xs_iret i_TS_demandWithin_59 ?_
          exact xs_fin (by simp only [f_TS_demandWithin, ts_dem]; rw [hx, show a.toNat = r.toNat by omega]) rfl trivial
        · have hq := h4 a.toNat (by omega)
          have hp := h4 (M 6 a.toNat).toNat (by omega)
          refine xs_aload_n (q := 22) i_TS_demandWithin_21 rfl rfl (xs_n rfl ?_)
          refine xs_getr (q := 25) i_TS_demandWithin_22 rfl fd_TS_24 sg_1 rfl (xs_n rfl ?_)
          refine xs_iload (q := 27) i_TS_demandWithin_25 rfl rfl (xs_n rfl ?_)
          refine xs_iaload (q := 28) i_TS_demandWithin_27 rfl sg_6 rfl (by omega) (xs_n rfl ?_)
          refine xs_istore (q := 30) (ls2 := [_, _, _, _, _, _]) i_TS_demandWithin_28 rfl rfl rfl (xs_n rfl ?_)
          refine xs_iload_n (q := 31) i_TS_demandWithin_30 rfl rfl (xs_n rfl ?_)
          refine xs_iload_n (q := 32) i_TS_demandWithin_31 rfl rfl (xs_n rfl ?_)
          refine xs_aload_n (q := 33) i_TS_demandWithin_32 rfl rfl (xs_n rfl ?_)
          refine xs_getr (q := 36) i_TS_demandWithin_33 rfl fd_TS_9 sg_1 rfl (xs_n rfl ?_)
          refine xs_iload (q := 38) i_TS_demandWithin_36 rfl rfl (xs_n rfl ?_)
          refine xs_iaload (q := 39) i_TS_demandWithin_38 rfl sg_2 rfl (by omega) (xs_n rfl ?_)
          refine xs_cs (q := 42) i_TS_demandWithin_39 rfl (e_TS_demandWithin_39) ⟨rfl, rfl⟩ rfl rfl ?_
          rw [am_S_iff]
          refine ⟨⟨by omega, by omega, by omega, by omega⟩, ?_⟩
          dsimp only [g_SD_roundedUp, g_id]
          refine xs_r1 rfl (xs_n rfl ?_)
          refine xs_aload_n (q := 43) i_TS_demandWithin_42 rfl rfl (xs_n rfl ?_)
          refine xs_getr (q := 46) i_TS_demandWithin_43 rfl fd_TS_18 sg_1 rfl (xs_n rfl ?_)
          refine xs_iload (q := 48) i_TS_demandWithin_46 rfl rfl (xs_n rfl ?_)
          refine xs_iaload (q := 49) i_TS_demandWithin_48 rfl sg_4 rfl (by omega) (xs_n rfl ?_)
          refine xs_imul (q := 50) i_TS_demandWithin_49 rfl (xs_n rfl ?_)
          refine xs_iadd (q := 51) i_TS_demandWithin_50 rfl (xs_n rfl ?_)
          refine xs_istore_n (q := 52) (ls2 := [_, _, _, _, _, _]) i_TS_demandWithin_51 rfl rfl rfl (xs_n rfl ?_)
          refine xs_iinc (q := 55) (ls2 := [_, _, _, _, _, _]) i_TS_demandWithin_52 rfl rfl rfl (xs_n rfl ?_)
          refine xs_goto (q := 15) i_TS_demandWithin_55 rfl (xs_z rfl ?_)
          exact ⟨(r - (a + 1)).toNat, by omega, Or.inr ⟨_, a + 1, _, rfl, rfl, rfl, rfl, ⟨by rw [hx, show (a + 1).toNat = a.toNat + 1 by omega]; simp only [ma_su]; omega, by omega, by omega⟩, rfl⟩⟩
    · exact h.elim
