/-! contracts: the admission, a new task (wip/whole/p25.py) -/
/-- the rule's demand in a span -/
def rb_dem (M : am_M) (k s : Int) : Int := if k = 1 then (1 + ma_ru (if 0 < s - M 8 1 then s - M 8 1 else 0) (M 9 1)) * M 8 1 else if k = 2 then ma_ru s (M 9 2) * M 8 2 else 0
/-- the admission's turns -/
def am_rta (D : Int → Int) (most : Int) : Nat → Int → Int
  | 0, _ => 0
  | n + 1, r => if r ≤ most then (if D r = r then 1 else am_rta D most n (D r)) else 0
def ts_D (M : am_M) (k : Int) (r : Nat) (s : Int) : Int := ts_dem M r s + rb_dem M k s
/-- is the rank in time -/
def ts_it (M : am_M) (k : Int) (r : Nat) : Int := am_rta (ts_D M k r) (M 5 (M 6 r).toNat) 61 (M 4 (M 6 r).toNat)
theorem ma_ru_s {s p : Int} (hs : 0 ≤ s) (hp : 1 ≤ p) : ma_ru s p ≤ s := ma_ru_le (by omega) (by have := Int.mul_le_mul_of_nonneg_left hp hs; omega)
theorem ma_mul {a c x y : Int} (ha : 0 ≤ a) (hc : 0 ≤ c) (h1 : a ≤ x) (h2 : c ≤ y) : 0 ≤ a * c ∧ a * c ≤ x * y := ⟨Int.mul_nonneg ha hc, Int.mul_le_mul h1 h2 hc (by omega)⟩
theorem ma_su_c (K : Int) : ∀ n : Nat, ma_su (fun _ => K) n = n * K
  | 0 => by simp [ma_su]
  | n + 1 => by
    have h := ma_su_c K n
    simp only [ma_su]
    rw [h, Int.natCast_add, Int.add_mul]
    simp
theorem ts_dem_b {M : am_M} (h : ts_ok M) {r : Nat} (hr : (r : Int) < M 1 5) {s : Int} (hs : 0 ≤ s ∧ s ≤ 100) : 0 ≤ ts_dem M r s ∧ ts_dem M r s ≤ 50000 := by
  obtain ⟨h1, h4⟩ := h
  have key : ∀ j : Nat, j < r → 0 ≤ ma_ru s (M 2 (M 6 j).toNat) * M 4 (M 6 j).toNat ∧ ma_ru s (M 2 (M 6 j).toNat) * M 4 (M 6 j).toNat ≤ 100 * 60 := by
    intro j hj
    have a1 := (h4 j (by omega)).1
    have a2 := h4 (M 6 j).toNat (by omega)
    have a3 := ma_ru_s (s := s) (p := M 2 (M 6 j).toNat) hs.1 a2.2.1.1
    have a4 := ma_ru_nn (r := s) (p := M 2 (M 6 j).toNat) (by omega) hs.1
    exact ma_mul a4 (by omega) (by omega) (by omega)
  have b1 := ma_su_nn (n := r) (fun j hj => (key j hj).1)
  have b2 := ma_su_le (n := r) (g := fun _ => 6000) (fun j hj => (key j hj).2)
  rw [ma_su_c] at b2
  have a1 := (h4 r hr).1
  have a2 := h4 (M 6 r).toNat (by omega)
  unfold ts_dem
  omega
theorem rb_dem_b {M : am_M} (h : rb_ok M) {k s : Int} (hs : 0 ≤ s ∧ s ≤ 100) : 0 ≤ rb_dem M k s ∧ rb_dem M k s ≤ 10000 := by
  obtain ⟨h1, h2, h3⟩ := h
  unfold rb_dem
  by_cases e1 : k = 1
  · rw [if_pos e1]
    by_cases e2 : 0 < s - M 8 1
    · rw [if_pos e2]
      have a3 := ma_ru_s (s := s - M 8 1) (p := M 9 1) (by omega) (by omega)
      have a4 := ma_ru_nn (r := s - M 8 1) (p := M 9 1) (by omega) (by omega)
      have := ma_mul (a := 1 + ma_ru (s - M 8 1) (M 9 1)) (c := M 8 1) (x := 101) (y := 60) (by omega) (by omega) (by omega) (by omega)
      omega
    · rw [if_neg e2, ma_ru_0 (by omega)]
      omega
  · rw [if_neg e1]
    by_cases e2 : k = 2
    · rw [if_pos e2]
      have a3 := ma_ru_s (s := s) (p := M 9 2) (by omega) (by omega)
      have a4 := ma_ru_nn (r := s) (p := M 9 2) (by omega) (by omega)
      have := ma_mul (a := ma_ru s (M 9 2)) (c := M 8 2) (x := 100) (y := 60) (by omega) (by omega) (by omega) (by omega)
      omega
    · rw [if_neg e2]
      omega
theorem am_rta_01 (D : Int → Int) (most : Int) : ∀ (n : Nat) (r : Int), am_rta D most n r = 0 ∨ am_rta D most n r = 1
  | 0, _ => Or.inl rfl
  | n + 1, r => by
    rw [am_rta]
    by_cases h1 : r ≤ most
    · rw [if_pos h1]
      by_cases h2 : D r = r
      · rw [if_pos h2]; exact Or.inr rfl
      · rw [if_neg h2]; exact am_rta_01 D most n (D r)
    · rw [if_neg h1]; exact Or.inl rfl
def P_TS_isInTime : am_P := fun av M => match av with
  | [.inr (.inl i), .inl r, .inr (.inl e), .inl k] => i = 1 ∧ e = 7 ∧ (0 ≤ r ∧ r < M 1 5) ∧ am_R k ∧ ts_ok M ∧ rb_ok M
  | _ => False
def f_TS_isInTime : am_Fr := fun av M => match av with
  | [.inr (.inl i), .inl r, .inr (.inl e), .inl k] => some (.inl (ts_it M k r.toNat))
  | _ => none
abbrev g_TS_isInTime : am_Fm := g_id
def ct_TS_isInTime : am_T := fun pc => if pc = 47 then some (3, am_ctV vw_S 1 P_TS_demandWithin (am_po f_TS_demandWithin g_TS_demandWithin)) else if pc = 54 then some (3, am_ctV vw_S 2 P_RB_demandWithin (am_po f_RB_demandWithin g_RB_demandWithin)) else none
theorem e_TS_isInTime_47 : ct_TS_isInTime 47 = some (3, am_ctV vw_S 1 P_TS_demandWithin (am_po f_TS_demandWithin g_TS_demandWithin)) := rfl
theorem e_TS_isInTime_54 : ct_TS_isInTime 54 = some (3, am_ctV vw_S 2 P_RB_demandWithin (am_po f_RB_demandWithin g_RB_demandWithin)) := rfl
theorem ct_TS_isInTime_ok (l : Launch) : am_CC b_TS_isInTime 8 w_TS_isInTime y_TS_isInTime.cls l r_TS_isInTime ct_TS_isInTime := by
  intro p e s m args below meth c H0 A D G ad Q S hK hN hA pc q ct h
  have hts := S.2.2.2.2
  unfold ct_TS_isInTime at h
  split at h
  · rename_i hpc
    subst hpc; cases h
    exact am_callV S vw_N_ok hK hN hA ⟨Nat.zero_le _, Nat.zero_le _⟩ (m_TS_demandWithin l) (s_TS_46 hts am_vW hN ⟨by decide, by decide⟩) (by rfl) d_TS_isInTime_47
  split at h
  · rename_i hpc
    subst hpc; cases h
    exact am_callV S vw_N_ok hK hN hA ⟨Nat.zero_le _, Nat.zero_le _⟩ (m_RB_demandWithin l) (s_TS_49 hts am_vW hN ⟨by decide, by decide⟩) (by rfl) d_TS_isInTime_54
  cases h
def inv_TS_isInTime : List am_V → am_M → Nat → am_K := fun av M μ pc ls st M2 => match av with
  | [.inr (.inl i), .inl r, .inr (.inl e), .inl k] => (pc = 0 ∧ ls = am_l0 [.inr (.inl i), .inl r, .inr (.inl e), .inl k] 8 ∧ st = [] ∧ M = M2 ∧ μ = 100) ∨ ∃ (x t : Int) (w : Option am_V), pc = 29 ∧ ls = [some (.inr (.inl i)), some (.inl r), some (.inr (.inl e)), some (.inl k), some (.inl (M 5 (M 6 r.toNat).toNat)), some (.inl x), some (.inl t), w] ∧ st = [] ∧ M = M2 ∧ ((0 ≤ x ∧ x ≤ 100000) ∧ (0 ≤ t ∧ t ≤ 61) ∧ am_rta (ts_D M k r.toNat) (M 5 (M 6 r.toNat).toNat) (61 - t).toNat x = ts_it M k r.toNat) ∧ μ = (61 - t).toNat
  | _ => False
theorem m_TS_isInTime (l : Launch) : am_MF l y_TS_isInTime w_TS_isInTime r_TS_isInTime P_TS_isInTime f_TS_isInTime g_TS_isInTime := by
  refine am_mkL (fun pc => pc == 29) i_TS_isInTime_ok fd_TS_ok (ct_TS_isInTime_ok l) (plainFor_of_name (by decide +kernel)) (by decide) ?_ 60 inv_TS_isInTime ?_ ?_
  · intro av M h
    unfold P_TS_isInTime at h
    split at h
    · exact ⟨Nat.le_of_ble_eq_true rfl, rfl⟩
    · exact h.elim
  · intro av M h
    unfold P_TS_isInTime at h
    split at h
    · exact ⟨_, Or.inl ⟨rfl, rfl, rfl, rfl, rfl⟩⟩
    · exact h.elim
  · intro av M h μ pc ls st M2 hi
    unfold P_TS_isInTime at h
    split at h
    · rename_i i r e k
      obtain ⟨rfl, rfl, h1, h2, ⟨h3, h4⟩, h5⟩ := h
      have hr := (h4 r.toNat (by omega)).1
      have hq := h4 (M 6 r.toNat).toNat (by omega)
      rcases hi with ⟨rfl, rfl, rfl, rfl, rfl⟩ | ⟨x, t, w, rfl, rfl, rfl, rfl, ⟨hx, ht, hg⟩, rfl⟩
      · skip
        refine xs_aload_n (q := 1) i_TS_isInTime_0 rfl rfl (xs_n rfl ?_)
        refine xs_getr (q := 4) i_TS_isInTime_1 rfl fd_TS_21 sg_1 rfl (xs_n rfl ?_)
        refine xs_aload_n (q := 5) i_TS_isInTime_4 rfl rfl (xs_n rfl ?_)
        refine xs_getr (q := 8) i_TS_isInTime_5 rfl fd_TS_24 sg_1 rfl (xs_n rfl ?_)
        refine xs_iload_n (q := 9) i_TS_isInTime_8 rfl rfl (xs_n rfl ?_)
        refine xs_iaload (q := 10) i_TS_isInTime_9 rfl sg_6 rfl (by omega) (xs_n rfl ?_)
        refine xs_iaload (q := 11) i_TS_isInTime_10 rfl sg_5 rfl (by omega) (xs_n rfl ?_)
        refine xs_istore (q := 13) (ls2 := [_, _, _, _, _, _, _, _]) i_TS_isInTime_11 rfl rfl rfl (xs_n rfl ?_)
        refine xs_aload_n (q := 14) i_TS_isInTime_13 rfl rfl (xs_n rfl ?_)
        refine xs_getr (q := 17) i_TS_isInTime_14 rfl fd_TS_18 sg_1 rfl (xs_n rfl ?_)
        refine xs_aload_n (q := 18) i_TS_isInTime_17 rfl rfl (xs_n rfl ?_)
        refine xs_getr (q := 21) i_TS_isInTime_18 rfl fd_TS_24 sg_1 rfl (xs_n rfl ?_)
        refine xs_iload_n (q := 22) i_TS_isInTime_21 rfl rfl (xs_n rfl ?_)
        refine xs_iaload (q := 23) i_TS_isInTime_22 rfl sg_6 rfl (by omega) (xs_n rfl ?_)
        refine xs_iaload (q := 24) i_TS_isInTime_23 rfl sg_4 rfl (by omega) (xs_n rfl ?_)
        refine xs_istore (q := 26) (ls2 := [_, _, _, _, _, _, _, _]) i_TS_isInTime_24 rfl rfl rfl (xs_n rfl ?_)
        refine xs_iconst (q := 27) i_TS_isInTime_26 rfl (xs_n rfl ?_)
        refine xs_istore (q := 29) (ls2 := [_, _, _, _, _, _, _, _]) i_TS_isInTime_27 rfl rfl rfl (xs_z rfl ?_)
        exact ⟨61, by omega, Or.inr ⟨_, 0, _, rfl, rfl, rfl, rfl, ⟨by omega, by omega, rfl⟩, rfl⟩⟩
      · skip
        refine xs_iload (q := 31) i_TS_isInTime_29 rfl rfl (xs_n rfl ?_)
        refine xs_bipush (q := 33) i_TS_isInTime_31 rfl (by decide) (xs_n rfl ?_)
        refine xs_ic_gt (q := 79) (r := 36) i_TS_isInTime_33 rfl rfl ⟨by unfold am_R; omega, by unfold am_R; omega⟩ (fun h33 => (xs_n rfl ?_)) (fun h33 => (xs_n rfl ?_))
        · refine xs_iconst (q := 80) i_TS_isInTime_79 rfl (xs_n rfl ?_)
          refine xs_iret i_TS_isInTime_80 ?_
          exact xs_fin (by simp only [f_TS_isInTime]; rw [← hg, show (61 - t).toNat = 0 by omega, am_rta]) rfl (Or.inl rfl)
        · refine xs_iload (q := 38) i_TS_isInTime_36 rfl rfl (xs_n rfl ?_)
          refine xs_iload (q := 40) i_TS_isInTime_38 rfl rfl (xs_n rfl ?_)
          refine xs_ic_gt (q := 79) (r := 43) i_TS_isInTime_40 rfl rfl ⟨by unfold am_R; omega, by unfold am_R; omega⟩ (fun h40 => (xs_n rfl ?_)) (fun h40 => (xs_n rfl ?_))
          · refine xs_iconst (q := 80) i_TS_isInTime_79 rfl (xs_n rfl ?_)
            refine xs_iret i_TS_isInTime_80 ?_
            exact xs_fin (by simp only [f_TS_isInTime]; rw [← hg, show (61 - t).toNat = (61 - (t + 1)).toNat + 1 by omega, am_rta, if_neg (by omega)]) rfl (Or.inl rfl)
          · refine xs_aload_n (q := 44) i_TS_isInTime_43 rfl rfl (xs_n rfl ?_)
            refine xs_iload (q := 46) i_TS_isInTime_44 rfl rfl (xs_n rfl ?_)
            refine xs_iload_n (q := 47) i_TS_isInTime_46 rfl rfl (xs_n rfl ?_)
            refine xs_cv (q := 50) (av := [_, _, _]) (rest := []) i_TS_isInTime_47 rfl (e_TS_isInTime_47) ⟨rfl, rfl⟩ rfl rfl ?_
            rw [am_V_iff]
            refine ⟨⟨_, sg_1⟩, ⟨rfl, by omega, by omega, h3, h4⟩, ?_⟩
            dsimp only [g_TS_demandWithin, g_id]
            refine xs_r1 rfl (xs_n rfl ?_)
            refine xs_aload_n (q := 51) i_TS_isInTime_50 rfl rfl (xs_n rfl ?_)
            refine xs_iload (q := 53) i_TS_isInTime_51 rfl rfl (xs_n rfl ?_)
            refine xs_iload_n (q := 54) i_TS_isInTime_53 rfl rfl (xs_n rfl ?_)
            refine xs_cv (q := 57) (av := [_, _, _]) (rest := [_]) i_TS_isInTime_54 rfl (e_TS_isInTime_54) ⟨rfl, rfl⟩ rfl rfl ?_
            rw [am_V_iff]
            refine ⟨⟨_, sg_7⟩, ⟨rfl, by omega, h2, h5⟩, ?_⟩
            dsimp only [g_RB_demandWithin, g_id]
            refine xs_r1 rfl (xs_n rfl ?_)
            refine xs_iadd (q := 58) i_TS_isInTime_57 rfl (xs_n rfl ?_)
            refine xs_istore (q := 60) (ls2 := [_, _, _, _, _, _, _, _]) i_TS_isInTime_58 rfl rfl rfl (xs_n rfl ?_)
            refine xs_iload (q := 62) i_TS_isInTime_60 rfl rfl (xs_n rfl ?_)
            refine xs_iload (q := 64) i_TS_isInTime_62 rfl rfl (xs_n rfl ?_)
            refine xs_ic_ne (q := 69) (r := 67) i_TS_isInTime_64 rfl rfl ⟨by have b1 := ts_dem_b (M := M) ⟨h3, h4⟩ (r := r.toNat) (by omega) (s := x) (by omega); have b2 := rb_dem_b (M := M) h5 (k := k) (s := x) (by omega); show am_R (ts_dem M r.toNat x + rb_dem M k x); unfold am_R; omega, by unfold am_R; omega⟩ (fun h64 => (xs_n rfl ?_)) (fun h64 => (xs_n rfl ?_))
            · refine xs_iload (q := 71) i_TS_isInTime_69 rfl rfl (xs_n rfl ?_)
              refine xs_istore (q := 73) (ls2 := [_, _, _, _, _, _, _, _]) i_TS_isInTime_71 rfl rfl rfl (xs_n rfl ?_)
              refine xs_iinc (q := 76) (ls2 := [_, _, _, _, _, _, _, _]) i_TS_isInTime_73 rfl rfl rfl (xs_n rfl ?_)
              refine xs_goto (q := 29) i_TS_isInTime_76 rfl (xs_z rfl ?_)
              have b1 := ts_dem_b (M := M) ⟨h3, h4⟩ (r := r.toNat) (by omega) (s := x) (by omega)
              have b2 := rb_dem_b (M := M) h5 (k := k) (s := x) (by omega)
              refine ⟨(61 - (t + 1)).toNat, by omega, Or.inr ⟨ts_D M k r.toNat x, t + 1, _, rfl, rfl, rfl, rfl, ⟨by unfold ts_D; omega, by omega, ?_⟩, rfl⟩⟩
              rw [← hg, show (61 - t).toNat = (61 - (t + 1)).toNat + 1 by omega, am_rta, if_pos (by omega), if_neg (show ¬ ts_D M k r.toNat x = x from h64)]
            · refine xs_iconst (q := 68) i_TS_isInTime_67 rfl (xs_n rfl ?_)
              refine xs_iret i_TS_isInTime_68 ?_
              exact xs_fin (by simp only [f_TS_isInTime]; rw [← hg, show (61 - t).toNat = (61 - (t + 1)).toNat + 1 by omega, am_rta, if_pos (by omega), if_pos (show ts_D M k r.toNat x = x from h64)]) rfl (Or.inr rfl)
    · exact h.elim
def ts_adm (M : am_M) (k : Int) : Prop := ∀ r, r < (M 1 5).toNat → ts_it M k r = 1
def ts_a (M : am_M) (k : Int) : Int := if am_fi (fun r => decide (ts_it M k r = 0)) (M 1 5).toNat 0 < (M 1 5).toNat then 0 else 1
theorem ts_a_1 {M : am_M} {k : Int} (h : ∀ r, r < (M 1 5).toNat → ts_it M k r = 1) : ts_a M k = 1 := by
  unfold ts_a
  rw [am_fi_eq (fun r => decide (ts_it M k r = 0)) _ 0 (M 1 5).toNat (by omega) (by omega) (fun j _ hj => decide_eq_false (by rw [h j hj]; decide)) (fun z => by omega), if_neg (by omega)]
theorem ts_a_0 {M : am_M} {k : Int} {i : Nat} (hi : i < (M 1 5).toNat) (h0 : ts_it M k i = 0) (h : ∀ r, r < i → ts_it M k r = 1) : ts_a M k = 0 := by
  unfold ts_a
  rw [am_fi_eq (fun r => decide (ts_it M k r = 0)) _ 0 i (by omega) (by omega) (fun j _ hj => decide_eq_false (by rw [h j hj]; decide)) (fun _ => decide_eq_true h0), if_pos hi]
def P_TS_admit : am_P := fun av M => match av with
  | [.inr (.inl i), .inr (.inl e), .inl k] => i = 1 ∧ e = 7 ∧ am_R k ∧ ts_ok M ∧ rb_ok M
  | _ => False
def f_TS_admit : am_Fr := fun av M => match av with
  | [.inr (.inl i), .inr (.inl e), .inl k] => some (.inl (ts_a M k))
  | _ => none
abbrev g_TS_admit : am_Fm := g_id
def ct_TS_admit : am_T := fun pc => if pc = 14 then some (4, am_ctV vw_S 1 P_TS_isInTime (am_po f_TS_isInTime g_TS_isInTime)) else none
theorem e_TS_admit_14 : ct_TS_admit 14 = some (4, am_ctV vw_S 1 P_TS_isInTime (am_po f_TS_isInTime g_TS_isInTime)) := rfl
theorem ct_TS_admit_ok (l : Launch) : am_CC b_TS_admit 4 w_TS_admit y_TS_admit.cls l r_TS_admit ct_TS_admit := by
  intro p e s m args below meth c H0 A D G ad Q S hK hN hA pc q ct h
  have hts := S.2.2.2.2
  unfold ct_TS_admit at h
  split at h
  · rename_i hpc
    subst hpc; cases h
    exact am_callV S vw_N_ok hK hN hA ⟨Nat.zero_le _, Nat.zero_le _⟩ (m_TS_isInTime l) (s_TS_42 hts am_vW hN ⟨by decide, by decide⟩) (by rfl) d_TS_admit_14
  cases h
def inv_TS_admit : List am_V → am_M → Nat → am_K := fun av M μ pc ls st M2 => match av with
  | [.inr (.inl i), .inr (.inl e), .inl k] => (pc = 0 ∧ ls = am_l0 [.inr (.inl i), .inr (.inl e), .inl k] 4 ∧ st = [] ∧ M = M2 ∧ μ = 100) ∨ ∃ t : Int, pc = 2 ∧ ls = [some (.inr (.inl i)), some (.inr (.inl e)), some (.inl k), some (.inl t)] ∧ st = [] ∧ M = M2 ∧ ((0 ≤ t ∧ t ≤ M 1 5) ∧ ∀ j : Nat, (j : Int) < t → ts_it M k j = 1) ∧ μ = (M 1 5 - t).toNat
  | _ => False
theorem m_TS_admit (l : Launch) : am_MF l y_TS_admit w_TS_admit r_TS_admit P_TS_admit f_TS_admit g_TS_admit := by
  refine am_mkL (fun pc => pc == 2) i_TS_admit_ok fd_TS_ok (ct_TS_admit_ok l) (plainFor_of_name (by decide +kernel)) (by decide) ?_ 40 inv_TS_admit ?_ ?_
  · intro av M h
    unfold P_TS_admit at h
    split at h
    · exact ⟨Nat.le_of_ble_eq_true rfl, rfl⟩
    · exact h.elim
  · intro av M h
    unfold P_TS_admit at h
    split at h
    · exact ⟨_, Or.inl ⟨rfl, rfl, rfl, rfl, rfl⟩⟩
    · exact h.elim
  · intro av M h μ pc ls st M2 hi
    unfold P_TS_admit at h
    split at h
    · rename_i i e k
      obtain ⟨rfl, rfl, h2, ⟨h3, h4⟩, h5⟩ := h
      rcases hi with ⟨rfl, rfl, rfl, rfl, rfl⟩ | ⟨t, rfl, rfl, rfl, rfl, ⟨ht, hn⟩, rfl⟩
      · skip
        refine xs_iconst (q := 1) i_TS_admit_0 rfl (xs_n rfl ?_)
        refine xs_istore_n (q := 2) (ls2 := [_, _, _, _]) i_TS_admit_1 rfl rfl rfl (xs_z rfl ?_)
        exact ⟨(M 1 5).toNat, by omega, Or.inr ⟨0, rfl, rfl, rfl, rfl, ⟨by omega, fun j hj => by omega⟩, by omega⟩⟩
      · skip
        refine xs_iload_n (q := 3) i_TS_admit_2 rfl rfl (xs_n rfl ?_)
        refine xs_aload_n (q := 4) i_TS_admit_3 rfl rfl (xs_n rfl ?_)
        refine xs_geti (q := 7) i_TS_admit_4 rfl fd_TS_27 sg_1 rfl (xs_n rfl ?_)
        refine xs_ic_ge (q := 28) (r := 10) i_TS_admit_7 rfl rfl ⟨by unfold am_R; omega, by unfold am_R; omega⟩ (fun h7 => (xs_n rfl ?_)) (fun h7 => (xs_n rfl ?_))
        · refine xs_iconst (q := 29) i_TS_admit_28 rfl (xs_n rfl ?_)
          refine xs_iret i_TS_admit_29 ?_
          exact xs_fin (by simp only [f_TS_admit]; rw [ts_a_1 (fun j hj => hn j (by omega))]) rfl (Or.inr rfl)
        · refine xs_aload_n (q := 11) i_TS_admit_10 rfl rfl (xs_n rfl ?_)
          refine xs_iload_n (q := 12) i_TS_admit_11 rfl rfl (xs_n rfl ?_)
          refine xs_aload_n (q := 13) i_TS_admit_12 rfl rfl (xs_n rfl ?_)
          refine xs_iload_n (q := 14) i_TS_admit_13 rfl rfl (xs_n rfl ?_)
          refine xs_cv (q := 17) (av := [_, _, _, _]) (rest := []) i_TS_admit_14 rfl (e_TS_admit_14) ⟨rfl, rfl⟩ rfl rfl ?_
          rw [am_V_iff]
          refine ⟨⟨_, sg_1⟩, ⟨rfl, rfl, by omega, h2, ⟨h3, h4⟩, h5⟩, ?_⟩
          dsimp only [g_TS_isInTime, g_id]
          refine xs_r1 rfl (xs_n rfl ?_)
          refine xs_if_ne (q := 22) (r := 20) i_TS_admit_17 rfl rfl (by rcases am_rta_01 (ts_D M k t.toNat) (M 5 (M 6 t.toNat).toNat) 61 (M 4 (M 6 t.toNat).toNat) with h9 | h9 <;> (show am_R (ts_it M k t.toNat); unfold ts_it; rw [h9]; unfold am_R; omega)) (fun h17 => (xs_n rfl ?_)) (fun h17 => (xs_n rfl ?_))
          · refine xs_iinc (q := 25) (ls2 := [_, _, _, _]) i_TS_admit_22 rfl rfl rfl (xs_n rfl ?_)
            refine xs_goto (q := 2) i_TS_admit_25 rfl (xs_z rfl ?_)
            exact ⟨(M 1 5 - (t + 1)).toNat, by omega, Or.inr ⟨t + 1, rfl, rfl, rfl, rfl, ⟨by omega, am_ls hn ((am_rta_01 _ _ _ _).resolve_left h17) (by omega)⟩, rfl⟩⟩
          · refine xs_iconst (q := 21) i_TS_admit_20 rfl (xs_n rfl ?_)
            refine xs_iret i_TS_admit_21 ?_
            exact xs_fin (by simp only [f_TS_admit]; rw [ts_a_0 (i := t.toNat) (by omega) h17 (fun j hj => hn j (by omega))]) rfl (Or.inl rfl)
    · exact h.elim
/-- a number goes in at its place behind all that are due no later -/
def am_ins (dl od : Nat) (num d : Int) : Nat → am_M → am_M
  | 0, M => am_up M od 0 num
  | r + 1, M => if d < M dl (M od r).toNat then am_ins dl od num d r (am_up M od (r + 1) (M od r)) else am_up M od (r + 1) num
def ts_st (p f c d : Int) (M : am_M) : am_M := am_up (am_up (am_up (am_up (am_up M 1 6 (M 1 6 / ((Nat.gcd (M 1 6).toNat p.toNat : Nat) : Int) * p)) 2 (M 1 5).toNat p) 3 (M 1 5).toNat f) 4 (M 1 5).toNat c) 5 (M 1 5).toNat d
def P_TS_add : am_P := fun av M => match av with
  | [.inr (.inl i), .inl p, .inl f, .inl c, .inl d] => i = 1 ∧ M 1 5 < 5 ∧ (1 ≤ M 1 6 ∧ M 1 6 ≤ 2000) ∧ (1 ≤ p ∧ p ≤ 60) ∧ am_R d ∧ ts_ok M
  | _ => False
def f_TS_add : am_Fr := fun av M => match av with
  | [.inr (.inl i), .inl p, .inl f, .inl c, .inl d] => some (.inl (M 1 5))
  | _ => none
def g_TS_add : am_Fm := fun av M => match av with
  | [.inr (.inl i), .inl p, .inl f, .inl c, .inl d] => am_up (am_ins 5 6 (M 1 5) d (M 1 5).toNat (ts_st p f c d M)) 1 5 (M 1 5 + 1)
  | _ => M
def ct_TS_add : am_T := fun pc => if pc = 17 then some (2, am_ctV vw_S 1 P_TS_hyperperiodWith (am_po f_TS_hyperperiodWith g_TS_hyperperiodWith)) else none
theorem e_TS_add_17 : ct_TS_add 17 = some (2, am_ctV vw_S 1 P_TS_hyperperiodWith (am_po f_TS_hyperperiodWith g_TS_hyperperiodWith)) := rfl
theorem ct_TS_add_ok (l : Launch) : am_CC b_TS_add 7 w_TS_add y_TS_add.cls l r_TS_add ct_TS_add := by
  intro p e s m args below meth c H0 A D G ad Q S hK hN hA pc q ct h
  have hts := S.2.2.2.2
  unfold ct_TS_add at h
  split at h
  · rename_i hpc
    subst hpc; cases h
    exact am_callV S vw_N_ok hK hN hA ⟨Nat.zero_le _, Nat.zero_le _⟩ (m_TS_hyperperiodWith l) (s_TS_38 hts am_vW hN ⟨by decide, by decide⟩) (by rfl) d_TS_add_17
  cases h
theorem am_ins_k {dl od : Nat} {num d : Int} {k j : Nat} (hk : k ≠ od) : ∀ (r : Nat) (M : am_M), am_ins dl od num d r M k j = M k j
  | 0, M => by rw [am_ins, am_up_k _ _ hk]
  | r + 1, M => by
    rw [am_ins]
    by_cases h : d < M dl (M od r).toNat
    · rw [if_pos h, am_ins_k hk r, am_up_k _ _ hk]
    · rw [if_neg h, am_up_k _ _ hk]
def inv_TS_add : List am_V → am_M → Nat → am_K := fun av M μ pc ls st M2 => match av with
  | [.inr (.inl i), .inl p, .inl f, .inl c, .inl d] => (pc = 0 ∧ ls = am_l0 [.inr (.inl i), .inl p, .inl f, .inl c, .inl d] 7 ∧ st = [] ∧ M = M2 ∧ μ = 100) ∨ ∃ r : Nat, pc = 60 ∧ ls = [some (.inr (.inl i)), some (.inl p), some (.inl f), some (.inl c), some (.inl d), some (.inl (M 1 5)), some (.inl (r : Int))] ∧ st = [] ∧ (am_ins 5 6 (M 1 5) d r M2 = am_ins 5 6 (M 1 5) d (M 1 5).toNat (ts_st p f c d M) ∧ (∀ j, j < r → M2 6 j = M 6 j) ∧ (∀ j, M2 5 j = ts_st p f c d M 5 j) ∧ M2 1 5 = M 1 5 ∧ (r : Int) ≤ M 1 5) ∧ r = μ
  | _ => False
theorem m_TS_add (l : Launch) : am_MF l y_TS_add w_TS_add r_TS_add P_TS_add f_TS_add g_TS_add := by
  refine am_mkL (fun pc => pc == 60) i_TS_add_ok fd_TS_ok (ct_TS_add_ok l) (plainFor_of_name (by decide +kernel)) (by decide) ?_ 90 inv_TS_add ?_ ?_
  · intro av M h
    unfold P_TS_add at h
    split at h
    · exact ⟨Nat.le_of_ble_eq_true rfl, rfl⟩
    · exact h.elim
  · intro av M h
    unfold P_TS_add at h
    split at h
    · exact ⟨_, Or.inl ⟨rfl, rfl, rfl, rfl, rfl⟩⟩
    · exact h.elim
  · intro av M h μ pc ls st M2 hi
    unfold P_TS_add at h
    split at h
    · rename_i i p f c d
      obtain ⟨rfl, h1, h2, h3, h5, h4⟩ := h
      have h40 := h4.1
      rcases hi with ⟨rfl, rfl, rfl, rfl, rfl⟩ | ⟨r, rfl, rfl, rfl, ⟨hg, ho, hd, hc, hr⟩, rfl⟩
      · skip
        refine xs_aload_n (q := 1) i_TS_add_0 rfl rfl (xs_n rfl ?_)
        refine xs_geti (q := 4) i_TS_add_1 rfl fd_TS_27 sg_1 rfl (xs_n rfl ?_)
        refine xs_istore (q := 6) (ls2 := [_, _, _, _, _, _, _]) i_TS_add_4 rfl rfl rfl (xs_n rfl ?_)
        refine xs_iload (q := 8) i_TS_add_6 rfl rfl (xs_n rfl ?_)
        refine xs_iconst (q := 9) i_TS_add_8 rfl (xs_n rfl ?_)
        refine xs_ic_lt (q := 14) (r := 12) i_TS_add_9 rfl rfl ⟨by unfold am_R; omega, by unfold am_R; omega⟩ (fun h9 => (xs_n rfl ?_)) (fun h9 => (xs_n rfl ?_))
        · refine xs_aload_n (q := 15) i_TS_add_14 rfl rfl (xs_n rfl ?_)
          refine xs_aload_n (q := 16) i_TS_add_15 rfl rfl (xs_n rfl ?_)
          refine xs_iload_n (q := 17) i_TS_add_16 rfl rfl (xs_n rfl ?_)
          refine xs_cv (q := 20) (av := [_, _]) (rest := [_]) i_TS_add_17 rfl (e_TS_add_17) ⟨rfl, rfl⟩ rfl rfl ?_
          rw [am_V_iff]
          refine ⟨⟨_, sg_1⟩, ⟨rfl, h2, h3⟩, ?_⟩
          dsimp only [g_TS_hyperperiodWith, g_id]
          refine xs_r1 rfl (xs_n rfl ?_)
          refine xs_puti (q := 23) i_TS_add_20 rfl fd_TS_31 sg_1 rfl (xs_n rfl ?_)
          refine xs_aload_n (q := 24) i_TS_add_23 rfl rfl (xs_n rfl ?_)
          refine xs_getr (q := 27) i_TS_add_24 rfl fd_TS_9 sg_1 rfl (xs_n rfl ?_)
          refine xs_iload (q := 29) i_TS_add_27 rfl rfl (xs_n rfl ?_)
          refine xs_iload_n (q := 30) i_TS_add_29 rfl rfl (xs_n rfl ?_)
          refine xs_iastore (q := 31) i_TS_add_30 rfl sg_2 (by omega) (xs_n rfl ?_)
          refine xs_aload_n (q := 32) i_TS_add_31 rfl rfl (xs_n rfl ?_)
          refine xs_getr (q := 35) i_TS_add_32 rfl fd_TS_15 sg_1 rfl (xs_n rfl ?_)
          refine xs_iload (q := 37) i_TS_add_35 rfl rfl (xs_n rfl ?_)
          refine xs_iload_n (q := 38) i_TS_add_37 rfl rfl (xs_n rfl ?_)
          refine xs_iastore (q := 39) i_TS_add_38 rfl sg_3 (by omega) (xs_n rfl ?_)
          refine xs_aload_n (q := 40) i_TS_add_39 rfl rfl (xs_n rfl ?_)
          refine xs_getr (q := 43) i_TS_add_40 rfl fd_TS_18 sg_1 rfl (xs_n rfl ?_)
          refine xs_iload (q := 45) i_TS_add_43 rfl rfl (xs_n rfl ?_)
          refine xs_iload_n (q := 46) i_TS_add_45 rfl rfl (xs_n rfl ?_)
          refine xs_iastore (q := 47) i_TS_add_46 rfl sg_4 (by omega) (xs_n rfl ?_)
          refine xs_aload_n (q := 48) i_TS_add_47 rfl rfl (xs_n rfl ?_)
          refine xs_getr (q := 51) i_TS_add_48 rfl fd_TS_21 sg_1 rfl (xs_n rfl ?_)
          refine xs_iload (q := 53) i_TS_add_51 rfl rfl (xs_n rfl ?_)
          refine xs_iload (q := 55) i_TS_add_53 rfl rfl (xs_n rfl ?_)
          refine xs_iastore (q := 56) i_TS_add_55 rfl sg_5 (by omega) (xs_n rfl ?_)
          refine xs_iload (q := 58) i_TS_add_56 rfl rfl (xs_n rfl ?_)
          refine xs_istore (q := 60) (ls2 := [_, _, _, _, _, _, _]) i_TS_add_58 rfl rfl rfl (xs_z rfl ?_)
          refine ⟨(M 1 5).toNat, by omega, Or.inr ⟨(M 1 5).toNat, rfl, by rw [Int.toNat_of_nonneg h4.1.1], rfl, ⟨rfl, fun j hj => ?_, fun j => rfl, ?_, by omega⟩, rfl⟩⟩
          · simp [am_up]
          · simp [am_up]
        · refine xs_iconst (q := 13) i_TS_add_12 rfl (xs_n rfl ?_)
          refine xs_iret i_TS_add_13 ?_
          omega
      · skip
        refine xs_iload (q := 62) i_TS_add_60 rfl rfl (xs_n rfl ?_)
        refine xs_if_le (q := 106) (r := 65) i_TS_add_62 rfl rfl (by unfold am_R; omega) (fun h62 => (xs_n rfl ?_)) (fun h62 => (xs_n rfl ?_))
        · refine xs_aload_n (q := 107) i_TS_add_106 rfl rfl (xs_n rfl ?_)
          refine xs_getr (q := 110) i_TS_add_107 rfl fd_TS_24 sg_1 rfl (xs_n rfl ?_)
          refine xs_iload (q := 112) i_TS_add_110 rfl rfl (xs_n rfl ?_)
          refine xs_iload (q := 114) i_TS_add_112 rfl rfl (xs_n rfl ?_)
          refine xs_iastore (q := 115) i_TS_add_114 rfl sg_6 (by omega) (xs_n rfl ?_)
          refine xs_aload_n (q := 116) i_TS_add_115 rfl rfl (xs_n rfl ?_)
          refine xs_dupr (q := 117) i_TS_add_116 rfl (xs_n rfl ?_)
          refine xs_geti (q := 120) i_TS_add_117 rfl fd_TS_27 sg_1 rfl (xs_n rfl ?_)
          refine xs_iconst (q := 121) i_TS_add_120 rfl (xs_n rfl ?_)
          refine xs_iadd (q := 122) i_TS_add_121 rfl (xs_n rfl ?_)
          refine xs_puti (q := 125) i_TS_add_122 rfl fd_TS_27 sg_1 rfl (xs_n rfl ?_)
          refine xs_iload (q := 127) i_TS_add_125 rfl rfl (xs_n rfl ?_)
          refine xs_iret i_TS_add_127 ?_
          have e0 : r = 0 := by omega
          subst e0
          refine xs_fin rfl ?_ trivial
          simp only [g_TS_add]
          rw [← hg, am_ins]
          rw [am_up_k _ _ (by decide), hc]
          rfl
        · have hq := (h4.2 (r - 1) (by omega)).1
          have hp := h4.2 (M 6 (r - 1)).toNat (by omega)
          have e6 : M2 6 ((r : Int) - 1).toNat = M 6 (r - 1) := by rw [show ((r : Int) - 1).toNat = r - 1 by omega]; exact ho _ (by omega)
          have e5 : M2 5 (M 6 (r - 1)).toNat = M 5 (M 6 (r - 1)).toNat := by rw [hd]; exact am_up_j _ _ (by omega)
          refine xs_aload_n (q := 66) i_TS_add_65 rfl rfl (xs_n rfl ?_)
          refine xs_getr (q := 69) i_TS_add_66 rfl fd_TS_21 sg_1 rfl (xs_n rfl ?_)
          refine xs_aload_n (q := 70) i_TS_add_69 rfl rfl (xs_n rfl ?_)
          refine xs_getr (q := 73) i_TS_add_70 rfl fd_TS_24 sg_1 rfl (xs_n rfl ?_)
          refine xs_iload (q := 75) i_TS_add_73 rfl rfl (xs_n rfl ?_)
          refine xs_iconst (q := 76) i_TS_add_75 rfl (xs_n rfl ?_)
          refine xs_isub (q := 77) i_TS_add_76 rfl (xs_n rfl ?_)
          refine xs_iaload (q := 78) i_TS_add_77 rfl sg_6 rfl (by omega) (xs_n rfl ?_)
          refine xs_iaload (q := 79) i_TS_add_78 rfl sg_5 rfl (by rw [e6]; omega) (xs_n rfl ?_)
          refine xs_iload (q := 81) i_TS_add_79 rfl rfl (xs_n rfl ?_)
          refine xs_ic_le (q := 106) (r := 84) i_TS_add_81 rfl rfl ⟨by rw [e6, e5]; unfold am_R; omega, h5⟩ (fun h81 => (xs_n rfl ?_)) (fun h81 => (xs_n rfl ?_))
          · refine xs_aload_n (q := 107) i_TS_add_106 rfl rfl (xs_n rfl ?_)
            refine xs_getr (q := 110) i_TS_add_107 rfl fd_TS_24 sg_1 rfl (xs_n rfl ?_)
            refine xs_iload (q := 112) i_TS_add_110 rfl rfl (xs_n rfl ?_)
            refine xs_iload (q := 114) i_TS_add_112 rfl rfl (xs_n rfl ?_)
            refine xs_iastore (q := 115) i_TS_add_114 rfl sg_6 (by omega) (xs_n rfl ?_)
            refine xs_aload_n (q := 116) i_TS_add_115 rfl rfl (xs_n rfl ?_)
            refine xs_dupr (q := 117) i_TS_add_116 rfl (xs_n rfl ?_)
            refine xs_geti (q := 120) i_TS_add_117 rfl fd_TS_27 sg_1 rfl (xs_n rfl ?_)
            refine xs_iconst (q := 121) i_TS_add_120 rfl (xs_n rfl ?_)
            refine xs_iadd (q := 122) i_TS_add_121 rfl (xs_n rfl ?_)
            refine xs_puti (q := 125) i_TS_add_122 rfl fd_TS_27 sg_1 rfl (xs_n rfl ?_)
            refine xs_iload (q := 127) i_TS_add_125 rfl rfl (xs_n rfl ?_)
            refine xs_iret i_TS_add_127 ?_
            obtain ⟨r, rfl⟩ : ∃ r2, r = r2 + 1 := ⟨r - 1, by omega⟩
            have ez : ((r + 1 : Nat) : Int) - 1 = r := by omega
            rw [ez] at h81
            simp only [Int.toNat_natCast] at h81
            refine xs_fin rfl ?_ trivial
            simp only [g_TS_add]
            rw [← hg, am_ins, if_neg (by omega)]
            rw [am_up_k _ _ (by decide), hc]
            rfl
          · refine xs_aload_n (q := 85) i_TS_add_84 rfl rfl (xs_n rfl ?_)
            refine xs_getr (q := 88) i_TS_add_85 rfl fd_TS_24 sg_1 rfl (xs_n rfl ?_)
            refine xs_iload (q := 90) i_TS_add_88 rfl rfl (xs_n rfl ?_)
            refine xs_aload_n (q := 91) i_TS_add_90 rfl rfl (xs_n rfl ?_)
            refine xs_getr (q := 94) i_TS_add_91 rfl fd_TS_24 sg_1 rfl (xs_n rfl ?_)
            refine xs_iload (q := 96) i_TS_add_94 rfl rfl (xs_n rfl ?_)
            refine xs_iconst (q := 97) i_TS_add_96 rfl (xs_n rfl ?_)
            refine xs_isub (q := 98) i_TS_add_97 rfl (xs_n rfl ?_)
            refine xs_iaload (q := 99) i_TS_add_98 rfl sg_6 rfl (by omega) (xs_n rfl ?_)
            refine xs_iastore (q := 100) i_TS_add_99 rfl sg_6 (by omega) (xs_n rfl ?_)
            refine xs_iinc (q := 103) (ls2 := [_, _, _, _, _, _, _]) i_TS_add_100 rfl rfl rfl (xs_n rfl ?_)
            refine xs_goto (q := 60) i_TS_add_103 rfl (xs_z rfl ?_)
            obtain ⟨r, rfl⟩ : ∃ r2, r = r2 + 1 := ⟨r - 1, by omega⟩
            have ez : ((r + 1 : Nat) : Int) - 1 = r := by omega
            rw [ez] at h81
            simp only [Int.toNat_natCast] at h81
            refine ⟨r, by omega, Or.inr ⟨r, rfl, by rw [show ((r + 1 : Nat) : Int) + -1 = r by omega], rfl, ⟨?_, fun j hj => ?_, fun j => ?_, ?_, by omega⟩, rfl⟩⟩
            · rw [← hg, am_ins, if_pos h81]
              congr 1
              rw [ez]
              simp only [Int.toNat_natCast]
            · rw [am_up_j _ _ (by omega)]; exact ho j (by omega)
            · rw [am_up_k _ _ (by decide)]; exact hd j
            · rw [am_up_k _ _ (by decide)]; exact hc
    · exact h.elim
