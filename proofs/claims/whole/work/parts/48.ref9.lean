/-! contracts: the reference, isAdmitted (wip/whole/p48.py) -/
def mo_tm (M : am_M) (x : Int) (j : Nat) : Int := ma_ru x (M 51 (M 55 j).toNat) * M 53 (M 55 j).toNat
def mo_D (M : am_M) (k : Int) (r : Nat) (x : Int) : Int := M 53 (M 55 r).toNat + mo_dem M k x + ma_su (mo_tm M x) r
def mo_it (M : am_M) (k : Int) (r : Nat) : Int := am_rta (mo_D M k r) (M 54 (M 55 r).toNat) 61 (M 53 (M 55 r).toNat)
def mo_a (M : am_M) (k : Int) : Int := if am_fi (fun r => decide (mo_it M k r = 0)) (M 50 1).toNat 0 < (M 50 1).toNat then 0 else 1
theorem mo_a_1 {M : am_M} {k : Int} (h : ∀ r, r < (M 50 1).toNat → mo_it M k r = 1) : mo_a M k = 1 := by
  unfold mo_a
  rw [am_fi_eq (fun r => decide (mo_it M k r = 0)) _ 0 (M 50 1).toNat (by omega) (by omega) (fun j _ hj => decide_eq_false (by rw [h j hj]; decide)) (fun z => by omega), if_neg (by omega)]
theorem mo_a_0 {M : am_M} {k : Int} {i : Nat} (hi : i < (M 50 1).toNat) (h0 : mo_it M k i = 0) (h : ∀ r, r < i → mo_it M k r = 1) : mo_a M k = 0 := by
  unfold mo_a
  rw [am_fi_eq (fun r => decide (mo_it M k r = 0)) _ 0 i (by omega) (by omega) (fun j _ hj => decide_eq_false (by rw [h j hj]; decide)) (fun _ => decide_eq_true h0), if_pos hi]
theorem mo_a_01 (M : am_M) (k : Int) : mo_a M k = 0 ∨ mo_a M k = 1 := by
  unfold mo_a
  by_cases c : am_fi (fun r => decide (mo_it M k r = 0)) (M 50 1).toNat 0 < (M 50 1).toNat
  · rw [if_pos c]; exact Or.inl rfl
  · rw [if_neg c]; exact Or.inr rfl
theorem mo_tm_b {M : am_M} (h : mo_ok M) {x : Int} (hx : 0 ≤ x ∧ x ≤ 100) {j : Nat} (hj : (j : Int) < M 50 1) : 0 ≤ mo_tm M x j ∧ mo_tm M x j ≤ 100 * 60 := by
  have a1 := (h.2 j hj).1
  have a2 := h.2 (M 55 j).toNat (by omega)
  have a3 := ma_ru_s (s := x) (p := M 51 (M 55 j).toNat) hx.1 a2.2.1.1
  have a4 := ma_ru_nn (r := x) (p := M 51 (M 55 j).toNat) (by omega) hx.1
  exact ma_mul a4 (by omega) (by omega) (by omega)
theorem mo_ts_b {M : am_M} (h : mo_ok M) {x : Int} (hx : 0 ≤ x ∧ x ≤ 100) {n : Nat} (hn : (n : Int) ≤ M 50 1) : 0 ≤ ma_su (mo_tm M x) n ∧ ma_su (mo_tm M x) n ≤ 30000 := by
  have b1 := ma_su_nn (f := mo_tm M x) (n := n) (fun j hj => (mo_tm_b h hx (by omega)).1)
  have b2 := ma_su_le (f := mo_tm M x) (n := n) (g := fun _ => 6000) (fun j hj => (mo_tm_b h hx (by omega)).2)
  rw [ma_su_c] at b2
  have := h.1
  omega
theorem mo_dem_b {M : am_M} (h : mo_rb M) {k s : Int} (hs : 0 ≤ s ∧ s ≤ 100) : 0 ≤ mo_dem M k s ∧ mo_dem M k s ≤ 10000 := by
  obtain ⟨h1, h2⟩ := h
  unfold mo_dem
  by_cases e1 : k = 1
  · rw [if_pos e1]
    by_cases e2 : M 56 1 < s
    · rw [if_pos e2]
      have a3 := ma_ru_s (s := s - M 56 1) (p := M 57 1) (by omega) (by omega)
      have a4 := ma_ru_nn (r := s - M 56 1) (p := M 57 1) (by omega) (by omega)
      have := ma_mul (a := 1 + ma_ru (s - M 56 1) (M 57 1)) (c := M 56 1) (x := 101) (y := 60) (by omega) (by omega) (by omega) (by omega)
      omega
    · rw [if_neg e2, ma_ru_0 (by omega)]
      omega
  · rw [if_neg e1]
    by_cases e2 : k = 2
    · rw [if_pos e2]
      have a3 := ma_ru_s (s := s) (p := M 57 2) (by omega) (by omega)
      have a4 := ma_ru_nn (r := s) (p := M 57 2) (by omega) (by omega)
      have := ma_mul (a := ma_ru s (M 57 2)) (c := M 56 2) (x := 100) (y := 60) (by omega) (by omega) (by omega) (by omega)
      omega
    · rw [if_neg e2]
      omega
theorem mo_dem_m {M : am_M} (h : mo_rb M) {k s u : Int} (hs : s ≤ u) : mo_dem M k s ≤ mo_dem M k u := by
  obtain ⟨h1, h2⟩ := h
  unfold mo_dem
  by_cases e1 : k = 1
  · rw [if_pos e1, if_pos e1]
    have e3 : (if M 56 1 < s then s - M 56 1 else 0) ≤ (if M 56 1 < u then u - M 56 1 else 0) := by
      by_cases e2 : M 56 1 < s
      · rw [if_pos e2, if_pos (by omega)]; omega
      · rw [if_neg e2]
        by_cases e4 : M 56 1 < u
        · rw [if_pos e4]; omega
        · rw [if_neg e4]; omega
    have a := ma_ru_mono (p := M 57 1) (by omega) e3
    exact Int.mul_le_mul_of_nonneg_right (by omega) (by omega)
  · rw [if_neg e1, if_neg e1]
    by_cases e2 : k = 2
    · rw [if_pos e2, if_pos e2]
      exact Int.mul_le_mul_of_nonneg_right (ma_ru_mono (by omega) hs) (by omega)
    · rw [if_neg e2, if_neg e2]; omega
theorem mo_D_m {M : am_M} (h : mo_ok M) (h2 : mo_rb M) {k s u : Int} {r : Nat} (hr : (r : Int) ≤ M 50 1) (hs : s ≤ u) : mo_D M k r s ≤ mo_D M k r u := by
  have a := mo_dem_m h2 (k := k) hs
  have b := ma_su_le (f := mo_tm M s) (g := mo_tm M u) (n := r) (fun j hj => by
    have a1 := (h.2 j (by omega)).1
    have a2 := h.2 (M 55 j).toNat (by omega)
    exact Int.mul_le_mul_of_nonneg_right (ma_ru_mono (by omega) hs) (by omega))
  unfold mo_D
  omega
theorem mo_D_b {M : am_M} (h : mo_ok M) (h2 : mo_rb M) {k s : Int} {r : Nat} (hr : (r : Int) < M 50 1) (hs : 0 ≤ s ∧ s ≤ 100) : M 53 (M 55 r).toNat ≤ mo_D M k r s ∧ mo_D M k r s ≤ 50000 := by
  have a := mo_dem_b h2 (k := k) hs
  have b := mo_ts_b h hs (n := r) (by omega)
  have a1 := (h.2 r hr).1
  have a2 := h.2 (M 55 r).toNat (by omega)
  unfold mo_D
  omega
theorem am_rta_gt {D : Int → Int} {m x : Int} (h : m < x) : ∀ n, am_rta D m n x = 0
  | 0 => rfl
  | n + 1 => by rw [am_rta, if_neg (by omega)]
def P_MO_isAdmitted : am_P := fun av M => match av with
  | [.inr (.inl b), .inl k] => b = 50 ∧ am_R k ∧ mo_ok M ∧ mo_rb M
  | _ => False
def f_MO_isAdmitted : am_Fr := fun av M => match av with
  | [.inr (.inl b), .inl k] => some (.inl (mo_a M k))
  | _ => none
abbrev g_MO_isAdmitted : am_Fm := g_id
def ct_MO_isAdmitted : am_T := fun pc => if pc = 54 then some (3, am_ctV vw_S 11 P_MO_taken (am_po f_MO_taken g_MO_taken)) else if pc = 85 then some (2, am_ctS P_MO_times (am_po f_MO_times g_MO_times)) else none
theorem e_MO_isAdmitted_54 : ct_MO_isAdmitted 54 = some (3, am_ctV vw_S 11 P_MO_taken (am_po f_MO_taken g_MO_taken)) := rfl
theorem e_MO_isAdmitted_85 : ct_MO_isAdmitted 85 = some (2, am_ctS P_MO_times (am_po f_MO_times g_MO_times)) := rfl
theorem ct_MO_isAdmitted_ok (l : Launch) : am_CC b_MO_isAdmitted 8 w_MO_isAdmitted y_MO_isAdmitted.cls l r_MO_isAdmitted ct_MO_isAdmitted := by
  intro p e s m args below meth c H0 A D G ad Q S hK hN hA pc q ct h
  have hts := S.2.2.2.2
  unfold ct_MO_isAdmitted at h
  split at h
  · rename_i hpc
    subst hpc; cases h
    exact am_callV S vw_N_ok hK hN hA ⟨Nat.zero_le _, Nat.zero_le _⟩ (m_MO_taken l) (s_MO_118 hts am_vW hN ⟨by decide, by decide⟩) (by rfl) d_MO_isAdmitted_54
  split at h
  · rename_i hpc
    subst hpc; cases h
    exact am_callS S vw_N_ok hK hN hA ⟨Nat.zero_le _, Nat.zero_le _⟩ (m_MO_times l) (s_MO_115 hts am_vW hN ⟨by decide, by decide⟩) d_MO_isAdmitted_85
  cases h
def inv_MO_isAdmitted : List am_V → am_M → Nat → am_K := fun av M μ pc ls st M2 => match av with
  | [.inr (.inl b), .inl k] => (pc = 0 ∧ ls = am_l0 [.inr (.inl b), .inl k] 8 ∧ st = [] ∧ M = M2 ∧ μ = 1000000) ∨ (∃ (i : Int) (w3 w4 w5 w6 w7 : Option am_V), pc = 2 ∧ ls = [some (.inr (.inl b)), some (.inl k), some (.inl i), w3, w4, w5, w6, w7] ∧ st = [] ∧ M = M2 ∧ ((0 ≤ i ∧ i ≤ M 50 1) ∧ ∀ j : Nat, (j : Int) < i → mo_it M k j = 1) ∧ μ = (5 - i).toNat * 100000 + 50000) ∨ (∃ (i x g : Int) (n : Nat) (w6 w7 : Option am_V), pc = 28 ∧ ls = [some (.inr (.inl b)), some (.inl k), some (.inl i), some (.inl (M 55 i.toNat)), some (.inl x), some (.inl g), w6, w7] ∧ st = [] ∧ M = M2 ∧ ((0 ≤ i ∧ i < M 50 1) ∧ (∀ j : Nat, (j : Int) < i → mo_it M k j = 1) ∧ (0 ≤ x ∧ x ≤ 100000) ∧ n ≤ 61 ∧ ((g = 0 ∧ x ≤ M 54 (M 55 i.toNat).toNat ∧ mo_it M k i.toNat = 1) ∨ (g = 1 ∧ (n : Int) + 1 ≤ x ∧ x ≤ mo_D M k i.toNat x ∧ am_rta (mo_D M k i.toNat) (M 54 (M 55 i.toNat).toNat) (61 - n) x = mo_it M k i.toNat))) ∧ μ = (5 - i).toNat * 100000 + (61 - n) * 100 + 50) ∨ (∃ (i x g m j : Int) (n : Nat), pc = 63 ∧ ls = [some (.inr (.inl b)), some (.inl k), some (.inl i), some (.inl (M 55 i.toNat)), some (.inl x), some (.inl g), some (.inl m), some (.inl j)] ∧ st = [] ∧ M = M2 ∧ ((0 ≤ i ∧ i < M 50 1) ∧ (∀ j : Nat, (j : Int) < i → mo_it M k j = 1) ∧ (0 ≤ j ∧ j ≤ i) ∧ ((n : Int) + 1 ≤ x ∧ x ≤ M 54 (M 55 i.toNat).toNat) ∧ x ≤ mo_D M k i.toNat x ∧ am_rta (mo_D M k i.toNat) (M 54 (M 55 i.toNat).toNat) (61 - n) x = mo_it M k i.toNat ∧ m = M 53 (M 55 i.toNat).toNat + mo_dem M k x + ma_su (mo_tm M x) j.toNat) ∧ μ = (5 - i).toNat * 100000 + (61 - n) * 100 + (i - j).toNat)
  | _ => False
theorem m_MO_isAdmitted (l : Launch) : am_MF l y_MO_isAdmitted w_MO_isAdmitted r_MO_isAdmitted P_MO_isAdmitted f_MO_isAdmitted g_MO_isAdmitted := by
  refine am_mkL (fun pc => pc == 2 || pc == 28 || pc == 63) i_MO_isAdmitted_ok fd_MO_ok (ct_MO_isAdmitted_ok l) (plainFor_of_name (by decide +kernel)) (by decide) ?_ 60 inv_MO_isAdmitted ?_ ?_
  · intro av M h
    unfold P_MO_isAdmitted at h
    split at h
    · exact ⟨Nat.le_of_ble_eq_true rfl, rfl⟩
    · exact h.elim
  · intro av M h
    unfold P_MO_isAdmitted at h
    split at h
    · exact ⟨_, Or.inl ⟨rfl, rfl, rfl, rfl, rfl⟩⟩
    · exact h.elim
  · intro av M h μ pc ls st M2 hi
    unfold P_MO_isAdmitted at h
    split at h
    · rename_i b k
      obtain ⟨rfl, h1, ⟨h3, h4⟩, h5⟩ := h
      rcases hi with ⟨rfl, rfl, rfl, rfl, rfl⟩ | ⟨i, w3, w4, w5, w6, w7, rfl, rfl, rfl, rfl, ⟨hi, hn⟩, rfl⟩ | ⟨i, x, g, n, w6, w7, rfl, rfl, rfl, rfl, ⟨hi, hn, hx, hnn, hg⟩, rfl⟩ | ⟨i, x, g, m, j, n, rfl, rfl, rfl, rfl, ⟨hi, hn, hj, hx, hxD, hg, hm⟩, rfl⟩
      · skip
        refine xs_iconst (q := 1) i_MO_isAdmitted_0 rfl (xs_n rfl ?_)
        refine xs_istore_n (q := 2) (ls2 := [_, _, _, _, _, _, _, _]) i_MO_isAdmitted_1 rfl rfl rfl (xs_z rfl ?_)
        exact ⟨5 * 100000 + 50000, by omega, Or.inr (Or.inl ⟨0, none, none, none, none, none, rfl, rfl, rfl, rfl, ⟨by omega, fun j hj => by omega⟩, by omega⟩)⟩
      · skip
        refine xs_iload_n (q := 3) i_MO_isAdmitted_2 rfl rfl (xs_n rfl ?_)
        refine xs_aload_n (q := 4) i_MO_isAdmitted_3 rfl rfl (xs_n rfl ?_)
        refine xs_geti (q := 7) i_MO_isAdmitted_4 rfl fd_MO_96 sg_50 rfl (xs_n rfl ?_)
        refine xs_ic_ge (q := 150) (r := 10) i_MO_isAdmitted_7 rfl rfl ⟨by unfold am_R; omega, by unfold am_R; omega⟩ (fun h7 => (xs_n rfl ?_)) (fun h7 => (xs_n rfl ?_))
        · refine xs_iconst (q := 151) i_MO_isAdmitted_150 rfl (xs_n rfl ?_)
          refine xs_iret i_MO_isAdmitted_151 ?_
          exact xs_fin (by simp only [f_MO_isAdmitted]; rw [mo_a_1 (fun j hj => hn j (by omega))]) rfl (Or.inr rfl)
        · have hr := (h4 i.toNat (by omega)).1
          have hq := h4 (M 55 i.toNat).toNat (by omega)
          refine xs_aload_n (q := 11) i_MO_isAdmitted_10 rfl rfl (xs_n rfl ?_)
          refine xs_getr (q := 14) i_MO_isAdmitted_11 rfl fd_MO_22 sg_50 rfl (xs_n rfl ?_)
          refine xs_iload_n (q := 15) i_MO_isAdmitted_14 rfl rfl (xs_n rfl ?_)
          refine xs_iaload (q := 16) i_MO_isAdmitted_15 rfl sg_55 rfl (by omega) (xs_n rfl ?_)
          refine xs_istore_n (q := 17) (ls2 := [_, _, _, _, _, _, _, _]) i_MO_isAdmitted_16 rfl rfl rfl (xs_n rfl ?_)
          refine xs_aload_n (q := 18) i_MO_isAdmitted_17 rfl rfl (xs_n rfl ?_)
          refine xs_getr (q := 21) i_MO_isAdmitted_18 rfl fd_MO_16 sg_50 rfl (xs_n rfl ?_)
          refine xs_iload_n (q := 22) i_MO_isAdmitted_21 rfl rfl (xs_n rfl ?_)
          refine xs_iaload (q := 23) i_MO_isAdmitted_22 rfl sg_53 rfl (by omega) (xs_n rfl ?_)
          refine xs_istore (q := 25) (ls2 := [_, _, _, _, _, _, _, _]) i_MO_isAdmitted_23 rfl rfl rfl (xs_n rfl ?_)
          refine xs_iconst (q := 26) i_MO_isAdmitted_25 rfl (xs_n rfl ?_)
          refine xs_istore (q := 28) (ls2 := [_, _, _, _, _, _, _, _]) i_MO_isAdmitted_26 rfl rfl rfl (xs_z rfl ?_)
          exact ⟨(5 - i).toNat * 100000 + (61 - 0) * 100 + 50, by omega, Or.inr (Or.inr (Or.inl ⟨i, _, 1, 0, _, _, rfl, rfl, rfl, rfl, ⟨by omega, hn, by omega, by omega, Or.inr ⟨rfl, by omega, (mo_D_b ⟨h3, h4⟩ h5 (by omega) (by omega)).1, rfl⟩⟩, rfl⟩))⟩
      · skip
        have hr := (h4 i.toNat (by omega)).1
        have hq := h4 (M 55 i.toNat).toNat (by omega)
        refine xs_iload (q := 30) i_MO_isAdmitted_28 rfl rfl (xs_n rfl ?_)
        refine xs_if_eq (q := 131) (r := 33) i_MO_isAdmitted_30 rfl rfl (by rcases hg with q | q <;> (unfold am_R; omega)) (fun h30 => (xs_n rfl ?_)) (fun h30 => (xs_n rfl ?_))
        · refine xs_iload (q := 133) i_MO_isAdmitted_131 rfl rfl (xs_n rfl ?_)
          refine xs_aload_n (q := 134) i_MO_isAdmitted_133 rfl rfl (xs_n rfl ?_)
          refine xs_getr (q := 137) i_MO_isAdmitted_134 rfl fd_MO_19 sg_50 rfl (xs_n rfl ?_)
          refine xs_iload_n (q := 138) i_MO_isAdmitted_137 rfl rfl (xs_n rfl ?_)
          refine xs_iaload (q := 139) i_MO_isAdmitted_138 rfl sg_54 rfl (by omega) (xs_n rfl ?_)
          refine xs_ic_le (q := 144) (r := 142) i_MO_isAdmitted_139 rfl rfl ⟨by unfold am_R; omega, by unfold am_R; omega⟩ (fun h139 => (xs_n rfl ?_)) (fun h139 => (xs_n rfl ?_))
          · refine xs_iinc (q := 147) (ls2 := [_, _, _, _, _, _, _, _]) i_MO_isAdmitted_144 rfl rfl rfl (xs_n rfl ?_)
            refine xs_goto (q := 2) i_MO_isAdmitted_147 rfl (xs_z rfl ?_)
            have h1t : mo_it M k i.toNat = 1 := hg.elim (fun q => q.2.2) (fun q => absurd h30 (by omega))
            exact ⟨(5 - (i + 1)).toNat * 100000 + 50000, by omega, Or.inr (Or.inl ⟨i + 1, _, _, _, _, _, rfl, rfl, rfl, rfl, ⟨by omega, am_ls hn h1t (by omega)⟩, rfl⟩)⟩
          · refine xs_iconst (q := 143) i_MO_isAdmitted_142 rfl (xs_n rfl ?_)
            refine xs_iret i_MO_isAdmitted_143 ?_
            exact absurd (show M 54 (M 55 i.toNat).toNat < x from h139) (by rcases hg with q | q <;> omega)
        · refine xs_iload (q := 35) i_MO_isAdmitted_33 rfl rfl (xs_n rfl ?_)
          refine xs_aload_n (q := 36) i_MO_isAdmitted_35 rfl rfl (xs_n rfl ?_)
          refine xs_getr (q := 39) i_MO_isAdmitted_36 rfl fd_MO_19 sg_50 rfl (xs_n rfl ?_)
          refine xs_iload_n (q := 40) i_MO_isAdmitted_39 rfl rfl (xs_n rfl ?_)
          refine xs_iaload (q := 41) i_MO_isAdmitted_40 rfl sg_54 rfl (by omega) (xs_n rfl ?_)
          refine xs_ic_gt (q := 131) (r := 44) i_MO_isAdmitted_41 rfl rfl ⟨by unfold am_R; omega, by unfold am_R; omega⟩ (fun h41 => (xs_n rfl ?_)) (fun h41 => (xs_n rfl ?_))
          · refine xs_iload (q := 133) i_MO_isAdmitted_131 rfl rfl (xs_n rfl ?_)
            refine xs_aload_n (q := 134) i_MO_isAdmitted_133 rfl rfl (xs_n rfl ?_)
            refine xs_getr (q := 137) i_MO_isAdmitted_134 rfl fd_MO_19 sg_50 rfl (xs_n rfl ?_)
            refine xs_iload_n (q := 138) i_MO_isAdmitted_137 rfl rfl (xs_n rfl ?_)
            refine xs_iaload (q := 139) i_MO_isAdmitted_138 rfl sg_54 rfl (by omega) (xs_n rfl ?_)
            refine xs_ic_le (q := 144) (r := 142) i_MO_isAdmitted_139 rfl rfl ⟨by unfold am_R; omega, by unfold am_R; omega⟩ (fun h139 => (xs_n rfl ?_)) (fun h139 => (xs_n rfl ?_))
            · refine xs_iinc (q := 147) (ls2 := [_, _, _, _, _, _, _, _]) i_MO_isAdmitted_144 rfl rfl rfl (xs_n rfl ?_)
              refine xs_goto (q := 2) i_MO_isAdmitted_147 rfl (xs_z rfl ?_)
              have h1t : mo_it M k i.toNat = 1 := hg.elim (fun q => q.2.2) (fun q => absurd (show x ≤ M 54 (M 55 i.toNat).toNat from h139) (by have h41b : M 54 (M 55 i.toNat).toNat < x := h41; omega))
              exact ⟨(5 - (i + 1)).toNat * 100000 + 50000, by omega, Or.inr (Or.inl ⟨i + 1, _, _, _, _, _, rfl, rfl, rfl, rfl, ⟨by omega, am_ls hn h1t (by omega)⟩, rfl⟩)⟩
            · refine xs_iconst (q := 143) i_MO_isAdmitted_142 rfl (xs_n rfl ?_)
              refine xs_iret i_MO_isAdmitted_143 ?_
              obtain ⟨rfl, g1, g2, g3⟩ := hg.resolve_left (fun q => h30 q.1)
              exact xs_fin (by simp only [f_MO_isAdmitted]; rw [mo_a_0 (i := i.toNat) (by omega) (by rw [← g3]; exact am_rta_gt h139 _) (fun j hj => hn j (by omega))]) rfl (Or.inl rfl)
          · refine xs_aload_n (q := 45) i_MO_isAdmitted_44 rfl rfl (xs_n rfl ?_)
            refine xs_getr (q := 48) i_MO_isAdmitted_45 rfl fd_MO_16 sg_50 rfl (xs_n rfl ?_)
            refine xs_iload_n (q := 49) i_MO_isAdmitted_48 rfl rfl (xs_n rfl ?_)
            refine xs_iaload (q := 50) i_MO_isAdmitted_49 rfl sg_53 rfl (by omega) (xs_n rfl ?_)
            refine xs_aload_n (q := 51) i_MO_isAdmitted_50 rfl rfl (xs_n rfl ?_)
            refine xs_iload_n (q := 52) i_MO_isAdmitted_51 rfl rfl (xs_n rfl ?_)
            refine xs_iload (q := 54) i_MO_isAdmitted_52 rfl rfl (xs_n rfl ?_)
            refine xs_cv (q := 57) (av := [_, _, _]) (rest := [_]) i_MO_isAdmitted_54 rfl (e_MO_isAdmitted_54) ⟨rfl, rfl⟩ rfl rfl ?_
            rw [am_V_iff]
            refine ⟨⟨_, sg_50⟩, ⟨rfl, h1, by omega, h5⟩, ?_⟩
            dsimp only [g_MO_taken, g_id]
            refine xs_r1 rfl (xs_n rfl ?_)
            refine xs_iadd (q := 58) i_MO_isAdmitted_57 rfl (xs_n rfl ?_)
            refine xs_istore (q := 60) (ls2 := [_, _, _, _, _, _, _, _]) i_MO_isAdmitted_58 rfl rfl rfl (xs_n rfl ?_)
            refine xs_iconst (q := 61) i_MO_isAdmitted_60 rfl (xs_n rfl ?_)
            refine xs_istore (q := 63) (ls2 := [_, _, _, _, _, _, _, _]) i_MO_isAdmitted_61 rfl rfl rfl (xs_z rfl ?_)
            obtain ⟨rfl, g1, g2, g3⟩ := hg.resolve_left (fun q => h30 q.1)
            exact ⟨(5 - i).toNat * 100000 + (61 - n) * 100 + i.toNat, by omega, Or.inr (Or.inr (Or.inr ⟨i, x, 1, _, 0, n, rfl, rfl, rfl, rfl, ⟨by omega, hn, by omega, ⟨g1, h41⟩, g2, g3, by simp [ma_su]⟩, by omega⟩))⟩
      · skip
        have hr := (h4 i.toNat (by omega)).1
        have hq := h4 (M 55 i.toNat).toNat (by omega)
        have hts := mo_ts_b (M := M) ⟨h3, h4⟩ (x := x) (by omega) (n := j.toNat) (by omega)
        have hdm := mo_dem_b h5 (k := k) (s := x) (by omega)
        refine xs_iload (q := 65) i_MO_isAdmitted_63 rfl rfl (xs_n rfl ?_)
        refine xs_iload_n (q := 66) i_MO_isAdmitted_65 rfl rfl (xs_n rfl ?_)
        refine xs_ic_ge (q := 110) (r := 69) i_MO_isAdmitted_66 rfl rfl ⟨by unfold am_R; omega, by unfold am_R; omega⟩ (fun h66 => (xs_n rfl ?_)) (fun h66 => (xs_n rfl ?_))
        · refine xs_iload (q := 112) i_MO_isAdmitted_110 rfl rfl (xs_n rfl ?_)
          refine xs_iload (q := 114) i_MO_isAdmitted_112 rfl rfl (xs_n rfl ?_)
          refine xs_ic_eq (q := 121) (r := 117) i_MO_isAdmitted_114 rfl rfl ⟨by unfold am_R; omega, by unfold am_R; omega⟩ (fun h114 => (xs_n rfl ?_)) (fun h114 => (xs_n rfl ?_))
          · refine xs_iconst (q := 122) i_MO_isAdmitted_121 rfl (xs_n rfl ?_)
            refine xs_istore (q := 124) (ls2 := [_, _, _, _, _, _, _, _]) i_MO_isAdmitted_122 rfl rfl rfl (xs_n rfl ?_)
            refine xs_iload (q := 126) i_MO_isAdmitted_124 rfl rfl (xs_n rfl ?_)
            refine xs_istore (q := 128) (ls2 := [_, _, _, _, _, _, _, _]) i_MO_isAdmitted_126 rfl rfl rfl (xs_n rfl ?_)
            refine xs_goto (q := 28) i_MO_isAdmitted_128 rfl (xs_z rfl ?_)
            obtain rfl : j = i := by omega
            have hD : mo_D M k j.toNat x = m := hm.symm
            have hDb := mo_D_b (M := M) ⟨h3, h4⟩ h5 (k := k) (s := x) (r := j.toNat) (by omega) (by omega)
            have hfu : am_rta (mo_D M k j.toNat) (M 54 (M 55 j.toNat).toNat) (61 - n) x = (if mo_D M k j.toNat x = x then 1 else am_rta (mo_D M k j.toNat) (M 54 (M 55 j.toNat).toNat) (61 - (n + 1)) (mo_D M k j.toNat x)) := by rw [show 61 - n = (61 - (n + 1)) + 1 by omega, am_rta, if_pos hx.2]
            have h114b : m = x := h114
            refine ⟨(5 - j).toNat * 100000 + (61 - (n + 1)) * 100 + 50, by omega, Or.inr (Or.inr (Or.inl ⟨j, m, 0, n + 1, _, _, rfl, rfl, rfl, rfl, ⟨by omega, hn, by omega, by omega, Or.inl ⟨rfl, by omega, ?_⟩⟩, rfl⟩))⟩
            rw [← hg, hfu, if_pos (by omega)]
          · refine xs_iconst (q := 118) i_MO_isAdmitted_117 rfl (xs_n rfl ?_)
            refine xs_goto (q := 122) i_MO_isAdmitted_118 rfl (xs_n rfl ?_)
            refine xs_istore (q := 124) (ls2 := [_, _, _, _, _, _, _, _]) i_MO_isAdmitted_122 rfl rfl rfl (xs_n rfl ?_)
            refine xs_iload (q := 126) i_MO_isAdmitted_124 rfl rfl (xs_n rfl ?_)
            refine xs_istore (q := 128) (ls2 := [_, _, _, _, _, _, _, _]) i_MO_isAdmitted_126 rfl rfl rfl (xs_n rfl ?_)
            refine xs_goto (q := 28) i_MO_isAdmitted_128 rfl (xs_z rfl ?_)
            obtain rfl : j = i := by omega
            have hD : mo_D M k j.toNat x = m := hm.symm
            have hDb := mo_D_b (M := M) ⟨h3, h4⟩ h5 (k := k) (s := x) (r := j.toNat) (by omega) (by omega)
            have hfu : am_rta (mo_D M k j.toNat) (M 54 (M 55 j.toNat).toNat) (61 - n) x = (if mo_D M k j.toNat x = x then 1 else am_rta (mo_D M k j.toNat) (M 54 (M 55 j.toNat).toNat) (61 - (n + 1)) (mo_D M k j.toNat x)) := by rw [show 61 - n = (61 - (n + 1)) + 1 by omega, am_rta, if_pos hx.2]
            have h114b : m ≠ x := h114
            refine ⟨(5 - j).toNat * 100000 + (61 - (n + 1)) * 100 + 50, by omega, Or.inr (Or.inr (Or.inl ⟨j, m, 1, n + 1, _, _, rfl, rfl, rfl, rfl, ⟨by omega, hn, by omega, by omega, Or.inr ⟨rfl, by omega, ?_, ?_⟩⟩, rfl⟩))⟩
            · have hmo := mo_D_m (M := M) ⟨h3, h4⟩ h5 (k := k) (r := j.toNat) (s := x) (u := m) (by omega) (by omega)
              omega
            · rw [← hg, hfu, if_neg (by omega), hD]
        · have hjr := (h4 j.toNat (by omega)).1
          have hjq := h4 (M 55 j.toNat).toNat (by omega)
          refine xs_iload (q := 71) i_MO_isAdmitted_69 rfl rfl (xs_n rfl ?_)
          refine xs_iload (q := 73) i_MO_isAdmitted_71 rfl rfl (xs_n rfl ?_)
          refine xs_aload_n (q := 74) i_MO_isAdmitted_73 rfl rfl (xs_n rfl ?_)
          refine xs_getr (q := 77) i_MO_isAdmitted_74 rfl fd_MO_7 sg_50 rfl (xs_n rfl ?_)
          refine xs_aload_n (q := 78) i_MO_isAdmitted_77 rfl rfl (xs_n rfl ?_)
          refine xs_getr (q := 81) i_MO_isAdmitted_78 rfl fd_MO_22 sg_50 rfl (xs_n rfl ?_)
          refine xs_iload (q := 83) i_MO_isAdmitted_81 rfl rfl (xs_n rfl ?_)
          refine xs_iaload (q := 84) i_MO_isAdmitted_83 rfl sg_55 rfl (by omega) (xs_n rfl ?_)
          refine xs_iaload (q := 85) i_MO_isAdmitted_84 rfl sg_51 rfl (by omega) (xs_n rfl ?_)
          refine xs_cs (q := 88) (av := [_, _]) (rest := [_]) i_MO_isAdmitted_85 rfl (e_MO_isAdmitted_85) ⟨rfl, rfl⟩ rfl rfl ?_
          rw [am_S_iff]
          refine ⟨by show (0 ≤ x ∧ x ≤ 1000000 ∧ 0 < M 51 (M 55 j.toNat).toNat ∧ M 51 (M 55 j.toNat).toNat ≤ 1000000); omega, ?_⟩
          dsimp only [g_MO_times, g_id]
          refine xs_r1 rfl (xs_n rfl ?_)
          refine xs_aload_n (q := 89) i_MO_isAdmitted_88 rfl rfl (xs_n rfl ?_)
          refine xs_getr (q := 92) i_MO_isAdmitted_89 rfl fd_MO_16 sg_50 rfl (xs_n rfl ?_)
          refine xs_aload_n (q := 93) i_MO_isAdmitted_92 rfl rfl (xs_n rfl ?_)
          refine xs_getr (q := 96) i_MO_isAdmitted_93 rfl fd_MO_22 sg_50 rfl (xs_n rfl ?_)
          refine xs_iload (q := 98) i_MO_isAdmitted_96 rfl rfl (xs_n rfl ?_)
          refine xs_iaload (q := 99) i_MO_isAdmitted_98 rfl sg_55 rfl (by omega) (xs_n rfl ?_)
          refine xs_iaload (q := 100) i_MO_isAdmitted_99 rfl sg_53 rfl (by omega) (xs_n rfl ?_)
          refine xs_imul (q := 101) i_MO_isAdmitted_100 rfl (xs_n rfl ?_)
          refine xs_iadd (q := 102) i_MO_isAdmitted_101 rfl (xs_n rfl ?_)
          refine xs_istore (q := 104) (ls2 := [_, _, _, _, _, _, _, _]) i_MO_isAdmitted_102 rfl rfl rfl (xs_n rfl ?_)
          refine xs_iinc (q := 107) (ls2 := [_, _, _, _, _, _, _, _]) i_MO_isAdmitted_104 rfl rfl rfl (xs_n rfl ?_)
          refine xs_goto (q := 63) i_MO_isAdmitted_107 rfl (xs_z rfl ?_)
          exact ⟨(5 - i).toNat * 100000 + (61 - n) * 100 + (i - (j + 1)).toNat, by omega, Or.inr (Or.inr (Or.inr ⟨i, x, g, _, j + 1, n, rfl, rfl, rfl, rfl, ⟨by omega, hn, by omega, hx, hxD, hg, by rw [hm, show (j + 1).toNat = j.toNat + 1 by omega]; simp only [ma_su]; rw [← Int.add_assoc]; rfl⟩, rfl⟩))⟩
    · exact h.elim
