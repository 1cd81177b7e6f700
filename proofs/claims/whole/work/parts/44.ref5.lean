/-! contracts: the reference, its slack (wip/whole/p44.py) -/
def mo_pw (M : am_M) (n : Nat) : Int := ma_su (fun j => M 64 (M 55 j).toNat) n
def mo_nx (M : am_M) (z : Int) (t : Nat) : Int := ma_nx (M 52 t) (M 51 t) (M 50 19 + z)
def mo_cm (M : am_M) (z a : Int) (t : Nat) : Int := if 0 < M 66 t ∧ a = mo_nx M z t then M 66 t else M 53 t
def mo_aj (M : am_M) (z a : Int) (t : Nat) : Int := if (M 52 t ≤ a ∧ (a - M 52 t) % M 51 t = 0) ∧ (M 50 19 < a ∨ z = 0) then mo_cm M z a t else 0
def mo_aw (M : am_M) (z a : Int) (n : Nat) : Int := ma_su (fun j => mo_aj M z a (M 55 j).toNat) n
def mo_en (M : am_M) (z : Int) (t : Nat) : Int := if 0 < M 64 t then M 65 t else mo_nx M z t + M 54 t
def mo_sl (M : am_M) (z : Int) (n : Nat) : Nat → Int → Int → Int → Int
  | 0, _, _, m => m
  | q + 1, a, w, m => mo_sl M z n q (a + 1) (w + mo_aw M z a n) (if m < a + 1 - M 50 19 - (w + mo_aw M z a n) then a + 1 - M 50 19 - (w + mo_aw M z a n) else m)
def mo_sr (M : am_M) (z : Int) (k : Nat) : Int := mo_sl M z (k + 1) (mo_en M z (M 55 k).toNat - M 50 19).toNat (M 50 19) (mo_pw M (k + 1)) (-(mo_pw M (k + 1)))
def mo_so (M : am_M) (z : Int) (k : Nat) : Int := if mo_sr M z k < 0 then 0 else mo_sr M z k
/-- the reference's instances are small numbers -/
def mo_in (M : am_M) : Prop := mo_ok M ∧ (0 ≤ M 50 19 ∧ M 50 19 ≤ 100000) ∧ ∀ j, j < 5 → (0 ≤ M 64 j ∧ M 64 j ≤ 1000) ∧ (0 ≤ M 65 j ∧ M 65 j ≤ 200000) ∧ (0 ≤ M 66 j ∧ M 66 j ≤ 60)
theorem mo_nx_b {M : am_M} (h : mo_in M) {z : Int} (hz : z = 0 ∨ z = 1) {t : Nat} (ht : (t : Int) < M 50 1) : M 50 19 ≤ mo_nx M z t ∧ mo_nx M z t ≤ 100200 := by
  have h1 := h.1.2 t ht
  have h2 := h.2.1
  have h3 := ma_nx_ge (o := M 52 t) (p := M 51 t) (y := M 50 19 + z) (by omega)
  have h4 := ma_nx_b (o := M 52 t) (p := M 51 t) (y := M 50 19 + z) (by omega) (by omega) (by omega)
  unfold mo_nx
  omega
theorem mo_aj_b {M : am_M} (h : mo_in M) {z a : Int} {t : Nat} (ht : (t : Int) < M 50 1) : 0 ≤ mo_aj M z a t ∧ mo_aj M z a t ≤ 60 := by
  have h1 := h.1.2 t ht
  have h2 := h.2.2 t (by have := h.1.1; omega)
  unfold mo_aj
  by_cases c : (M 52 t ≤ a ∧ (a - M 52 t) % M 51 t = 0) ∧ (M 50 19 < a ∨ z = 0)
  · rw [if_pos c]
    unfold mo_cm
    by_cases c2 : 0 < M 66 t ∧ a = mo_nx M z t
    · rw [if_pos c2]; omega
    · rw [if_neg c2]; omega
  · rw [if_neg c]; omega
theorem mo_aw_b {M : am_M} (h : mo_in M) {z a : Int} {n : Nat} (hn : (n : Int) ≤ M 50 1) : 0 ≤ mo_aw M z a n ∧ mo_aw M z a n ≤ 300 := by
  have h0 := h.1.1
  have key : ∀ j : Nat, j < n → 0 ≤ mo_aj M z a (M 55 j).toNat ∧ mo_aj M z a (M 55 j).toNat ≤ 60 := fun j hj => mo_aj_b h (by have := (h.1.2 j (by omega)).1; omega)
  have b1 := ma_su_nn (n := n) (fun j hj => (key j hj).1)
  have b2 := ma_su_le (n := n) (g := fun _ => 60) (fun j hj => (key j hj).2)
  rw [ma_su_c] at b2
  unfold mo_aw
  omega
theorem mo_pw_b {M : am_M} (h : mo_in M) {n : Nat} (hn : (n : Int) ≤ M 50 1) : 0 ≤ mo_pw M n ∧ mo_pw M n ≤ 5000 := by
  have h0 := h.1.1
  have key : ∀ j : Nat, j < n → 0 ≤ M 64 (M 55 j).toNat ∧ M 64 (M 55 j).toNat ≤ 1000 := fun j hj => (h.2.2 _ (by have := (h.1.2 j (by omega)).1; omega)).1
  have b1 := ma_su_nn (n := n) (fun j hj => (key j hj).1)
  have b2 := ma_su_le (n := n) (g := fun _ => 1000) (fun j hj => (key j hj).2)
  rw [ma_su_c] at b2
  unfold mo_pw
  omega
theorem mo_en_b {M : am_M} (h : mo_in M) {z : Int} (hz : z = 0 ∨ z = 1) {t : Nat} (ht : (t : Int) < M 50 1) : 0 ≤ mo_en M z t ∧ mo_en M z t ≤ 200000 := by
  have h1 := h.1.2 t ht
  have h2 := h.2.2 t (by have := h.1.1; omega)
  have h3 := mo_nx_b h hz ht
  have h4 := h.2.1
  unfold mo_en
  by_cases c : 0 < M 64 t
  · rw [if_pos c]; omega
  · rw [if_neg c]; omega
def P_MO_slackOf : am_P := fun av M => match av with
  | [.inr (.inl i), .inl k, .inl z] => i = 50 ∧ mo_in M ∧ (0 ≤ k ∧ k < M 50 1) ∧ (z = 0 ∨ z = 1)
  | _ => False
def f_MO_slackOf : am_Fr := fun av M => match av with
  | [.inr (.inl i), .inl k, .inl z] => some (.inl (mo_so M z k.toNat))
  | _ => none
abbrev g_MO_slackOf : am_Fm := g_id
def ct_MO_slackOf : am_T := fun pc => if pc = 63 then some (3, am_ctV vw_S 11 P_MO_nextOf (am_po f_MO_nextOf g_MO_nextOf)) else if pc = 112 then some (3, am_ctV vw_S 11 P_MO_begins (am_po f_MO_begins g_MO_begins)) else if pc = 144 then some (4, am_ctV vw_S 11 P_MO_comes (am_po f_MO_comes g_MO_comes)) else none
theorem e_MO_slackOf_63 : ct_MO_slackOf 63 = some (3, am_ctV vw_S 11 P_MO_nextOf (am_po f_MO_nextOf g_MO_nextOf)) := rfl
theorem e_MO_slackOf_112 : ct_MO_slackOf 112 = some (3, am_ctV vw_S 11 P_MO_begins (am_po f_MO_begins g_MO_begins)) := rfl
theorem e_MO_slackOf_144 : ct_MO_slackOf 144 = some (4, am_ctV vw_S 11 P_MO_comes (am_po f_MO_comes g_MO_comes)) := rfl
theorem ct_MO_slackOf_ok (l : Launch) : am_CC b_MO_slackOf 9 w_MO_slackOf y_MO_slackOf.cls l r_MO_slackOf ct_MO_slackOf := by
  intro p e s m args below meth c H0 A D G ad Q S hK hN hA pc q ct h
  have hts := S.2.2.2.2
  unfold ct_MO_slackOf at h
  split at h
  · rename_i hpc
    subst hpc; cases h
    exact am_callV S vw_N_ok hK hN hA ⟨Nat.zero_le _, Nat.zero_le _⟩ (m_MO_nextOf l) (s_MO_155 hts am_vW hN ⟨by decide, by decide⟩) (by rfl) d_MO_slackOf_63
  split at h
  · rename_i hpc
    subst hpc; cases h
    exact am_callV S vw_N_ok hK hN hA ⟨Nat.zero_le _, Nat.zero_le _⟩ (m_MO_begins l) (s_MO_147 hts am_vW hN ⟨by decide, by decide⟩) (by rfl) d_MO_slackOf_112
  split at h
  · rename_i hpc
    subst hpc; cases h
    exact am_callV S vw_N_ok hK hN hA ⟨Nat.zero_le _, Nat.zero_le _⟩ (m_MO_comes l) (s_MO_158 hts am_vW hN ⟨by decide, by decide⟩) (by rfl) d_MO_slackOf_144
  cases h
def inv_MO_slackOf : List am_V → am_M → Nat → am_K := fun av M μ pc ls st M2 => match av with
  | [.inr (.inl i), .inl k, .inl z] => (pc = 0 ∧ ls = am_l0 [.inr (.inl i), .inl k, .inl z] 9 ∧ st = [] ∧ M = M2 ∧ μ = 1000000000) ∨
    (∃ (t : Nat) (w6 w7 w8 : Option am_V), pc = 13 ∧ ls = [some (.inr (.inl i)), some (.inl k), some (.inl z), some (.inl (M 55 k.toNat)), some (.inl (mo_pw M t)), some (.inl (t : Int)), w6, w7, w8] ∧ st = [] ∧ M = M2 ∧ (t : Int) ≤ k + 1 ∧ μ = 100000000 - t) ∨
    (∃ (a w m : Int) (w8 : Option am_V), pc = 86 ∧ ls = [some (.inr (.inl i)), some (.inl k), some (.inl z), some (.inl (M 55 k.toNat)), some (.inl w), some (.inl (mo_en M z (M 55 k.toNat).toNat)), some (.inl m), some (.inl a), w8] ∧ st = [] ∧ M = M2 ∧ ((M 50 19 ≤ a ∧ a ≤ 300000) ∧ (0 ≤ w ∧ w ≤ 5000 + 300 * (a - M 50 19)) ∧ (-1000000000 ≤ m ∧ m ≤ 1000000) ∧ mo_sl M z (k.toNat + 1) (mo_en M z (M 55 k.toNat).toNat - a).toNat a w m = mo_sr M z k.toNat) ∧ μ = (mo_en M z (M 55 k.toNat).toNat - a).toNat * 10 + 9) ∨
    (∃ (a w m : Int) (t : Nat), pc = 96 ∧ ls = [some (.inr (.inl i)), some (.inl k), some (.inl z), some (.inl (M 55 k.toNat)), some (.inl (w + mo_aw M z a t)), some (.inl (mo_en M z (M 55 k.toNat).toNat)), some (.inl m), some (.inl a), some (.inl (t : Int))] ∧ st = [] ∧ M = M2 ∧ ((M 50 19 ≤ a ∧ a < mo_en M z (M 55 k.toNat).toNat) ∧ (0 ≤ w ∧ w ≤ 5000 + 300 * (a - M 50 19)) ∧ (-1000000000 ≤ m ∧ m ≤ 1000000) ∧ mo_sl M z (k.toNat + 1) (mo_en M z (M 55 k.toNat).toNat - a).toNat a w m = mo_sr M z k.toNat ∧ (t : Int) ≤ k + 1) ∧ μ = (mo_en M z (M 55 k.toNat).toNat - a).toNat * 10 + 8 - t)
  | _ => False
theorem m_MO_slackOf (l : Launch) : am_MF l y_MO_slackOf w_MO_slackOf r_MO_slackOf P_MO_slackOf f_MO_slackOf g_MO_slackOf := by
  refine am_mkL (fun pc => pc == 13 || pc == 86 || pc == 96) i_MO_slackOf_ok fd_MO_ok (ct_MO_slackOf_ok l) (plainFor_of_name (by decide +kernel)) (by decide) ?_ 60 inv_MO_slackOf ?_ ?_
  · intro av M h
    unfold P_MO_slackOf at h
    split at h
    · exact ⟨Nat.le_of_ble_eq_true rfl, rfl⟩
    · exact h.elim
  · intro av M h
    unfold P_MO_slackOf at h
    split at h
    · exact ⟨_, Or.inl ⟨rfl, rfl, rfl, rfl, rfl⟩⟩
    · exact h.elim
  · intro av M h μ pc ls st M2 hi
    unfold P_MO_slackOf at h
    split at h
    · rename_i i k z
      obtain ⟨rfl, hM, h2, h3⟩ := h
      have hk := (hM.1.2 k.toNat (by omega)).1
      have hk2 := hM.1.2 (M 55 k.toNat).toNat (by omega)
      have h0 := hM.1.1
      have hn := hM.2.1
      have he := mo_en_b hM h3 (t := (M 55 k.toNat).toNat) (by omega)
      have hks := hM.2.2 (M 55 k.toNat).toNat (by omega)
      rcases hi with ⟨rfl, rfl, rfl, rfl, rfl⟩ | ⟨t, w6, w7, w8, rfl, rfl, rfl, rfl, ht, rfl⟩ | ⟨a, w, m, w8, rfl, rfl, rfl, rfl, ⟨ha, hw, hm, hg⟩, rfl⟩ | ⟨a, w, m, t, rfl, rfl, rfl, rfl, ⟨ha, hw, hm, hg, ht⟩, rfl⟩
      · skip
        refine xs_aload_n (q := 1) i_MO_slackOf_0 rfl rfl (xs_n rfl ?_)
        refine xs_getr (q := 4) i_MO_slackOf_1 rfl fd_MO_22 sg_50 rfl (xs_n rfl ?_)
        refine xs_iload_n (q := 5) i_MO_slackOf_4 rfl rfl (xs_n rfl ?_)
        refine xs_iaload (q := 6) i_MO_slackOf_5 rfl sg_55 rfl (by omega) (xs_n rfl ?_)
        refine xs_istore_n (q := 7) (ls2 := [_, _, _, _, _, _, _, _, _]) i_MO_slackOf_6 rfl rfl rfl (xs_n rfl ?_)
        refine xs_iconst (q := 8) i_MO_slackOf_7 rfl (xs_n rfl ?_)
        refine xs_istore (q := 10) (ls2 := [_, _, _, _, _, _, _, _, _]) i_MO_slackOf_8 rfl rfl rfl (xs_n rfl ?_)
        refine xs_iconst (q := 11) i_MO_slackOf_10 rfl (xs_n rfl ?_)
        refine xs_istore (q := 13) (ls2 := [_, _, _, _, _, _, _, _, _]) i_MO_slackOf_11 rfl rfl rfl (xs_z rfl ?_)
        exact ⟨100000000, by omega, Or.inr (Or.inl ⟨0, _, _, _, rfl, rfl, rfl, rfl, by omega, rfl⟩)⟩
      · skip
        refine xs_iload (q := 15) i_MO_slackOf_13 rfl rfl (xs_n rfl ?_)
        refine xs_iload_n (q := 16) i_MO_slackOf_15 rfl rfl (xs_n rfl ?_)
        refine xs_ic_gt (q := 42) (r := 19) i_MO_slackOf_16 rfl rfl ⟨by unfold am_R; omega, by unfold am_R; omega⟩ (fun h16 => (xs_n rfl ?_)) (fun h16 => (xs_n rfl ?_))
        · refine xs_aload_n (q := 43) i_MO_slackOf_42 rfl rfl (xs_n rfl ?_)
          refine xs_getr (q := 46) i_MO_slackOf_43 rfl fd_MO_50 sg_50 rfl (xs_n rfl ?_)
          refine xs_iload_n (q := 47) i_MO_slackOf_46 rfl rfl (xs_n rfl ?_)
          refine xs_iaload (q := 48) i_MO_slackOf_47 rfl sg_64 rfl (by omega) (xs_n rfl ?_)
          refine xs_if_le (q := 60) (r := 51) i_MO_slackOf_48 rfl rfl (by unfold am_R; omega) (fun h48 => (xs_n rfl ?_)) (fun h48 => (xs_n rfl ?_))
          · refine xs_aload_n (q := 61) i_MO_slackOf_60 rfl rfl (xs_n rfl ?_)
            refine xs_iload_n (q := 62) i_MO_slackOf_61 rfl rfl (xs_n rfl ?_)
            refine xs_iload_n (q := 63) i_MO_slackOf_62 rfl rfl (xs_n rfl ?_)
            refine xs_cv (q := 66) (av := [_, _, _]) (rest := []) i_MO_slackOf_63 rfl (e_MO_slackOf_63) ⟨rfl, rfl⟩ rfl rfl ?_
            rw [am_V_iff]
            refine ⟨⟨_, sg_50⟩, ⟨rfl, by omega, by omega, by omega, by omega, h3⟩, ?_⟩
            dsimp only [g_MO_nextOf, g_id]
            refine xs_r1 rfl (xs_n rfl ?_)
            refine xs_aload_n (q := 67) i_MO_slackOf_66 rfl rfl (xs_n rfl ?_)
            refine xs_getr (q := 70) i_MO_slackOf_67 rfl fd_MO_19 sg_50 rfl (xs_n rfl ?_)
            refine xs_iload_n (q := 71) i_MO_slackOf_70 rfl rfl (xs_n rfl ?_)
            refine xs_iaload (q := 72) i_MO_slackOf_71 rfl sg_54 rfl (by omega) (xs_n rfl ?_)
            refine xs_iadd (q := 73) i_MO_slackOf_72 rfl (xs_n rfl ?_)
            refine xs_istore (q := 75) (ls2 := [_, _, _, _, _, _, _, _, _]) i_MO_slackOf_73 rfl rfl rfl (xs_n rfl ?_)
            refine xs_iload (q := 77) i_MO_slackOf_75 rfl rfl (xs_n rfl ?_)
            refine xs_ineg (q := 78) i_MO_slackOf_77 rfl (xs_n rfl ?_)
            refine xs_istore (q := 80) (ls2 := [_, _, _, _, _, _, _, _, _]) i_MO_slackOf_78 rfl rfl rfl (xs_n rfl ?_)
            refine xs_aload_n (q := 81) i_MO_slackOf_80 rfl rfl (xs_n rfl ?_)
            refine xs_geti (q := 84) i_MO_slackOf_81 rfl fd_MO_132 sg_50 rfl (xs_n rfl ?_)
            refine xs_istore (q := 86) (ls2 := [_, _, _, _, _, _, _, _, _]) i_MO_slackOf_84 rfl rfl rfl (xs_z rfl ?_)
            obtain rfl : t = k.toNat + 1 := by omega
            have hpb := mo_pw_b hM (n := k.toNat + 1) (by omega)
            refine ⟨(mo_en M z (M 55 k.toNat).toNat - M 50 19).toNat * 10 + 9, by omega, Or.inr (Or.inr (Or.inl ⟨M 50 19, mo_pw M (k.toNat + 1), -(mo_pw M (k.toNat + 1)), w8, rfl, ?_, rfl, rfl, ⟨by omega, by omega, by omega, rfl⟩, rfl⟩))⟩
            rw [show mo_en M z (M 55 k.toNat).toNat = _ from if_neg (show ¬ 0 < M 64 (M 55 k.toNat).toNat from Int.not_lt.mpr h48)]
            rfl
          · refine xs_aload_n (q := 52) i_MO_slackOf_51 rfl rfl (xs_n rfl ?_)
            refine xs_getr (q := 55) i_MO_slackOf_52 rfl fd_MO_53 sg_50 rfl (xs_n rfl ?_)
            refine xs_iload_n (q := 56) i_MO_slackOf_55 rfl rfl (xs_n rfl ?_)
            refine xs_iaload (q := 57) i_MO_slackOf_56 rfl sg_65 rfl (by omega) (xs_n rfl ?_)
            refine xs_goto (q := 73) i_MO_slackOf_57 rfl (xs_n rfl ?_)
            refine xs_istore (q := 75) (ls2 := [_, _, _, _, _, _, _, _, _]) i_MO_slackOf_73 rfl rfl rfl (xs_n rfl ?_)
            refine xs_iload (q := 77) i_MO_slackOf_75 rfl rfl (xs_n rfl ?_)
            refine xs_ineg (q := 78) i_MO_slackOf_77 rfl (xs_n rfl ?_)
            refine xs_istore (q := 80) (ls2 := [_, _, _, _, _, _, _, _, _]) i_MO_slackOf_78 rfl rfl rfl (xs_n rfl ?_)
            refine xs_aload_n (q := 81) i_MO_slackOf_80 rfl rfl (xs_n rfl ?_)
            refine xs_geti (q := 84) i_MO_slackOf_81 rfl fd_MO_132 sg_50 rfl (xs_n rfl ?_)
            refine xs_istore (q := 86) (ls2 := [_, _, _, _, _, _, _, _, _]) i_MO_slackOf_84 rfl rfl rfl (xs_z rfl ?_)
            obtain rfl : t = k.toNat + 1 := by omega
            have hpb := mo_pw_b hM (n := k.toNat + 1) (by omega)
            refine ⟨(mo_en M z (M 55 k.toNat).toNat - M 50 19).toNat * 10 + 9, by omega, Or.inr (Or.inr (Or.inl ⟨M 50 19, mo_pw M (k.toNat + 1), -(mo_pw M (k.toNat + 1)), w8, rfl, ?_, rfl, rfl, ⟨by omega, by omega, by omega, rfl⟩, rfl⟩))⟩
            rw [show mo_en M z (M 55 k.toNat).toNat = _ from if_pos (show 0 < M 64 (M 55 k.toNat).toNat from h48)]
        · have hq := (hM.1.2 t (by omega)).1
          refine xs_iload (q := 21) i_MO_slackOf_19 rfl rfl (xs_n rfl ?_)
          refine xs_aload_n (q := 22) i_MO_slackOf_21 rfl rfl (xs_n rfl ?_)
          refine xs_getr (q := 25) i_MO_slackOf_22 rfl fd_MO_50 sg_50 rfl (xs_n rfl ?_)
          refine xs_aload_n (q := 26) i_MO_slackOf_25 rfl rfl (xs_n rfl ?_)
          refine xs_getr (q := 29) i_MO_slackOf_26 rfl fd_MO_22 sg_50 rfl (xs_n rfl ?_)
          refine xs_iload (q := 31) i_MO_slackOf_29 rfl rfl (xs_n rfl ?_)
          refine xs_iaload (q := 32) i_MO_slackOf_31 rfl sg_55 rfl (by omega) (xs_n rfl ?_)
          refine xs_iaload (q := 33) i_MO_slackOf_32 rfl sg_64 rfl (by simp only [Int.toNat_natCast]; omega) (xs_n rfl ?_)
          refine xs_iadd (q := 34) i_MO_slackOf_33 rfl (xs_n rfl ?_)
          refine xs_istore (q := 36) (ls2 := [_, _, _, _, _, _, _, _, _]) i_MO_slackOf_34 rfl rfl rfl (xs_n rfl ?_)
          refine xs_iinc (q := 39) (ls2 := [_, _, _, _, _, _, _, _, _]) i_MO_slackOf_36 rfl rfl rfl (xs_n rfl ?_)
          refine xs_goto (q := 13) i_MO_slackOf_39 rfl (xs_z rfl ?_)
          exact ⟨100000000 - (t + 1), by omega, Or.inr (Or.inl ⟨t + 1, _, _, _, rfl, rfl, rfl, rfl, by omega, rfl⟩)⟩
      · skip
        refine xs_iload (q := 88) i_MO_slackOf_86 rfl rfl (xs_n rfl ?_)
        refine xs_iload (q := 90) i_MO_slackOf_88 rfl rfl (xs_n rfl ?_)
        refine xs_ic_ge (q := 192) (r := 93) i_MO_slackOf_90 rfl rfl ⟨by unfold am_R; omega, by unfold am_R; omega⟩ (fun h90 => (xs_n rfl ?_)) (fun h90 => (xs_n rfl ?_))
        · refine xs_iload (q := 194) i_MO_slackOf_192 rfl rfl (xs_n rfl ?_)
          refine xs_if_ge (q := 201) (r := 197) i_MO_slackOf_194 rfl rfl (by unfold am_R; omega) (fun h194 => (xs_n rfl ?_)) (fun h194 => (xs_n rfl ?_))
          · refine xs_iload (q := 203) i_MO_slackOf_201 rfl rfl (xs_n rfl ?_)
            refine xs_iret i_MO_slackOf_203 ?_
            rw [show (mo_en M z (M 55 k.toNat).toNat - a).toNat = 0 by omega, mo_sl] at hg
            subst hg
            exact xs_fin (by simp only [f_MO_slackOf, mo_so]; rw [if_neg (Int.not_lt.mpr h194)]) rfl trivial
          · refine xs_iconst (q := 198) i_MO_slackOf_197 rfl (xs_n rfl ?_)
            refine xs_goto (q := 203) i_MO_slackOf_198 rfl (xs_n rfl ?_)
            refine xs_iret i_MO_slackOf_203 ?_
            rw [show (mo_en M z (M 55 k.toNat).toNat - a).toNat = 0 by omega, mo_sl] at hg
            subst hg
            exact xs_fin (by simp only [f_MO_slackOf, mo_so]; rw [if_pos h194]) rfl trivial
        · refine xs_iconst (q := 94) i_MO_slackOf_93 rfl (xs_n rfl ?_)
          refine xs_istore (q := 96) (ls2 := [_, _, _, _, _, _, _, _, _]) i_MO_slackOf_94 rfl rfl rfl (xs_z rfl ?_)
          exact ⟨(mo_en M z (M 55 k.toNat).toNat - a).toNat * 10 + 8, by omega, Or.inr (Or.inr (Or.inr ⟨a, w, m, 0, rfl, by simp [mo_aw, ma_su], rfl, rfl, ⟨by omega, hw, hm, hg, by omega⟩, rfl⟩))⟩
      · skip
        have hab := mo_aw_b hM (z := z) (a := a) (n := t) (by omega)
        refine xs_iload (q := 98) i_MO_slackOf_96 rfl rfl (xs_n rfl ?_)
        refine xs_iload_n (q := 99) i_MO_slackOf_98 rfl rfl (xs_n rfl ?_)
        refine xs_ic_gt (q := 156) (r := 102) i_MO_slackOf_99 rfl rfl ⟨by unfold am_R; omega, by unfold am_R; omega⟩ (fun h99 => (xs_n rfl ?_)) (fun h99 => (xs_n rfl ?_))
        · refine xs_iload (q := 158) i_MO_slackOf_156 rfl rfl (xs_n rfl ?_)
          refine xs_iconst (q := 159) i_MO_slackOf_158 rfl (xs_n rfl ?_)
          refine xs_iadd (q := 160) i_MO_slackOf_159 rfl (xs_n rfl ?_)
          refine xs_aload_n (q := 161) i_MO_slackOf_160 rfl rfl (xs_n rfl ?_)
          refine xs_geti (q := 164) i_MO_slackOf_161 rfl fd_MO_132 sg_50 rfl (xs_n rfl ?_)
          refine xs_isub (q := 165) i_MO_slackOf_164 rfl (xs_n rfl ?_)
          refine xs_iload (q := 167) i_MO_slackOf_165 rfl rfl (xs_n rfl ?_)
          refine xs_isub (q := 168) i_MO_slackOf_167 rfl (xs_n rfl ?_)
          refine xs_istore (q := 170) (ls2 := [_, _, _, _, _, _, _, _, _]) i_MO_slackOf_168 rfl rfl rfl (xs_n rfl ?_)
          refine xs_iload (q := 172) i_MO_slackOf_170 rfl rfl (xs_n rfl ?_)
          refine xs_iload (q := 174) i_MO_slackOf_172 rfl rfl (xs_n rfl ?_)
          refine xs_ic_le (q := 182) (r := 177) i_MO_slackOf_174 rfl rfl ⟨by unfold am_R; omega, by unfold am_R; omega⟩ (fun h174 => (xs_n rfl ?_)) (fun h174 => (xs_n rfl ?_))
          · refine xs_iload (q := 184) i_MO_slackOf_182 rfl rfl (xs_n rfl ?_)
            refine xs_istore (q := 186) (ls2 := [_, _, _, _, _, _, _, _, _]) i_MO_slackOf_184 rfl rfl rfl (xs_n rfl ?_)
            refine xs_iinc (q := 189) (ls2 := [_, _, _, _, _, _, _, _, _]) i_MO_slackOf_186 rfl rfl rfl (xs_n rfl ?_)
            refine xs_goto (q := 86) i_MO_slackOf_189 rfl (xs_z rfl ?_)
            obtain rfl : t = k.toNat + 1 := by omega
            refine ⟨(mo_en M z (M 55 k.toNat).toNat - (a + 1)).toNat * 10 + 9, by omega, Or.inr (Or.inr (Or.inl ⟨a + 1, w + mo_aw M z a (k.toNat + 1), m, _, rfl, rfl, rfl, rfl, ⟨by omega, by omega, by omega, ?_⟩, rfl⟩))⟩
            rw [← hg, show (mo_en M z (M 55 k.toNat).toNat - a).toNat = (mo_en M z (M 55 k.toNat).toNat - (a + 1)).toNat + 1 by omega, mo_sl, if_neg (Int.not_lt.mpr h174)]
          · refine xs_iload (q := 179) i_MO_slackOf_177 rfl rfl (xs_n rfl ?_)
            refine xs_goto (q := 184) i_MO_slackOf_179 rfl (xs_n rfl ?_)
            refine xs_istore (q := 186) (ls2 := [_, _, _, _, _, _, _, _, _]) i_MO_slackOf_184 rfl rfl rfl (xs_n rfl ?_)
            refine xs_iinc (q := 189) (ls2 := [_, _, _, _, _, _, _, _, _]) i_MO_slackOf_186 rfl rfl rfl (xs_n rfl ?_)
            refine xs_goto (q := 86) i_MO_slackOf_189 rfl (xs_z rfl ?_)
            obtain rfl : t = k.toNat + 1 := by omega
            refine ⟨(mo_en M z (M 55 k.toNat).toNat - (a + 1)).toNat * 10 + 9, by omega, Or.inr (Or.inr (Or.inl ⟨a + 1, w + mo_aw M z a (k.toNat + 1), _, _, rfl, rfl, rfl, rfl, ⟨by omega, by omega, by omega, ?_⟩, rfl⟩))⟩
            rw [← hg, show (mo_en M z (M 55 k.toNat).toNat - a).toNat = (mo_en M z (M 55 k.toNat).toNat - (a + 1)).toNat + 1 by omega, mo_sl, if_pos h174]
        · have hq := (hM.1.2 t (by omega)).1
          have hq2 := hM.1.2 (M 55 t).toNat (by omega)
          have hq3 := hM.2.2 (M 55 t).toNat (by omega)
          refine xs_aload_n (q := 103) i_MO_slackOf_102 rfl rfl (xs_n rfl ?_)
          refine xs_aload_n (q := 104) i_MO_slackOf_103 rfl rfl (xs_n rfl ?_)
          refine xs_getr (q := 107) i_MO_slackOf_104 rfl fd_MO_22 sg_50 rfl (xs_n rfl ?_)
          refine xs_iload (q := 109) i_MO_slackOf_107 rfl rfl (xs_n rfl ?_)
          refine xs_iaload (q := 110) i_MO_slackOf_109 rfl sg_55 rfl (by omega) (xs_n rfl ?_)
          refine xs_iload (q := 112) i_MO_slackOf_110 rfl rfl (xs_n rfl ?_)
          refine xs_cv (q := 115) (av := [_, _, _]) (rest := []) i_MO_slackOf_112 rfl (e_MO_slackOf_112) ⟨rfl, rfl⟩ rfl rfl ?_
          rw [am_V_iff]
          refine ⟨⟨_, sg_50⟩, ⟨rfl, by simp only [Int.toNat_natCast]; omega, by omega, by simp only [Int.toNat_natCast]; omega, by simp only [Int.toNat_natCast]; omega⟩, ?_⟩
          dsimp only [g_MO_begins, g_id]
          refine xs_r1 rfl (xs_n rfl ?_)
          refine xs_if_eq (q := 150) (r := 118) i_MO_slackOf_115 rfl rfl am_ite (fun h115 => (xs_n rfl ?_)) (fun h115 => (xs_n rfl ?_))
          · refine xs_iinc (q := 153) (ls2 := [_, _, _, _, _, _, _, _, _]) i_MO_slackOf_150 rfl rfl rfl (xs_n rfl ?_)
            refine xs_goto (q := 96) i_MO_slackOf_153 rfl (xs_z rfl ?_)
            refine ⟨(mo_en M z (M 55 k.toNat).toNat - a).toNat * 10 + 8 - (t + 1), by omega, Or.inr (Or.inr (Or.inr ⟨a, w, m, t + 1, rfl, ?_, rfl, rfl, ⟨by omega, hw, hm, hg, by omega⟩, rfl⟩))⟩
            rw [show mo_aw M z a (t + 1) = mo_aw M z a t + mo_aj M z a (M 55 t).toNat from rfl]
            unfold mo_aj; rw [if_neg (fun q => am_ite0 h115 q.1)]; simp
          · refine xs_iload (q := 120) i_MO_slackOf_118 rfl rfl (xs_n rfl ?_)
            refine xs_aload_n (q := 121) i_MO_slackOf_120 rfl rfl (xs_n rfl ?_)
            refine xs_geti (q := 124) i_MO_slackOf_121 rfl fd_MO_132 sg_50 rfl (xs_n rfl ?_)
            refine xs_ic_gt (q := 131) (r := 127) i_MO_slackOf_124 rfl rfl ⟨by unfold am_R; omega, by unfold am_R; omega⟩ (fun h124 => (xs_n rfl ?_)) (fun h124 => (xs_n rfl ?_))
            · refine xs_iload (q := 133) i_MO_slackOf_131 rfl rfl (xs_n rfl ?_)
              refine xs_aload_n (q := 134) i_MO_slackOf_133 rfl rfl (xs_n rfl ?_)
              refine xs_aload_n (q := 135) i_MO_slackOf_134 rfl rfl (xs_n rfl ?_)
              refine xs_getr (q := 138) i_MO_slackOf_135 rfl fd_MO_22 sg_50 rfl (xs_n rfl ?_)
              refine xs_iload (q := 140) i_MO_slackOf_138 rfl rfl (xs_n rfl ?_)
              refine xs_iaload (q := 141) i_MO_slackOf_140 rfl sg_55 rfl (by omega) (xs_n rfl ?_)
              refine xs_iload (q := 143) i_MO_slackOf_141 rfl rfl (xs_n rfl ?_)
              refine xs_iload_n (q := 144) i_MO_slackOf_143 rfl rfl (xs_n rfl ?_)
              refine xs_cv (q := 147) (av := [_, _, _, _]) (rest := [_]) i_MO_slackOf_144 rfl (e_MO_slackOf_144) ⟨rfl, rfl⟩ rfl rfl ?_
              rw [am_V_iff]
              refine ⟨⟨_, sg_50⟩, ⟨⟨rfl, by simp only [Int.toNat_natCast]; omega, by omega, by simp only [Int.toNat_natCast]; omega, by simp only [Int.toNat_natCast]; omega, h3⟩, by unfold am_R; omega, by simp only [Int.toNat_natCast]; unfold am_R; omega⟩, ?_⟩
              dsimp only [g_MO_comes, g_id]
              refine xs_r1 rfl (xs_n rfl ?_)
              refine xs_iadd (q := 148) i_MO_slackOf_147 rfl (xs_n rfl ?_)
              refine xs_istore (q := 150) (ls2 := [_, _, _, _, _, _, _, _, _]) i_MO_slackOf_148 rfl rfl rfl (xs_n rfl ?_)
              refine xs_iinc (q := 153) (ls2 := [_, _, _, _, _, _, _, _, _]) i_MO_slackOf_150 rfl rfl rfl (xs_n rfl ?_)
              refine xs_goto (q := 96) i_MO_slackOf_153 rfl (xs_z rfl ?_)
              refine ⟨(mo_en M z (M 55 k.toNat).toNat - a).toNat * 10 + 8 - (t + 1), by omega, Or.inr (Or.inr (Or.inr ⟨a, w, m, t + 1, rfl, ?_, rfl, rfl, ⟨by omega, hw, hm, hg, by omega⟩, rfl⟩))⟩
              rw [show mo_aw M z a (t + 1) = mo_aw M z a t + mo_aj M z a (M 55 t).toNat from rfl]
              have hb5 := am_ite1 h115
              simp only [Int.toNat_natCast] at hb5
              have hc9 : mo_aj M z a (M 55 t).toNat = mo_cm M z a (M 55 t).toNat := by unfold mo_aj; rw [if_pos ⟨hb5, Or.inl h124⟩]
              rw [hc9, ← Int.add_assoc]
              simp only [Int.toNat_natCast]
              rfl
            · refine xs_iload_n (q := 128) i_MO_slackOf_127 rfl rfl (xs_n rfl ?_)
              refine xs_if_ne (q := 150) (r := 131) i_MO_slackOf_128 rfl rfl (by unfold am_R; omega) (fun h128 => (xs_n rfl ?_)) (fun h128 => (xs_n rfl ?_))
              · refine xs_iinc (q := 153) (ls2 := [_, _, _, _, _, _, _, _, _]) i_MO_slackOf_150 rfl rfl rfl (xs_n rfl ?_)
                refine xs_goto (q := 96) i_MO_slackOf_153 rfl (xs_z rfl ?_)
                refine ⟨(mo_en M z (M 55 k.toNat).toNat - a).toNat * 10 + 8 - (t + 1), by omega, Or.inr (Or.inr (Or.inr ⟨a, w, m, t + 1, rfl, ?_, rfl, rfl, ⟨by omega, hw, hm, hg, by omega⟩, rfl⟩))⟩
                rw [show mo_aw M z a (t + 1) = mo_aw M z a t + mo_aj M z a (M 55 t).toNat from rfl]
                unfold mo_aj; rw [if_neg (fun q => by have hz0 : z ≠ 0 := h128; have h124b : a ≤ M 50 19 := h124; omega)]; simp
              · refine xs_iload (q := 133) i_MO_slackOf_131 rfl rfl (xs_n rfl ?_)
                refine xs_aload_n (q := 134) i_MO_slackOf_133 rfl rfl (xs_n rfl ?_)
                refine xs_aload_n (q := 135) i_MO_slackOf_134 rfl rfl (xs_n rfl ?_)
                refine xs_getr (q := 138) i_MO_slackOf_135 rfl fd_MO_22 sg_50 rfl (xs_n rfl ?_)
                refine xs_iload (q := 140) i_MO_slackOf_138 rfl rfl (xs_n rfl ?_)
                refine xs_iaload (q := 141) i_MO_slackOf_140 rfl sg_55 rfl (by omega) (xs_n rfl ?_)
                refine xs_iload (q := 143) i_MO_slackOf_141 rfl rfl (xs_n rfl ?_)
                refine xs_iload_n (q := 144) i_MO_slackOf_143 rfl rfl (xs_n rfl ?_)
                refine xs_cv (q := 147) (av := [_, _, _, _]) (rest := [_]) i_MO_slackOf_144 rfl (e_MO_slackOf_144) ⟨rfl, rfl⟩ rfl rfl ?_
                rw [am_V_iff]
                refine ⟨⟨_, sg_50⟩, ⟨⟨rfl, by simp only [Int.toNat_natCast]; omega, by omega, by simp only [Int.toNat_natCast]; omega, by simp only [Int.toNat_natCast]; omega, h3⟩, by unfold am_R; omega, by simp only [Int.toNat_natCast]; unfold am_R; omega⟩, ?_⟩
                dsimp only [g_MO_comes, g_id]
                refine xs_r1 rfl (xs_n rfl ?_)
                refine xs_iadd (q := 148) i_MO_slackOf_147 rfl (xs_n rfl ?_)
                refine xs_istore (q := 150) (ls2 := [_, _, _, _, _, _, _, _, _]) i_MO_slackOf_148 rfl rfl rfl (xs_n rfl ?_)
                refine xs_iinc (q := 153) (ls2 := [_, _, _, _, _, _, _, _, _]) i_MO_slackOf_150 rfl rfl rfl (xs_n rfl ?_)
                refine xs_goto (q := 96) i_MO_slackOf_153 rfl (xs_z rfl ?_)
                refine ⟨(mo_en M z (M 55 k.toNat).toNat - a).toNat * 10 + 8 - (t + 1), by omega, Or.inr (Or.inr (Or.inr ⟨a, w, m, t + 1, rfl, ?_, rfl, rfl, ⟨by omega, hw, hm, hg, by omega⟩, rfl⟩))⟩
                rw [show mo_aw M z a (t + 1) = mo_aw M z a t + mo_aj M z a (M 55 t).toNat from rfl]
                have hb5 := am_ite1 h115
                simp only [Int.toNat_natCast] at hb5
                have hc9 : mo_aj M z a (M 55 t).toNat = mo_cm M z a (M 55 t).toNat := by unfold mo_aj; rw [if_pos ⟨hb5, Or.inr h128⟩]
                rw [hc9, ← Int.add_assoc]
                simp only [Int.toNat_natCast]
                rfl
    · exact h.elim
def mo_sn (M : am_M) (z : Int) : Nat → Int
  | 0 => 1000
  | n + 1 => if mo_so M z n < mo_sn M z n then mo_so M z n else mo_sn M z n
theorem mo_sl_b {M : am_M} (h : mo_in M) {z : Int} {n : Nat} (hn : (n : Int) ≤ M 50 1) : ∀ (q : Nat) (a w m : Int), (0 ≤ w) → (m ≤ 1000000 ∧ -1000000000 ≤ m) → (M 50 19 ≤ a ∧ a + q ≤ 900000) → -1000000000 ≤ mo_sl M z n q a w m ∧ mo_sl M z n q a w m ≤ 1000000
  | 0, a, w, m, _, hm, _ => by simp only [mo_sl]; omega
  | q + 1, a, w, m, hw, hm, ha => by
    have hb := mo_aw_b h (z := z) (a := a) hn
    have h0 := h.2.1
    rw [mo_sl]
    by_cases c : m < a + 1 - M 50 19 - (w + mo_aw M z a n)
    · rw [if_pos c]
      exact mo_sl_b h hn q _ _ _ (by omega) (by omega) (by omega)
    · rw [if_neg c]
      exact mo_sl_b h hn q _ _ _ (by omega) (by omega) (by omega)
theorem mo_so_b {M : am_M} (h : mo_in M) {z : Int} (hz : z = 0 ∨ z = 1) {k : Nat} (hk : (k : Int) < M 50 1) : 0 ≤ mo_so M z k ∧ mo_so M z k ≤ 1000000 := by
  have hq := (h.1.2 k hk).1
  have he := mo_en_b h hz (t := (M 55 k).toNat) (by omega)
  have hp := mo_pw_b h (n := k + 1) (by omega)
  have h0 := h.2.1
  have := mo_sl_b h (z := z) (n := k + 1) (by omega) (mo_en M z (M 55 k).toNat - M 50 19).toNat (M 50 19) (mo_pw M (k + 1)) (-(mo_pw M (k + 1))) (by omega) (by omega) (by omega)
  unfold mo_so
  by_cases c : mo_sr M z k < 0
  · rw [if_pos c]; omega
  · rw [if_neg c]
    have e : mo_sr M z k ≤ 1000000 := this.2
    omega
theorem mo_sn_b {M : am_M} (h : mo_in M) {z : Int} (hz : z = 0 ∨ z = 1) : ∀ n : Nat, (n : Int) ≤ M 50 1 → 0 ≤ mo_sn M z n ∧ mo_sn M z n ≤ 1000
  | 0, _ => by simp only [mo_sn]; omega
  | n + 1, hn => by
    have h1 := mo_sn_b h hz n (by omega)
    have h2 := mo_so_b h hz (k := n) (by omega)
    rw [mo_sn]
    by_cases c : mo_so M z n < mo_sn M z n
    · rw [if_pos c]; omega
    · rw [if_neg c]; omega
def P_MO_slackNow : am_P := fun av M => match av with
  | [.inr (.inl i), .inl z] => i = 50 ∧ mo_in M ∧ (z = 0 ∨ z = 1)
  | _ => False
def f_MO_slackNow : am_Fr := fun av M => match av with
  | [.inr (.inl i), .inl z] => some (.inl (mo_sn M z (M 50 1).toNat))
  | _ => none
abbrev g_MO_slackNow : am_Fm := g_id
def ct_MO_slackNow : am_T := fun pc => if pc = 17 then some (3, am_ctV vw_S 11 P_MO_slackOf (am_po f_MO_slackOf g_MO_slackOf)) else none
theorem e_MO_slackNow_17 : ct_MO_slackNow 17 = some (3, am_ctV vw_S 11 P_MO_slackOf (am_po f_MO_slackOf g_MO_slackOf)) := rfl
theorem ct_MO_slackNow_ok (l : Launch) : am_CC b_MO_slackNow 5 w_MO_slackNow y_MO_slackNow.cls l r_MO_slackNow ct_MO_slackNow := by
  intro p e s m args below meth c H0 A D G ad Q S hK hN hA pc q ct h
  have hts := S.2.2.2.2
  unfold ct_MO_slackNow at h
  split at h
  · rename_i hpc
    subst hpc; cases h
    exact am_callV S vw_N_ok hK hN hA ⟨Nat.zero_le _, Nat.zero_le _⟩ (m_MO_slackOf l) (s_MO_151 hts am_vW hN ⟨by decide, by decide⟩) (by rfl) d_MO_slackNow_17
  cases h
def inv_MO_slackNow : List am_V → am_M → Nat → am_K := fun av M μ pc ls st M2 => match av with
  | [.inr (.inl i), .inl z] => (pc = 0 ∧ ls = am_l0 [.inr (.inl i), .inl z] 5 ∧ st = [] ∧ M = M2 ∧ μ = 100) ∨ ∃ (t : Nat) (w : Option am_V), pc = 6 ∧ ls = [some (.inr (.inl i)), some (.inl z), some (.inl (mo_sn M z t)), some (.inl (t : Int)), w] ∧ st = [] ∧ M = M2 ∧ (t : Int) ≤ M 50 1 ∧ μ = (M 50 1 - t).toNat
  | _ => False
theorem m_MO_slackNow (l : Launch) : am_MF l y_MO_slackNow w_MO_slackNow r_MO_slackNow P_MO_slackNow f_MO_slackNow g_MO_slackNow := by
  refine am_mkL (fun pc => pc == 6) i_MO_slackNow_ok fd_MO_ok (ct_MO_slackNow_ok l) (plainFor_of_name (by decide +kernel)) (by decide) ?_ 40 inv_MO_slackNow ?_ ?_
  · intro av M h
    unfold P_MO_slackNow at h
    split at h
    · exact ⟨Nat.le_of_ble_eq_true rfl, rfl⟩
    · exact h.elim
  · intro av M h
    unfold P_MO_slackNow at h
    split at h
    · exact ⟨_, Or.inl ⟨rfl, rfl, rfl, rfl, rfl⟩⟩
    · exact h.elim
  · intro av M h μ pc ls st M2 hi
    unfold P_MO_slackNow at h
    split at h
    · rename_i i z
      obtain ⟨rfl, hM, h3⟩ := h
      have h0 := hM.1.1
      rcases hi with ⟨rfl, rfl, rfl, rfl, rfl⟩ | ⟨t, w, rfl, rfl, rfl, rfl, ht, rfl⟩
      · skip
        refine xs_sipush (q := 3) i_MO_slackNow_0 rfl (by decide) (xs_n rfl ?_)
        refine xs_istore_n (q := 4) (ls2 := [_, _, _, _, _]) i_MO_slackNow_3 rfl rfl rfl (xs_n rfl ?_)
        refine xs_iconst (q := 5) i_MO_slackNow_4 rfl (xs_n rfl ?_)
        refine xs_istore_n (q := 6) (ls2 := [_, _, _, _, _]) i_MO_slackNow_5 rfl rfl rfl (xs_z rfl ?_)
        exact ⟨(M 50 1).toNat, by omega, Or.inr ⟨0, _, rfl, rfl, rfl, rfl, by omega, by omega⟩⟩
      · skip
        refine xs_iload_n (q := 7) i_MO_slackNow_6 rfl rfl (xs_n rfl ?_)
        refine xs_aload_n (q := 8) i_MO_slackNow_7 rfl rfl (xs_n rfl ?_)
        refine xs_geti (q := 11) i_MO_slackNow_8 rfl fd_MO_96 sg_50 rfl (xs_n rfl ?_)
        refine xs_ic_ge (q := 41) (r := 14) i_MO_slackNow_11 rfl rfl ⟨by unfold am_R; omega, by unfold am_R; omega⟩ (fun h11 => (xs_n rfl ?_)) (fun h11 => (xs_n rfl ?_))
        · refine xs_iload_n (q := 42) i_MO_slackNow_41 rfl rfl (xs_n rfl ?_)
          refine xs_iret i_MO_slackNow_42 ?_
          obtain rfl : t = (M 50 1).toNat := by omega
          exact xs_fin rfl rfl trivial
        · have hb := mo_so_b hM h3 (k := t) h11
          have hb2 := mo_sn_b hM h3 t (by omega)
          refine xs_aload_n (q := 15) i_MO_slackNow_14 rfl rfl (xs_n rfl ?_)
          refine xs_iload_n (q := 16) i_MO_slackNow_15 rfl rfl (xs_n rfl ?_)
          refine xs_iload_n (q := 17) i_MO_slackNow_16 rfl rfl (xs_n rfl ?_)
          refine xs_cv (q := 20) (av := [_, _, _]) (rest := []) i_MO_slackNow_17 rfl (e_MO_slackNow_17) ⟨rfl, rfl⟩ rfl rfl ?_
          rw [am_V_iff]
          refine ⟨⟨_, sg_50⟩, ⟨rfl, hM, by omega, h3⟩, ?_⟩
          dsimp only [g_MO_slackOf, g_id]
          refine xs_r1 rfl (xs_n rfl ?_)
          refine xs_istore (q := 22) (ls2 := [_, _, _, _, _]) i_MO_slackNow_20 rfl rfl rfl (xs_n rfl ?_)
          refine xs_iload (q := 24) i_MO_slackNow_22 rfl rfl (xs_n rfl ?_)
          refine xs_iload_n (q := 25) i_MO_slackNow_24 rfl rfl (xs_n rfl ?_)
          refine xs_ic_ge (q := 33) (r := 28) i_MO_slackNow_25 rfl rfl ⟨by show am_R (mo_so M z (t : Int).toNat); simp only [Int.toNat_natCast]; unfold am_R; omega, by unfold am_R; omega⟩ (fun h25 => (xs_n rfl ?_)) (fun h25 => (xs_n rfl ?_))
          · refine xs_iload_n (q := 34) i_MO_slackNow_33 rfl rfl (xs_n rfl ?_)
            refine xs_istore_n (q := 35) (ls2 := [_, _, _, _, _]) i_MO_slackNow_34 rfl rfl rfl (xs_n rfl ?_)
            refine xs_iinc (q := 38) (ls2 := [_, _, _, _, _]) i_MO_slackNow_35 rfl rfl rfl (xs_n rfl ?_)
            refine xs_goto (q := 6) i_MO_slackNow_38 rfl (xs_z rfl ?_)
            refine ⟨(M 50 1 - (t + 1 : Nat)).toNat, by omega, Or.inr ⟨t + 1, some (.inl (mo_so M z (t : Int).toNat)), rfl, ?_, rfl, rfl, by omega, rfl⟩⟩
            simp only [Int.toNat_natCast] at h25 ⊢
            rw [mo_sn, if_neg (Int.not_lt.mpr h25)]
            try rfl
          · refine xs_iload (q := 30) i_MO_slackNow_28 rfl rfl (xs_n rfl ?_)
            refine xs_goto (q := 34) i_MO_slackNow_30 rfl (xs_n rfl ?_)
            refine xs_istore_n (q := 35) (ls2 := [_, _, _, _, _]) i_MO_slackNow_34 rfl rfl rfl (xs_n rfl ?_)
            refine xs_iinc (q := 38) (ls2 := [_, _, _, _, _]) i_MO_slackNow_35 rfl rfl rfl (xs_n rfl ?_)
            refine xs_goto (q := 6) i_MO_slackNow_38 rfl (xs_z rfl ?_)
            refine ⟨(M 50 1 - (t + 1 : Nat)).toNat, by omega, Or.inr ⟨t + 1, some (.inl (mo_so M z (t : Int).toNat)), rfl, ?_, rfl, rfl, by omega, rfl⟩⟩
            simp only [Int.toNat_natCast] at h25 ⊢
            rw [mo_sn, if_pos h25]
            try rfl
    · exact h.elim
def P_MO_goesAhead : am_P := fun av M => match av with
  | [.inr (.inl i)] => i = 50 ∧ mo_in M ∧ am_R (M 50 20) ∧ am_R (M 50 24)
  | _ => False
def f_MO_goesAhead : am_Fr := fun av M => match av with
  | [.inr (.inl i)] => some (.inl (if M 50 20 = 3 then (if 0 < mo_sn M 1 (M 50 1).toNat then 1 else 0) else (if M 50 20 ≠ 0 ∧ 0 < M 50 24 then 1 else 0)))
  | _ => none
abbrev g_MO_goesAhead : am_Fm := g_id
def ct_MO_goesAhead : am_T := fun pc => if pc = 10 then some (2, am_ctV vw_S 11 P_MO_slackNow (am_po f_MO_slackNow g_MO_slackNow)) else none
theorem e_MO_goesAhead_10 : ct_MO_goesAhead 10 = some (2, am_ctV vw_S 11 P_MO_slackNow (am_po f_MO_slackNow g_MO_slackNow)) := rfl
theorem ct_MO_goesAhead_ok (l : Launch) : am_CC b_MO_goesAhead 1 w_MO_goesAhead y_MO_goesAhead.cls l r_MO_goesAhead ct_MO_goesAhead := by
  intro p e s m args below meth c H0 A D G ad Q S hK hN hA pc q ct h
  have hts := S.2.2.2.2
  unfold ct_MO_goesAhead at h
  split at h
  · rename_i hpc
    subst hpc; cases h
    exact am_callV S vw_N_ok hK hN hA ⟨Nat.zero_le _, Nat.zero_le _⟩ (m_MO_slackNow l) (s_MO_162 hts am_vW hN ⟨by decide, by decide⟩) (by rfl) d_MO_goesAhead_10
  cases h
theorem m_MO_goesAhead (l : Launch) : am_MF l y_MO_goesAhead w_MO_goesAhead r_MO_goesAhead P_MO_goesAhead f_MO_goesAhead g_MO_goesAhead := by
  refine am_mk0 i_MO_goesAhead_ok fd_MO_ok (ct_MO_goesAhead_ok l) (plainFor_of_name (by decide +kernel)) (by decide) ?_ 30 ?_
  · intro av M h
    unfold P_MO_goesAhead at h
    split at h
    · exact ⟨Nat.le_of_ble_eq_true rfl, rfl⟩
    · exact h.elim
  · intro av M Z h
    unfold P_MO_goesAhead at h
    split at h
    · rename_i i
      obtain ⟨rfl, hM, h2, h3⟩ := h
      have h0 := hM.1.1
      have hb := mo_sn_b hM (z := 1) (Or.inr rfl) (M 50 1).toNat (by omega)
      refine xs_aload_n (q := 1) i_MO_goesAhead_0 rfl rfl (xs_n rfl ?_)
      refine xs_geti (q := 4) i_MO_goesAhead_1 rfl fd_MO_135 sg_50 rfl (xs_n rfl ?_)
      refine xs_iconst (q := 5) i_MO_goesAhead_4 rfl (xs_n rfl ?_)
      refine xs_ic_ne (q := 22) (r := 8) i_MO_goesAhead_5 rfl rfl ⟨h2, by unfold am_R; omega⟩ (fun h5 => (xs_n rfl ?_)) (fun h5 => (xs_n rfl ?_))
      · refine xs_aload_n (q := 23) i_MO_goesAhead_22 rfl rfl (xs_n rfl ?_)
        refine xs_geti (q := 26) i_MO_goesAhead_23 rfl fd_MO_135 sg_50 rfl (xs_n rfl ?_)
        refine xs_if_eq (q := 40) (r := 29) i_MO_goesAhead_26 rfl rfl h2 (fun h26 => (xs_n rfl ?_)) (fun h26 => (xs_n rfl ?_))
        · refine xs_iconst (q := 41) i_MO_goesAhead_40 rfl (xs_n rfl ?_)
          refine xs_iret i_MO_goesAhead_41 ?_
          exact xs_fin (by simp only [f_MO_goesAhead]; rw [if_neg h5, if_neg (fun q => q.1 h26)]) rfl (by first | exact Or.inl rfl | exact Or.inr rfl)
        · refine xs_aload_n (q := 30) i_MO_goesAhead_29 rfl rfl (xs_n rfl ?_)
          refine xs_geti (q := 33) i_MO_goesAhead_30 rfl fd_MO_138 sg_50 rfl (xs_n rfl ?_)
          refine xs_if_le (q := 40) (r := 36) i_MO_goesAhead_33 rfl rfl h3 (fun h33 => (xs_n rfl ?_)) (fun h33 => (xs_n rfl ?_))
          · refine xs_iconst (q := 41) i_MO_goesAhead_40 rfl (xs_n rfl ?_)
            refine xs_iret i_MO_goesAhead_41 ?_
            exact xs_fin (by simp only [f_MO_goesAhead]; rw [if_neg h5, if_neg (fun q => absurd q.2 (Int.not_lt.mpr h33))]) rfl (by first | exact Or.inl rfl | exact Or.inr rfl)
          · refine xs_iconst (q := 37) i_MO_goesAhead_36 rfl (xs_n rfl ?_)
            refine xs_goto (q := 41) i_MO_goesAhead_37 rfl (xs_n rfl ?_)
            refine xs_iret i_MO_goesAhead_41 ?_
            exact xs_fin (by simp only [f_MO_goesAhead]; rw [if_neg h5, if_pos ⟨h26, h33⟩]) rfl (by first | exact Or.inl rfl | exact Or.inr rfl)
      · refine xs_aload_n (q := 9) i_MO_goesAhead_8 rfl rfl (xs_n rfl ?_)
        refine xs_iconst (q := 10) i_MO_goesAhead_9 rfl (xs_n rfl ?_)
        refine xs_cv (q := 13) (av := [_, _]) (rest := []) i_MO_goesAhead_10 rfl (e_MO_goesAhead_10) ⟨rfl, rfl⟩ rfl rfl ?_
        rw [am_V_iff]
        refine ⟨⟨_, sg_50⟩, ⟨rfl, hM, Or.inr rfl⟩, ?_⟩
        dsimp only [g_MO_slackNow, g_id]
        refine xs_r1 rfl (xs_n rfl ?_)
        refine xs_if_le (q := 20) (r := 16) i_MO_goesAhead_13 rfl rfl (by show am_R (mo_sn M 1 (M 50 1).toNat); unfold am_R; omega) (fun h13 => (xs_n rfl ?_)) (fun h13 => (xs_n rfl ?_))
        · refine xs_iconst (q := 21) i_MO_goesAhead_20 rfl (xs_n rfl ?_)
          refine xs_iret i_MO_goesAhead_21 ?_
          exact xs_fin (by simp only [f_MO_goesAhead]; rw [if_pos h5, if_neg (show ¬ 0 < mo_sn M 1 (M 50 1).toNat from Int.not_lt.mpr h13)]) rfl (by first | exact Or.inl rfl | exact Or.inr rfl)
        · refine xs_iconst (q := 17) i_MO_goesAhead_16 rfl (xs_n rfl ?_)
          refine xs_goto (q := 21) i_MO_goesAhead_17 rfl (xs_n rfl ?_)
          refine xs_iret i_MO_goesAhead_21 ?_
          exact xs_fin (by simp only [f_MO_goesAhead]; rw [if_pos h5, if_pos (show 0 < mo_sn M 1 (M 50 1).toNat from h13)]) rfl (by first | exact Or.inl rfl | exact Or.inr rfl)
    · exact h.elim
