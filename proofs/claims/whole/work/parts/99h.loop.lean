/-! the law's loop (wip/whole/p99h.py) -/
section LB
variable {p : Program} {l : Launch} {e : Env} {s : State} {m : MethodId} {args : Array Value} {below : List Frame} {meth : Method} {c : Code} {A : Nat → Prop} {cells slots : Nat} {Q : State → Prop} {D : va_G} {G : Nat → ClassId} {ad : Nat → Nat} {L : Nat} {xs : Nat → Int} {Ts : List Jvm.Cond} {i : Int} {M : am_M}
theorem la_wp {I : Nat → Option (Instr × Nat)} {sp sq : Nat → Bool} {Ct : am_T} {Z : am_K} {pc : Nat} {ls : am_L} {st : List am_V} (F : la_F p s m args c A D G ad L xs Ts) (hI : ∀ pc i n, I pc = some (i, n) → decode code pc = .ok (i, n))
    (hCt : ∀ pc q ct, Ct pc = some (q, ct) → am_C p l e room_1 s m args below meth c s.heap A cells slots Q D vw_cl G ad vw_S 7 pc q ct)
    (hZ : ∀ pc ls st M', Z pc ls st M' → am_A p l e room_1 s m args below meth c s.heap A cells slots Q D vw_cl G ad vw_S 7 pc ls st M')
    (hV : am_wp vw_S (some (L, xs)) fd_none Ct (fun _ _ => False) I sp (am_zq vw_S (some (L, xs)) fd_none Ct (fun _ _ => False) I sp sq Z 60 6) 60 pc ls st M) :
    am_A p l e room_1 s m args below meth c s.heap A cells slots Q D vw_cl G ad vw_S 7 pc ls st M := by
  obtain ⟨F1, F2, F3, F4, F5, F6, F7, F8⟩ := F
  have hF0 : ∀ idx ci j q, fd_none idx = some (ci, j, q) → am_FOK vw_cl "ServerDeskLaw" args s Ts idx ci j q := fun idx ci j q h => by cases h
  have hX : ∀ L' xs', some (L, xs) = some (L', xs') → L' < 2147483648 ∧ ∃ ys : Nat → Int32, va_X (ad am_scr) L' ys s s.heap ∧ ad am_scr < s.heap.size ∧ ¬ A (ad am_scr) ∧ ∀ j, xs' j = (ys j).toInt := fun L' xs' h => by cases h; exact F8
  exact am_wp_ok (p := p) (l := l) (e := e) (R := room_1) (m := m) (below := below) (meth := meth) (c := c) (H0 := s.heap) (A := A) (cells := cells) (slots := slots) (Q := Q) (ad := ad) (Sc := some (L, xs)) (Ct := Ct) (Zr := fun _ _ => False) (sp := sp) (nL := 7) F1.1 F1.2.1 F1.2.2.2.1 F1.2.2.2.2 F3 vw_Sz hF0 hCt (fun r M H locs lsA pc h => h.elim) hX hI (am_zq_ok F1.1 F1.2.1 F1.2.2.2.1 F1.2.2.2.2 F3 vw_Sz hF0 hCt (fun r M H locs lsA pc h => h.elim) hX hI hZ 6) 60 pc ls st M hV
def lk_reset : Prop := ∀ M : am_M, lw_I M M → P_MO_reset [.inr (.inl 50)] (g_SD_reset [.inr (.inl 0)] M) ∧ lw_I (g_MO_reset [.inr (.inl 50)] (g_SD_reset [.inr (.inl 0)] M)) (g_MO_reset [.inr (.inl 50)] (g_SD_reset [.inr (.inl 0)] M))
def ct_LA13 : am_T := fun pc => if pc = 876 then some (1, am_ctV vw_S 0 P_SD_reset (am_po f_SD_reset g_SD_reset)) else if pc = 880 then some (1, am_ctV vw_S 11 P_MO_reset (am_po f_MO_reset g_MO_reset)) else none
theorem e_LA13_876 : ct_LA13 876 = some (1, am_ctV vw_S 0 P_SD_reset (am_po f_SD_reset g_SD_reset)) := rfl
theorem e_LA13_880 : ct_LA13 880 = some (1, am_ctV vw_S 11 P_MO_reset (am_po f_MO_reset g_MO_reset)) := rfl
theorem ctk_LA13 (F : la_F p s m args c A D G ad L xs Ts) (h1 : cells ≤ room_1.cells ∧ slots ≤ room_1.slots) : ∀ pc q ct, ct_LA13 pc = some (q, ct) → am_C p l e room_1 s m args below meth c s.heap A cells slots Q D vw_cl G ad vw_S 7 pc q ct := by
  intro pc q ct h
  unfold ct_LA13 at h
  split at h
  · rename_i hpc
    subst hpc; cases h
    exact am_callV F.1 vw_N_ok F.2.2.1 F.2.2.2.1 F.2.2.2.2.1 h1 (m_SD_reset l) (s_LW_119 F.1.2.2.2.2 F.2.1 F.2.2.2.1 ⟨by decide, by decide⟩) (by rfl) d_LA13_876
  split at h
  · rename_i hpc
    subst hpc; cases h
    exact am_callV F.1 vw_N_ok F.2.2.1 F.2.2.2.1 F.2.2.2.2.1 h1 (m_MO_reset l) (s_LW_122 F.1.2.2.2.2 F.2.1 F.2.2.2.1 ⟨by decide, by decide⟩) (by rfl) d_LA13_880
  cases h
theorem arm_reset (hlk : lk_reset) (F : la_F p s m args c A D G ad L xs Ts) (hM : lw_I M M) (hcR : cells ≤ room_1.cells ∧ slots ≤ room_1.slots) (hZ : ∀ pc ls st M', la_T i pc ls st M' → am_A p l e room_1 s m args below meth c s.heap A cells slots Q D vw_cl G ad vw_S 7 pc ls st M') : am_A p l e room_1 s m args below meth c s.heap A cells slots Q D vw_cl G ad vw_S 7 875 [some (.inr (.inl am_scr)), some (.inr (.inl 0)), some (.inr (.inl 50)), some (.inr (.inl 78)), some (.inl i), none, none] [] M := by
  have hk := hlk M hM
  refine la_wp (sp := fun pc => pc == 886) (sq := fun pc => false) (Z := la_T i) F i_LA13_ok (ctk_LA13 F hcR) hZ ?_
  refine xs_aload_n (q := 876) i_LA13_875 rfl rfl (xs_n rfl ?_)
  refine xs_cv (q := 879) (av := [_]) (rest := []) i_LA13_876 rfl (e_LA13_876) ⟨rfl, rfl⟩ rfl rfl ?_
  rw [am_V_iff]
  refine ⟨⟨_, sg_0⟩, ⟨rfl, ⟨_, hM⟩⟩, ?_⟩
  refine xs_r0 rfl (xs_n rfl ?_)
  refine xs_aload_n (q := 880) i_LA13_879 rfl rfl (xs_n rfl ?_)
  refine xs_cv (q := 883) (av := [_]) (rest := []) i_LA13_880 rfl (e_LA13_880) ⟨rfl, rfl⟩ rfl rfl ?_
  rw [am_V_iff]
  refine ⟨⟨_, sg_50⟩, hk.1, ?_⟩
  refine xs_r0 rfl (xs_n rfl ?_)
  refine xs_goto (q := 886) i_LA13_883 rfl (xs_z rfl ?_)
  refine xq_z rfl ?_
  exact ⟨rfl, rfl, ⟨_, _, rfl⟩, hk.2⟩
theorem la_tail (F : la_F p s m args c A D G ad L xs Ts) (K : ∀ M', lw_I M' M' → am_A p l e room_1 s m args below meth c s.heap A cells slots Q D vw_cl G ad vw_S 7 23 [some (.inr (.inl am_scr)), some (.inr (.inl 0)), some (.inr (.inl 50)), some (.inr (.inl 78)), some (.inl (i + 5)), none, none] [] M') : ∀ pc ls st M', la_T i pc ls st M' → am_A p l e room_1 s m args below meth c s.heap A cells slots Q D vw_cl G ad vw_S 7 pc ls st M' := by
  rintro pc ls st M' ⟨rfl, rfl, ⟨v5, v6, rfl⟩, hM⟩
  refine la_wp (sp := fun pc => pc == 23) (sq := fun pc => false) (Ct := am_none) (Z := fun pc ls st M2 => pc = 23 ∧ st = [] ∧ M2 = M' ∧ ls = [some (.inr (.inl am_scr)), some (.inr (.inl 0)), some (.inr (.inl 50)), some (.inr (.inl 78)), some (.inl (i + 5)), v5, v6]) F i_LAT_ok (fun pc q ct h => by cases h) ?_ ?_
  · rintro pc ls st M2 ⟨rfl, rfl, rfl, rfl⟩
    refine am_less (ls' := [some (.inr (.inl am_scr)), some (.inr (.inl 0)), some (.inr (.inl 50)), some (.inr (.inl 78)), some (.inl (i + 5)), none, none]) rfl ?_ (K M2 hM)
    intro j v hj
    match j, hj with
    | 0, hj => exact hj
    | 1, hj => exact hj
    | 2, hj => exact hj
    | 3, hj => exact hj
    | 4, hj => exact hj
    | 5, hj => cases hj
    | 6, hj => cases hj
    | n + 7, hj => cases hj
  · refine xs_iinc (q := 889) (ls2 := [_, _, _, _, _, _, _]) i_LAT_886 rfl rfl rfl (xs_n rfl ?_)
    refine xs_goto (q := 23) i_LAT_889 rfl (xs_z rfl ?_)
    refine xq_z rfl ?_
    exact ⟨rfl, rfl, rfl, rfl⟩
def lk_all : Prop := lk_reset ∧ lk_task ∧ lk_rule ∧ lk_start ∧ lk_tick ∧ lk_job ∧ lk_hard ∧ lk_early ∧ lk_ended ∧ lk_slack ∧ lk_trace ∧ lk_served ∧ lk_replay ∧ lk_state
def la_H (i : Int) (L : Nat) (M : am_M) : am_K := fun pc ls st M2 => (ls = [some (.inr (.inl am_scr)), some (.inr (.inl 0)), some (.inr (.inl 50)), some (.inr (.inl 78)), some (.inl i), none, none] ∧ st = [] ∧ M2 = M) ∧ (pc = 892 ∨ (i + 5 ≤ L ∧ (pc = 108 ∨ pc = 200 ∨ pc = 287 ∨ pc = 311 ∨ pc = 367 ∨ pc = 423 ∨ pc = 491 ∨ pc = 539 ∨ pc = 595 ∨ pc = 639 ∨ pc = 695 ∨ pc = 763 ∨ pc = 819 ∨ pc = 875 ∨ pc = 886)))
theorem la_head (F : la_F p s m args c A D G ad L xs Ts) (hi : 0 ≤ i ∧ i ≤ L) (hZ : ∀ pc ls st M', la_H i L M pc ls st M' → am_A p l e room_1 s m args below meth c s.heap A cells slots Q D vw_cl G ad vw_S 7 pc ls st M') : am_A p l e room_1 s m args below meth c s.heap A cells slots Q D vw_cl G ad vw_S 7 23 [some (.inr (.inl am_scr)), some (.inr (.inl 0)), some (.inr (.inl 50)), some (.inr (.inl 78)), some (.inl i), none, none] [] M := by
  have hL : L < 2147483648 := F.2.2.2.2.2.2.2.1
  refine la_wp (sp := fun pc => pc == 892 || pc == 108 || pc == 200 || pc == 287 || pc == 311 || pc == 367 || pc == 423 || pc == 491 || pc == 539 || pc == 595 || pc == 639 || pc == 695 || pc == 763 || pc == 819 || pc == 875 || pc == 886 || pc == 38) (sq := fun pc => pc == 38) (Ct := am_none) (Z := la_H i L M) F i_LAH_ok (fun pc q ct h => by cases h) hZ ?_
  refine xs_iload (q := 25) i_LAH_23 rfl rfl (xs_n rfl ?_)
  refine xs_aload_n (q := 26) i_LAH_25 rfl rfl (xs_n rfl ?_)
  refine xs_slen (q := 27) i_LAH_26 rfl (xs_n rfl ?_)
  refine xs_iconst (q := 28) i_LAH_27 rfl (xs_n rfl ?_)
  refine xs_isub (q := 29) i_LAH_28 rfl (xs_n rfl ?_)
  refine xs_ic_gt (q := 892) (r := 32) i_LAH_29 rfl rfl ⟨by unfold am_R; omega, by unfold am_R; omega⟩ (fun h29 => (xs_z rfl ?_)) (fun h29 => (xs_n rfl ?_))
  · refine xq_z rfl ?_
    exact ⟨⟨rfl, rfl, rfl⟩, Or.inl rfl⟩
  · refine xs_aload_n (q := 33) i_LAH_32 rfl rfl (xs_n rfl ?_)
    refine xs_iload (q := 35) i_LAH_33 rfl rfl (xs_n rfl ?_)
    refine xs_scr (q := 36) i_LAH_35 rfl (by omega) (xs_n rfl ?_)
    refine xs_bipush (q := 38) i_LAH_36 rfl (by decide) (xs_z rfl ?_)
    refine xq_iand rfl i_LAH_38 (fun z38 hz38 hy38 => (xs_n rfl ?_))
    refine xs_table i_LAH_39 (by decide) (by decide) (by decide) (⟨by omega, by omega⟩) (fun h39d => ?_) ⟨fun h39_0 => ?_, ⟨fun h39_1 => ?_, ⟨fun h39_2 => ?_, ⟨fun h39_3 => ?_, ⟨fun h39_4 => ?_, ⟨fun h39_5 => ?_, ⟨fun h39_6 => ?_, ⟨fun h39_7 => ?_, ⟨fun h39_8 => ?_, ⟨fun h39_9 => ?_, ⟨fun h39_10 => ?_, ⟨fun h39_11 => ?_, ⟨fun h39_12 => ?_, ⟨fun h39_13 => ?_, trivial⟩⟩⟩⟩⟩⟩⟩⟩⟩⟩⟩⟩⟩⟩
    · show am_nx _ _ _ _ _ _ _ _ _ _ _ _ _
      refine xs_q (q := 886) rfl (xs_z rfl ?_)
      refine xq_z rfl ?_
      exact ⟨⟨rfl, rfl, rfl⟩, Or.inr ⟨by omega, by decide⟩⟩
    · show am_nx _ _ _ _ _ _ _ _ _ _ _ _ _
      refine xs_q (q := 108) rfl (xs_z rfl ?_)
      refine xq_z rfl ?_
      exact ⟨⟨rfl, rfl, rfl⟩, Or.inr ⟨by omega, by decide⟩⟩
    · show am_nx _ _ _ _ _ _ _ _ _ _ _ _ _
      refine xs_q (q := 200) rfl (xs_z rfl ?_)
      refine xq_z rfl ?_
      exact ⟨⟨rfl, rfl, rfl⟩, Or.inr ⟨by omega, by decide⟩⟩
    · show am_nx _ _ _ _ _ _ _ _ _ _ _ _ _
      refine xs_q (q := 287) rfl (xs_z rfl ?_)
      refine xq_z rfl ?_
      exact ⟨⟨rfl, rfl, rfl⟩, Or.inr ⟨by omega, by decide⟩⟩
    · show am_nx _ _ _ _ _ _ _ _ _ _ _ _ _
      refine xs_q (q := 311) rfl (xs_z rfl ?_)
      refine xq_z rfl ?_
      exact ⟨⟨rfl, rfl, rfl⟩, Or.inr ⟨by omega, by decide⟩⟩
    · show am_nx _ _ _ _ _ _ _ _ _ _ _ _ _
      refine xs_q (q := 367) rfl (xs_z rfl ?_)
      refine xq_z rfl ?_
      exact ⟨⟨rfl, rfl, rfl⟩, Or.inr ⟨by omega, by decide⟩⟩
    · show am_nx _ _ _ _ _ _ _ _ _ _ _ _ _
      refine xs_q (q := 423) rfl (xs_z rfl ?_)
      refine xq_z rfl ?_
      exact ⟨⟨rfl, rfl, rfl⟩, Or.inr ⟨by omega, by decide⟩⟩
    · show am_nx _ _ _ _ _ _ _ _ _ _ _ _ _
      refine xs_q (q := 491) rfl (xs_z rfl ?_)
      refine xq_z rfl ?_
      exact ⟨⟨rfl, rfl, rfl⟩, Or.inr ⟨by omega, by decide⟩⟩
    · show am_nx _ _ _ _ _ _ _ _ _ _ _ _ _
      refine xs_q (q := 539) rfl (xs_z rfl ?_)
      refine xq_z rfl ?_
      exact ⟨⟨rfl, rfl, rfl⟩, Or.inr ⟨by omega, by decide⟩⟩
    · show am_nx _ _ _ _ _ _ _ _ _ _ _ _ _
      refine xs_q (q := 595) rfl (xs_z rfl ?_)
      refine xq_z rfl ?_
      exact ⟨⟨rfl, rfl, rfl⟩, Or.inr ⟨by omega, by decide⟩⟩
    · show am_nx _ _ _ _ _ _ _ _ _ _ _ _ _
      refine xs_q (q := 639) rfl (xs_z rfl ?_)
      refine xq_z rfl ?_
      exact ⟨⟨rfl, rfl, rfl⟩, Or.inr ⟨by omega, by decide⟩⟩
    · show am_nx _ _ _ _ _ _ _ _ _ _ _ _ _
      refine xs_q (q := 695) rfl (xs_z rfl ?_)
      refine xq_z rfl ?_
      exact ⟨⟨rfl, rfl, rfl⟩, Or.inr ⟨by omega, by decide⟩⟩
    · show am_nx _ _ _ _ _ _ _ _ _ _ _ _ _
      refine xs_q (q := 763) rfl (xs_z rfl ?_)
      refine xq_z rfl ?_
      exact ⟨⟨rfl, rfl, rfl⟩, Or.inr ⟨by omega, by decide⟩⟩
    · show am_nx _ _ _ _ _ _ _ _ _ _ _ _ _
      refine xs_q (q := 819) rfl (xs_z rfl ?_)
      refine xq_z rfl ?_
      exact ⟨⟨rfl, rfl, rfl⟩, Or.inr ⟨by omega, by decide⟩⟩
    · show am_nx _ _ _ _ _ _ _ _ _ _ _ _ _
      refine xs_q (q := 875) rfl (xs_z rfl ?_)
      refine xq_z rfl ?_
      exact ⟨⟨rfl, rfl, rfl⟩, Or.inr ⟨by omega, by decide⟩⟩
theorem la_loop (hfl : l.flags = flags0) (hlk : lk_all) (F : la_F p s m args c A D G ad L xs Ts) (hL : L ≤ 2560) (hE : ∀ (k : Nat) (M : am_M), k ≤ 512 → am_A p l e room_1 s m args below meth c s.heap A (79 + k) (12184 + 6 * k) Q D vw_cl G ad vw_S 7 892 [some (.inr (.inl am_scr)), some (.inr (.inl 0)), some (.inr (.inl 50)), some (.inr (.inl 78)), some (.inl (((5 * k : Nat) : Int))), none, none] [] M) : ∀ (n k : Nat) (M : am_M), 512 - k ≤ n → ((5 * k : Nat) : Int) ≤ L → lw_I M M → am_A p l e room_1 s m args below meth c s.heap A (79 + k) (12184 + 6 * k) Q D vw_cl G ad vw_S 7 23 [some (.inr (.inl am_scr)), some (.inr (.inl 0)), some (.inr (.inl 50)), some (.inr (.inl 78)), some (.inl (((5 * k : Nat) : Int))), none, none] [] M := by
  have hr : room_1.cells = 1125 ∧ room_1.slots = 20508 := ⟨rfl, rfl⟩
  intro n
  induction n with
  | zero =>
    intro k M hn hk hM
    refine la_head F (by omega) ?_
    rintro pc ls st M' ⟨⟨rfl, rfl, rfl⟩, rfl | ⟨h, -⟩⟩
    · exact hE k M' (by omega)
    · omega
  | succ n ih =>
    intro k M hn hk hM
    refine la_head F (by omega) ?_
    rintro pc ls st M' ⟨⟨rfl, rfl, rfl⟩, rfl | ⟨h, h2⟩⟩
    · exact hE k M' (by omega)
    · have hcR : 79 + k + 1 ≤ room_1.cells ∧ 12184 + 6 * k + 6 ≤ room_1.slots := by rw [hr.1, hr.2]; omega
      have hcR0 : 79 + k ≤ room_1.cells ∧ 12184 + 6 * k ≤ room_1.slots := by omega
      have K : ∀ M2, lw_I M2 M2 → am_A p l e room_1 s m args below meth c s.heap A (79 + k + 1) (12184 + 6 * k + 6) Q D vw_cl G ad vw_S 7 23 [some (.inr (.inl am_scr)), some (.inr (.inl 0)), some (.inr (.inl 50)), some (.inr (.inl 78)), some (.inl (((5 * k : Nat) : Int) + 5)), none, none] [] M2 := fun M2 h2 => by
        have h3 := ih (k + 1) M2 (by omega) (by omega) h2
        rw [show ((5 * (k + 1) : Nat) : Int) = ((5 * k : Nat) : Int) + 5 by omega, show 12184 + 6 * (k + 1) = 12184 + 6 * k + 6 by omega, show 79 + (k + 1) = 79 + k + 1 by omega] at h3
        exact h3
      have K0 : ∀ M2, lw_I M2 M2 → am_A p l e room_1 s m args below meth c s.heap A (79 + k) (12184 + 6 * k) Q D vw_cl G ad vw_S 7 23 [some (.inr (.inl am_scr)), some (.inr (.inl 0)), some (.inr (.inl 50)), some (.inr (.inl 78)), some (.inl (((5 * k : Nat) : Int) + 5)), none, none] [] M2 := fun M2 h2 => am_widen (by omega) (by omega) (K M2 h2)
      have hZ := la_tail (cells := 79 + k + 1) (slots := 12184 + 6 * k + 6) F K
      have hZ0 := la_tail (cells := 79 + k) (slots := 12184 + 6 * k) F K0
      obtain ⟨l0, l1, l2, l3, l4, l5, l6, l7, l8, l9, l10, l11, l12, l13⟩ := hlk
      rcases h2 with rfl | rfl | rfl | rfl | rfl | rfl | rfl | rfl | rfl | rfl | rfl | rfl | rfl | rfl | rfl
      · exact arm_task hfl l1 F ⟨by omega, h⟩ hM hcR hZ
      · exact arm_rule hfl l2 F ⟨by omega, h⟩ hM hcR hZ
      · exact arm_start hfl l3 F ⟨by omega, h⟩ hM hcR hZ
      · exact arm_tick hfl l4 F ⟨by omega, h⟩ hM hcR hZ
      · exact arm_job hfl l5 F ⟨by omega, h⟩ hM hcR hZ
      · exact arm_hard hfl l6 F ⟨by omega, h⟩ hM hcR hZ
      · exact arm_early hfl l7 F ⟨by omega, h⟩ hM hcR hZ
      · exact arm_ended hfl l8 F ⟨by omega, h⟩ hM hcR hZ
      · exact arm_slack hfl l9 F ⟨by omega, h⟩ hM hcR hZ
      · exact arm_trace hfl l10 F ⟨by omega, h⟩ hM hcR hZ
      · exact arm_served hfl l11 F ⟨by omega, h⟩ hM hcR hZ
      · exact arm_replay hfl l12 F ⟨by omega, h⟩ hM hcR hZ
      · exact arm_state hfl l13 F ⟨by omega, h⟩ hM hcR hZ
      · exact arm_reset l0 F hM hcR0 hZ0
      · exact hZ0 _ _ _ _ ⟨rfl, rfl, ⟨_, _, rfl⟩, hM⟩
end LB
