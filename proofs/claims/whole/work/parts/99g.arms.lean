/-! the law's arms (wip/whole/p99g.py) -/
def la_F (p : Program) (s : State) (m : MethodId) (args : Array Value) (c : Code) (A : Nat → Prop) (D : va_G) (G : Nat → ClassId) (ad : Nat → Nat) (L : Nat) (xs : Nat → Int) (Ts : List Jvm.Cond) : Prop :=
  CallFix p m c code 7 s args Ts "ServerDeskLaw" ∧ (∀ w ∈ vw_W, w ∈ Ts) ∧ va_K D vw_cl (am_ty G) s ∧ (∀ w ∈ vw_N, va_Nw w s) ∧ (∀ q, s.heap.size ≤ q → A q) ∧ hs_ok s ∧ (∀ H locs, va_S A s.heap H locs → ∀ (q : Addr) (cell : Cell), s.heap[q]? = some cell → cell.vm.isStatics = true → H[q]? = some cell) ∧
  (L < 2147483648 ∧ ∃ ys : Nat → Int32, va_X (ad am_scr) L ys s s.heap ∧ ad am_scr < s.heap.size ∧ ¬ A (ad am_scr) ∧ ∀ j, xs j = (ys j).toInt)
def la_T (i : Int) : am_K := fun pc ls st M => pc = 886 ∧ st = [] ∧ (∃ v5 v6, ls = [some (.inr (.inl am_scr)), some (.inr (.inl 0)), some (.inr (.inl 50)), some (.inr (.inl 78)), some (.inl i), v5, v6]) ∧ lw_I M M
theorem am_eqR {a b : Int} (h : a = am_wr b) : am_R a := by rw [h]; exact am_wr_R b
theorem am_eqR2 {a b : Int} (h : a = b) (h2 : am_R b) : am_R a := by rw [h]; exact h2
theorem am_cR (a b : Int) : am_R (if a = b then 0 else if b < a then 1 else -1) := by
  unfold am_R
  split
  · omega
  · split <;> omega
theorem la_01 {v : Int} (h : v = 0 ∨ v = 1) : am_R v := by unfold am_R; omega
theorem la_b0 {a v : Int} (h : a = am_wr v) (hv : v = 0) : a = (((0 : Fin 2).val : Nat) : Int) := by subst hv; exact h
theorem la_b1 {a v : Int} (h : a = am_wr v) (h1 : v = 0 ∨ v = 1) (hv : ¬ v = 0) : a = (((1 : Fin 2).val : Nat) : Int) := by
  obtain rfl : v = 1 := by omega
  exact h
section LA
variable {p : Program} {l : Launch} {e : Env} {s : State} {m : MethodId} {args : Array Value} {below : List Frame} {meth : Method} {c : Code} {A : Nat → Prop} {cells slots : Nat} {Q : State → Prop} {D : va_G} {G : Nat → ClassId} {ad : Nat → Nat} {L : Nat} {xs : Nat → Int} {Ts : List Jvm.Cond} {i : Int} {M : am_M}
theorem la_R (F : la_F p s m args c A D G ad L xs Ts) (j : Nat) : am_R (xs j) := by
  obtain ⟨ys, -, -, -, h⟩ := F.2.2.2.2.2.2.2.2
  rw [h j]
  exact ⟨by have := Int32.le_toInt (ys j); omega, by have := Int32.toInt_lt (ys j); omega⟩
theorem la_arm {I : Nat → Option (Instr × Nat)} {sq sq2 : Nat → Bool} {Ct : am_T} {y : MethodName} {ws : List Jvm.Cond} {rm : Room} {P : am_P} {f : am_Fr} {g : am_Fm} {bytes : ByteArray} {maxL n idx pcH pcA : Nat} {ret : Option FieldType} {hs : List (Nat × Nat × Nat × Nat)} {ls : am_L} {Z : am_K}
    (F : la_F p s m args c A D G ad L xs Ts) (hI : ∀ pc i n, I pc = some (i, n) → decode code pc = .ok (i, n)) (hM : am_MH l y ws rm P f g) (cw : hp_W room_1 s args "ServerDeskLaw" idx y bytes maxL ret hs ws rm 1 6 n) (hdg : decode code pcH = .ok (.invokestatic idx, 3)) (hcR : cells + 1 ≤ room_1.cells ∧ slots + 6 ≤ room_1.slots)
    (hCt : ∀ pc q ct, Ct pc = some (q, ct) → am_C p l e room_1 s m args below meth c s.heap A (cells + 1) (slots + 6) Q D vw_cl G ad vw_S 7 pc q ct)
    (hZ : ∀ pc ls st M', Z pc ls st M' → am_A p l e room_1 s m args below meth c s.heap A (cells + 1) (slots + 6) Q D vw_cl G ad vw_S 7 pc ls st M')
    (hV : am_wp vw_S (some (L, xs)) fd_none am_none (fun _ _ => False) I (fun pc => pc == pcH) (fun pc ls' st M' => pc = pcH ∧ M' = M ∧ (n ≤ st.length ∧ st.length ≤ n + 4) ∧ P (st.take n).reverse M ∧ am_nx vw_S (some (L, xs)) fd_none Ct (fun _ _ => False) I sq2 (am_zq vw_S (some (L, xs)) fd_none Ct (fun _ _ => False) I sq2 sq Z 60 6) 60 (pcH + 3) ls' ((f (st.take n).reverse M).toList ++ st.drop n) (g (st.take n).reverse M)) 40 pcA ls [] M) :
    am_A p l e room_1 s m args below meth c s.heap A cells slots Q D vw_cl G ad vw_S 7 pcA ls [] M := by
  obtain ⟨F1, F2, F3, F4, F5, F6, F7, F8⟩ := F
  have hF0 : ∀ idx ci j q, fd_none idx = some (ci, j, q) → am_FOK vw_cl "ServerDeskLaw" args s Ts idx ci j q := fun idx ci j q h => by cases h
  have hX : ∀ L' xs', some (L, xs) = some (L', xs') → L' < 2147483648 ∧ ∃ ys : Nat → Int32, va_X (ad am_scr) L' ys s s.heap ∧ ad am_scr < s.heap.size ∧ ¬ A (ad am_scr) ∧ ∀ j, xs' j = (ys j).toInt := fun L' xs' h => by cases h; exact F8
  have hz := am_zq_ok (p := p) (l := l) (e := e) (R := room_1) (m := m) (below := below) (meth := meth) (c := c) (H0 := s.heap) (A := A) (cells := cells + 1) (slots := slots + 6) (Q := Q) (ad := ad) (Sc := some (L, xs)) (Ct := Ct) (Zr := fun _ _ => False) (sp := sq2) (sq := sq) (Z := Z) (fu := 60) (nL := 7) F1.1 F1.2.1 F1.2.2.2.1 F1.2.2.2.2 F3 vw_Sz hF0 hCt (fun r M H locs lsA pc h => h.elim) hX hI hZ 6
  have hwp := am_wp_ok (p := p) (l := l) (e := e) (R := room_1) (m := m) (below := below) (meth := meth) (c := c) (H0 := s.heap) (A := A) (cells := cells + 1) (slots := slots + 6) (Q := Q) (ad := ad) (Sc := some (L, xs)) (Ct := Ct) (Zr := fun _ _ => False) (sp := sq2) (nL := 7) F1.1 F1.2.1 F1.2.2.2.1 F1.2.2.2.2 F3 vw_Sz hF0 hCt (fun r M H locs lsA pc h => h.elim) hX hI hz
  refine am_wp_ok (p := p) (l := l) (e := e) (R := room_1) (m := m) (below := below) (meth := meth) (c := c) (H0 := s.heap) (A := A) (cells := cells) (slots := slots) (Q := Q) (ad := ad) (Sc := some (L, xs)) (Ct := am_none) (Zr := fun _ _ => False) (nL := 7) F1.1 F1.2.1 F1.2.2.2.1 F1.2.2.2.2 F3 vw_Sz hF0 (fun pc q ct h => by cases h) (fun r M H locs lsA pc h => h.elim) hX hI ?_ 40 pcA ls [] M hV
  rintro pc ls' st M' ⟨rfl, rfl, ⟨h1, h2⟩, hP, hK⟩
  refine am_callSH F1 F3 F4 F5 hcR F6 F7 hM cw hdg h1 h2 hP ?_
  unfold am_nx at hK
  split at hK
  · exact hz _ _ _ _ hK
  · exact hwp 60 _ _ _ _ hK
def lk_task : Prop := ∀ (M : am_M) (a b c d : Int), lw_I M M → am_R a → am_R b → am_R c → am_R d → P_MO_task [.inr (.inl 50), .inl a, .inl b, .inl c, .inl d] (g_LW_task [.inr (.inl 0), .inl a, .inl b, .inl c, .inl d, .inr (.inl 78)] M) ∧ am_R (cd_SD_task [.inr (.inl 0), .inl a, .inl b, .inl c, .inl d] M) ∧ (g_MO_task [.inr (.inl 50), .inl a, .inl b, .inl c, .inl d] (g_LW_task [.inr (.inl 0), .inl a, .inl b, .inl c, .inl d, .inr (.inl 78)] M)) 50 0 = cd_SD_task [.inr (.inl 0), .inl a, .inl b, .inl c, .inl d] M ∧ lw_I (g_MO_task [.inr (.inl 50), .inl a, .inl b, .inl c, .inl d] (g_LW_task [.inr (.inl 0), .inl a, .inl b, .inl c, .inl d, .inr (.inl 78)] M)) (g_MO_task [.inr (.inl 50), .inl a, .inl b, .inl c, .inl d] (g_LW_task [.inr (.inl 0), .inl a, .inl b, .inl c, .inl d, .inr (.inl 78)] M)) ∧ (cd_SD_task [.inr (.inl 0), .inl a, .inl b, .inl c, .inl d] M = 0 → (g_MO_task [.inr (.inl 50), .inl a, .inl b, .inl c, .inl d] (g_LW_task [.inr (.inl 0), .inl a, .inl b, .inl c, .inl d, .inr (.inl 78)] M)) 78 0 = am_wr (hp_v (f_MO_task [.inr (.inl 50), .inl a, .inl b, .inl c, .inl d] (g_LW_task [.inr (.inl 0), .inl a, .inl b, .inl c, .inl d, .inr (.inl 78)] M))))
def ct_LA0 : am_T := fun pc => if pc = 164 then some (5, am_ctV vw_S 11 P_MO_task (am_po f_MO_task g_MO_task)) else if pc = 170 then some (1, am_ctV vw_S 11 P_MO_thrown (am_po f_MO_thrown g_MO_thrown)) else none
theorem e_LA0_164 : ct_LA0 164 = some (5, am_ctV vw_S 11 P_MO_task (am_po f_MO_task g_MO_task)) := rfl
theorem e_LA0_170 : ct_LA0 170 = some (1, am_ctV vw_S 11 P_MO_thrown (am_po f_MO_thrown g_MO_thrown)) := rfl
theorem ctk_LA0 (F : la_F p s m args c A D G ad L xs Ts) (h1 : cells ≤ room_1.cells ∧ slots ≤ room_1.slots) : ∀ pc q ct, ct_LA0 pc = some (q, ct) → am_C p l e room_1 s m args below meth c s.heap A cells slots Q D vw_cl G ad vw_S 7 pc q ct := by
  intro pc q ct h
  unfold ct_LA0 at h
  split at h
  · rename_i hpc
    subst hpc; cases h
    exact am_callV F.1 vw_N_ok F.2.2.1 F.2.2.2.1 F.2.2.2.2.1 h1 (m_MO_task l) (s_LW_73 F.1.2.2.2.2 F.2.1 F.2.2.2.1 ⟨by decide, by decide⟩) (by rfl) d_LA0_164
  split at h
  · rename_i hpc
    subst hpc; cases h
    exact am_callV F.1 vw_N_ok F.2.2.1 F.2.2.2.1 F.2.2.2.2.1 h1 (m_MO_thrown l) (s_LW_74 F.1.2.2.2.2 F.2.1 F.2.2.2.1 ⟨by decide, by decide⟩) (by rfl) d_LA0_170
  cases h
set_option maxHeartbeats 2000000 in
theorem arm_task (hfl : l.flags = flags0) (hlk : lk_task) (F : la_F p s m args c A D G ad L xs Ts) (hi : 0 ≤ i ∧ i + 5 ≤ L) (hM : lw_I M M) (hcR : cells + 1 ≤ room_1.cells ∧ slots + 6 ≤ room_1.slots) (hZ : ∀ pc ls st M', la_T i pc ls st M' → am_A p l e room_1 s m args below meth c s.heap A (cells + 1) (slots + 6) Q D vw_cl G ad vw_S 7 pc ls st M') : am_A p l e room_1 s m args below meth c s.heap A cells slots Q D vw_cl G ad vw_S 7 108 [some (.inr (.inl am_scr)), some (.inr (.inl 0)), some (.inr (.inl 50)), some (.inr (.inl 78)), some (.inl i), none, none] [] M := by
  have hk := hlk M (xs (i + 1).toNat) (xs (i + 2).toNat) (xs (i + 3).toNat) (xs (i + 4).toNat) hM (la_R F _) (la_R F _) (la_R F _) (la_R F _)
  refine la_arm (sq := fun pc => pc == 187 || pc == 190 || pc == 191) (sq2 := fun pc => pc == 187 || pc == 190 || pc == 191 || pc == 886) (pcH := 134) F i_LA0_ok (m_LW_task l hfl) (hw_LW_task F.1.2.2.2.2 F.2.1 ⟨by decide, by decide⟩) d_LA0_134 hcR (ctk_LA0 F hcR) hZ ?_
  refine xs_aload_n (q := 109) i_LA0_108 rfl rfl (xs_n rfl ?_)
  refine xs_aload_n (q := 110) i_LA0_109 rfl rfl (xs_n rfl ?_)
  refine xs_iload (q := 112) i_LA0_110 rfl rfl (xs_n rfl ?_)
  refine xs_iconst (q := 113) i_LA0_112 rfl (xs_n rfl ?_)
  refine xs_iadd (q := 114) i_LA0_113 rfl (xs_n rfl ?_)
  refine xs_scr (q := 115) i_LA0_114 rfl (by omega) (xs_n rfl ?_)
  refine xs_aload_n (q := 116) i_LA0_115 rfl rfl (xs_n rfl ?_)
  refine xs_iload (q := 118) i_LA0_116 rfl rfl (xs_n rfl ?_)
  refine xs_iconst (q := 119) i_LA0_118 rfl (xs_n rfl ?_)
  refine xs_iadd (q := 120) i_LA0_119 rfl (xs_n rfl ?_)
  refine xs_scr (q := 121) i_LA0_120 rfl (by omega) (xs_n rfl ?_)
  refine xs_aload_n (q := 122) i_LA0_121 rfl rfl (xs_n rfl ?_)
  refine xs_iload (q := 124) i_LA0_122 rfl rfl (xs_n rfl ?_)
  refine xs_iconst (q := 125) i_LA0_124 rfl (xs_n rfl ?_)
  refine xs_iadd (q := 126) i_LA0_125 rfl (xs_n rfl ?_)
  refine xs_scr (q := 127) i_LA0_126 rfl (by omega) (xs_n rfl ?_)
  refine xs_aload_n (q := 128) i_LA0_127 rfl rfl (xs_n rfl ?_)
  refine xs_iload (q := 130) i_LA0_128 rfl rfl (xs_n rfl ?_)
  refine xs_iconst (q := 131) i_LA0_130 rfl (xs_n rfl ?_)
  refine xs_iadd (q := 132) i_LA0_131 rfl (xs_n rfl ?_)
  refine xs_scr (q := 133) i_LA0_132 rfl (by omega) (xs_n rfl ?_)
  refine xs_aload_n (q := 134) i_LA0_133 rfl rfl (xs_z rfl ?_)
  refine ⟨rfl, rfl, ⟨Nat.le_of_ble_eq_true rfl, Nat.le_of_ble_eq_true rfl⟩, ⟨rfl, rfl, ⟨rfl, ⟨la_R F _, la_R F _, la_R F _, la_R F _⟩, ⟨_, hM⟩⟩⟩, ?_⟩
  show am_nx _ _ _ _ _ _ _ _ _ _ _ _ (g_LW_task [.inr (.inl 0), .inl (xs (i + 1).toNat), .inl (xs (i + 2).toNat), .inl (xs (i + 3).toNat), .inl (xs (i + 4).toNat), .inr (.inl 78)] M)
  refine hp_r1 (rest := []) (v := cd_SD_task [.inr (.inl 0), .inl (xs (i + 1).toNat), .inl (xs (i + 2).toNat), .inl (xs (i + 3).toNat), .inl (xs (i + 4).toNat)] M) rfl (xs_n rfl ?_)
  refine xs_istore (q := 139) (ls2 := [_, _, _, _, _, _, _]) i_LA0_137 rfl rfl rfl (xs_n rfl ?_)
  refine xs_aload_n (q := 140) i_LA0_139 rfl rfl (xs_n rfl ?_)
  refine xs_aload_n (q := 141) i_LA0_140 rfl rfl (xs_n rfl ?_)
  refine xs_iload (q := 143) i_LA0_141 rfl rfl (xs_n rfl ?_)
  refine xs_iconst (q := 144) i_LA0_143 rfl (xs_n rfl ?_)
  refine xs_iadd (q := 145) i_LA0_144 rfl (xs_n rfl ?_)
  refine xs_scr (q := 146) i_LA0_145 rfl (by omega) (xs_n rfl ?_)
  refine xs_aload_n (q := 147) i_LA0_146 rfl rfl (xs_n rfl ?_)
  refine xs_iload (q := 149) i_LA0_147 rfl rfl (xs_n rfl ?_)
  refine xs_iconst (q := 150) i_LA0_149 rfl (xs_n rfl ?_)
  refine xs_iadd (q := 151) i_LA0_150 rfl (xs_n rfl ?_)
  refine xs_scr (q := 152) i_LA0_151 rfl (by omega) (xs_n rfl ?_)
  refine xs_aload_n (q := 153) i_LA0_152 rfl rfl (xs_n rfl ?_)
  refine xs_iload (q := 155) i_LA0_153 rfl rfl (xs_n rfl ?_)
  refine xs_iconst (q := 156) i_LA0_155 rfl (xs_n rfl ?_)
  refine xs_iadd (q := 157) i_LA0_156 rfl (xs_n rfl ?_)
  refine xs_scr (q := 158) i_LA0_157 rfl (by omega) (xs_n rfl ?_)
  refine xs_aload_n (q := 159) i_LA0_158 rfl rfl (xs_n rfl ?_)
  refine xs_iload (q := 161) i_LA0_159 rfl rfl (xs_n rfl ?_)
  refine xs_iconst (q := 162) i_LA0_161 rfl (xs_n rfl ?_)
  refine xs_iadd (q := 163) i_LA0_162 rfl (xs_n rfl ?_)
  refine xs_scr (q := 164) i_LA0_163 rfl (by omega) (xs_n rfl ?_)
  refine xs_cv (q := 167) (av := [_, _, _, _, _]) (rest := []) i_LA0_164 rfl (e_LA0_164) ⟨rfl, rfl⟩ rfl rfl ?_
  rw [am_V_iff]
  refine ⟨⟨_, sg_50⟩, hk.1, ?_⟩
  refine xs_r1 rfl (xs_n rfl ?_)
  refine xs_istore (q := 169) (ls2 := [_, _, _, _, _, _, _]) i_LA0_167 rfl rfl rfl (xs_n rfl ?_)
  refine xs_aload_n (q := 170) i_LA0_169 rfl rfl (xs_n rfl ?_)
  refine xs_cv (q := 173) (av := [_]) (rest := []) i_LA0_170 rfl (e_LA0_170) ⟨rfl, rfl⟩ rfl rfl ?_
  rw [am_V_iff]
  refine ⟨⟨_, sg_50⟩, rfl, ?_⟩
  dsimp only [g_MO_thrown, g_id]
  refine xs_r1 rfl (xs_n rfl ?_)
  refine xs_iload (q := 175) i_LA0_173 rfl rfl (xs_n rfl ?_)
  refine xs_ic_eq (q := 180) (r := 178) i_LA0_175 rfl rfl ⟨am_eqR2 hk.2.2.1 hk.2.1, hk.2.1⟩ (fun h175 => (xs_n rfl ?_)) (fun h175 => (xs_n rfl ?_))
  · refine xs_iload (q := 182) i_LA0_180 rfl rfl (xs_n rfl ?_)
    refine xs_if_ne (q := 197) (r := 185) i_LA0_182 rfl rfl hk.2.1 (fun h182 => (xs_n rfl ?_)) (fun h182 => (xs_n rfl ?_))
    · refine xs_goto (q := 886) i_LA0_197 rfl (xs_z rfl ?_)
      refine xq_z rfl ?_
      exact ⟨rfl, rfl, ⟨_, _, rfl⟩, hk.2.2.2.1⟩
    · refine xs_aload_n (q := 186) i_LA0_185 rfl rfl (xs_n rfl ?_)
      refine xs_iconst (q := 187) i_LA0_186 rfl (xs_z rfl ?_)
      refine xq_laload rfl i_LA0_187 sg_78 (⟨Int.le_refl 0, by decide⟩) (xs_n rfl ?_)
      refine xs_iload (q := 190) i_LA0_188 rfl rfl (xs_z rfl ?_)
      refine xq_i2l rfl i_LA0_190 (xs_z rfl ?_)
      refine xq_lcmp rfl i_LA0_191 (⟨am_eqR (hk.2.2.2.2 h182), am_wr_R _⟩) (xs_n rfl ?_)
      refine xs_if_eq (q := 197) (r := 195) i_LA0_192 rfl rfl (am_cR _ _) (fun h192 => (xs_n rfl ?_)) (fun h192 => (xs_n rfl ?_))
      · refine xs_goto (q := 886) i_LA0_197 rfl (xs_z rfl ?_)
        refine xq_z rfl ?_
        exact ⟨rfl, rfl, ⟨_, _, rfl⟩, hk.2.2.2.1⟩
      · exact (h192 (if_pos (hk.2.2.2.2 h182))).elim
  · exact absurd hk.2.2.1 h175
def lk_rule : Prop := ∀ (M : am_M) (a b c : Int), lw_I M M → am_R a → am_R b → am_R c → P_MO_rule [.inr (.inl 50), .inl a, .inl b, .inl c] (g_LW_rule [.inr (.inl 0), .inl a, .inl b, .inl c, .inr (.inl 78)] M) ∧ am_R (cd_SD_rule [.inr (.inl 0), .inl a, .inl b, .inl c] M) ∧ (g_MO_rule [.inr (.inl 50), .inl a, .inl b, .inl c] (g_LW_rule [.inr (.inl 0), .inl a, .inl b, .inl c, .inr (.inl 78)] M)) 50 0 = cd_SD_rule [.inr (.inl 0), .inl a, .inl b, .inl c] M ∧ lw_I (g_MO_rule [.inr (.inl 50), .inl a, .inl b, .inl c] (g_LW_rule [.inr (.inl 0), .inl a, .inl b, .inl c, .inr (.inl 78)] M)) (g_MO_rule [.inr (.inl 50), .inl a, .inl b, .inl c] (g_LW_rule [.inr (.inl 0), .inl a, .inl b, .inl c, .inr (.inl 78)] M)) ∧ (cd_SD_rule [.inr (.inl 0), .inl a, .inl b, .inl c] M = 0 → (g_MO_rule [.inr (.inl 50), .inl a, .inl b, .inl c] (g_LW_rule [.inr (.inl 0), .inl a, .inl b, .inl c, .inr (.inl 78)] M)) 78 0 = am_wr (hp_v (f_MO_rule [.inr (.inl 50), .inl a, .inl b, .inl c] (g_LW_rule [.inr (.inl 0), .inl a, .inl b, .inl c, .inr (.inl 78)] M)))) ∧ (hp_v (f_MO_rule [.inr (.inl 50), .inl a, .inl b, .inl c] (g_LW_rule [.inr (.inl 0), .inl a, .inl b, .inl c, .inr (.inl 78)] M)) = 0 ∨ hp_v (f_MO_rule [.inr (.inl 50), .inl a, .inl b, .inl c] (g_LW_rule [.inr (.inl 0), .inl a, .inl b, .inl c, .inr (.inl 78)] M)) = 1)
def ct_LA1 : am_T := fun pc => if pc = 244 then some (4, am_ctV vw_S 11 P_MO_rule (am_po f_MO_rule g_MO_rule)) else if pc = 250 then some (1, am_ctV vw_S 11 P_MO_thrown (am_po f_MO_thrown g_MO_thrown)) else none
theorem e_LA1_244 : ct_LA1 244 = some (4, am_ctV vw_S 11 P_MO_rule (am_po f_MO_rule g_MO_rule)) := rfl
theorem e_LA1_250 : ct_LA1 250 = some (1, am_ctV vw_S 11 P_MO_thrown (am_po f_MO_thrown g_MO_thrown)) := rfl
theorem ctk_LA1 (F : la_F p s m args c A D G ad L xs Ts) (h1 : cells ≤ room_1.cells ∧ slots ≤ room_1.slots) : ∀ pc q ct, ct_LA1 pc = some (q, ct) → am_C p l e room_1 s m args below meth c s.heap A cells slots Q D vw_cl G ad vw_S 7 pc q ct := by
  intro pc q ct h
  unfold ct_LA1 at h
  split at h
  · rename_i hpc
    subst hpc; cases h
    exact am_callV F.1 vw_N_ok F.2.2.1 F.2.2.2.1 F.2.2.2.2.1 h1 (m_MO_rule l) (s_LW_80 F.1.2.2.2.2 F.2.1 F.2.2.2.1 ⟨by decide, by decide⟩) (by rfl) d_LA1_244
  split at h
  · rename_i hpc
    subst hpc; cases h
    exact am_callV F.1 vw_N_ok F.2.2.1 F.2.2.2.1 F.2.2.2.2.1 h1 (m_MO_thrown l) (s_LW_74 F.1.2.2.2.2 F.2.1 F.2.2.2.1 ⟨by decide, by decide⟩) (by rfl) d_LA1_250
  cases h
set_option maxHeartbeats 2000000 in
theorem arm_rule (hfl : l.flags = flags0) (hlk : lk_rule) (F : la_F p s m args c A D G ad L xs Ts) (hi : 0 ≤ i ∧ i + 5 ≤ L) (hM : lw_I M M) (hcR : cells + 1 ≤ room_1.cells ∧ slots + 6 ≤ room_1.slots) (hZ : ∀ pc ls st M', la_T i pc ls st M' → am_A p l e room_1 s m args below meth c s.heap A (cells + 1) (slots + 6) Q D vw_cl G ad vw_S 7 pc ls st M') : am_A p l e room_1 s m args below meth c s.heap A cells slots Q D vw_cl G ad vw_S 7 200 [some (.inr (.inl am_scr)), some (.inr (.inl 0)), some (.inr (.inl 50)), some (.inr (.inl 78)), some (.inl i), none, none] [] M := by
  have hk := hlk M (xs (i + 1).toNat) (xs (i + 2).toNat) (xs (i + 3).toNat) hM (la_R F _) (la_R F _) (la_R F _)
  refine la_arm (sq := fun pc => pc == 267 || pc == 273 || pc == 277 || pc == 278) (sq2 := fun pc => pc == 267 || pc == 273 || pc == 277 || pc == 278 || pc == 886) (pcH := 220) F i_LA1_ok (m_LW_rule l hfl) (hw_LW_rule F.1.2.2.2.2 F.2.1 ⟨by decide, by decide⟩) d_LA1_220 hcR (ctk_LA1 F hcR) hZ ?_
  refine xs_aload_n (q := 201) i_LA1_200 rfl rfl (xs_n rfl ?_)
  refine xs_aload_n (q := 202) i_LA1_201 rfl rfl (xs_n rfl ?_)
  refine xs_iload (q := 204) i_LA1_202 rfl rfl (xs_n rfl ?_)
  refine xs_iconst (q := 205) i_LA1_204 rfl (xs_n rfl ?_)
  refine xs_iadd (q := 206) i_LA1_205 rfl (xs_n rfl ?_)
  refine xs_scr (q := 207) i_LA1_206 rfl (by omega) (xs_n rfl ?_)
  refine xs_aload_n (q := 208) i_LA1_207 rfl rfl (xs_n rfl ?_)
  refine xs_iload (q := 210) i_LA1_208 rfl rfl (xs_n rfl ?_)
  refine xs_iconst (q := 211) i_LA1_210 rfl (xs_n rfl ?_)
  refine xs_iadd (q := 212) i_LA1_211 rfl (xs_n rfl ?_)
  refine xs_scr (q := 213) i_LA1_212 rfl (by omega) (xs_n rfl ?_)
  refine xs_aload_n (q := 214) i_LA1_213 rfl rfl (xs_n rfl ?_)
  refine xs_iload (q := 216) i_LA1_214 rfl rfl (xs_n rfl ?_)
  refine xs_iconst (q := 217) i_LA1_216 rfl (xs_n rfl ?_)
  refine xs_iadd (q := 218) i_LA1_217 rfl (xs_n rfl ?_)
  refine xs_scr (q := 219) i_LA1_218 rfl (by omega) (xs_n rfl ?_)
  refine xs_aload_n (q := 220) i_LA1_219 rfl rfl (xs_z rfl ?_)
  refine ⟨rfl, rfl, ⟨Nat.le_of_ble_eq_true rfl, Nat.le_of_ble_eq_true rfl⟩, ⟨rfl, rfl, ⟨rfl, ⟨la_R F _, la_R F _, la_R F _⟩, ⟨_, hM⟩⟩⟩, ?_⟩
  show am_nx _ _ _ _ _ _ _ _ _ _ _ _ (g_LW_rule [.inr (.inl 0), .inl (xs (i + 1).toNat), .inl (xs (i + 2).toNat), .inl (xs (i + 3).toNat), .inr (.inl 78)] M)
  refine hp_r1 (rest := []) (v := cd_SD_rule [.inr (.inl 0), .inl (xs (i + 1).toNat), .inl (xs (i + 2).toNat), .inl (xs (i + 3).toNat)] M) rfl (xs_n rfl ?_)
  refine xs_istore (q := 225) (ls2 := [_, _, _, _, _, _, _]) i_LA1_223 rfl rfl rfl (xs_n rfl ?_)
  refine xs_aload_n (q := 226) i_LA1_225 rfl rfl (xs_n rfl ?_)
  refine xs_aload_n (q := 227) i_LA1_226 rfl rfl (xs_n rfl ?_)
  refine xs_iload (q := 229) i_LA1_227 rfl rfl (xs_n rfl ?_)
  refine xs_iconst (q := 230) i_LA1_229 rfl (xs_n rfl ?_)
  refine xs_iadd (q := 231) i_LA1_230 rfl (xs_n rfl ?_)
  refine xs_scr (q := 232) i_LA1_231 rfl (by omega) (xs_n rfl ?_)
  refine xs_aload_n (q := 233) i_LA1_232 rfl rfl (xs_n rfl ?_)
  refine xs_iload (q := 235) i_LA1_233 rfl rfl (xs_n rfl ?_)
  refine xs_iconst (q := 236) i_LA1_235 rfl (xs_n rfl ?_)
  refine xs_iadd (q := 237) i_LA1_236 rfl (xs_n rfl ?_)
  refine xs_scr (q := 238) i_LA1_237 rfl (by omega) (xs_n rfl ?_)
  refine xs_aload_n (q := 239) i_LA1_238 rfl rfl (xs_n rfl ?_)
  refine xs_iload (q := 241) i_LA1_239 rfl rfl (xs_n rfl ?_)
  refine xs_iconst (q := 242) i_LA1_241 rfl (xs_n rfl ?_)
  refine xs_iadd (q := 243) i_LA1_242 rfl (xs_n rfl ?_)
  refine xs_scr (q := 244) i_LA1_243 rfl (by omega) (xs_n rfl ?_)
  refine xs_cv (q := 247) (av := [_, _, _, _]) (rest := []) i_LA1_244 rfl (e_LA1_244) ⟨rfl, rfl⟩ rfl rfl ?_
  rw [am_V_iff]
  refine ⟨⟨_, sg_50⟩, hk.1, ?_⟩
  refine xs_r1 rfl (xs_n rfl ?_)
  refine xs_istore (q := 249) (ls2 := [_, _, _, _, _, _, _]) i_LA1_247 rfl rfl rfl (xs_n rfl ?_)
  refine xs_aload_n (q := 250) i_LA1_249 rfl rfl (xs_n rfl ?_)
  refine xs_cv (q := 253) (av := [_]) (rest := []) i_LA1_250 rfl (e_LA1_250) ⟨rfl, rfl⟩ rfl rfl ?_
  rw [am_V_iff]
  refine ⟨⟨_, sg_50⟩, rfl, ?_⟩
  dsimp only [g_MO_thrown, g_id]
  refine xs_r1 rfl (xs_n rfl ?_)
  refine xs_iload (q := 255) i_LA1_253 rfl rfl (xs_n rfl ?_)
  refine xs_ic_eq (q := 260) (r := 258) i_LA1_255 rfl rfl ⟨am_eqR2 hk.2.2.1 hk.2.1, hk.2.1⟩ (fun h255 => (xs_n rfl ?_)) (fun h255 => (xs_n rfl ?_))
  · refine xs_iload (q := 262) i_LA1_260 rfl rfl (xs_n rfl ?_)
    refine xs_if_ne (q := 284) (r := 265) i_LA1_262 rfl rfl hk.2.1 (fun h262 => (xs_n rfl ?_)) (fun h262 => (xs_n rfl ?_))
    · refine xs_goto (q := 886) i_LA1_284 rfl (xs_z rfl ?_)
      refine xq_z rfl ?_
      exact ⟨rfl, rfl, ⟨_, _, rfl⟩, hk.2.2.2.1⟩
    · refine xs_aload_n (q := 266) i_LA1_265 rfl rfl (xs_n rfl ?_)
      refine xs_iconst (q := 267) i_LA1_266 rfl (xs_z rfl ?_)
      refine xq_laload rfl i_LA1_267 sg_78 (⟨Int.le_refl 0, by decide⟩) (xs_n rfl ?_)
      refine xs_iload (q := 270) i_LA1_268 rfl rfl (xs_n rfl ?_)
      refine xs_if_eq (q := 277) (r := 273) i_LA1_270 rfl rfl (la_01 hk.2.2.2.2.2) (fun h270 => (xs_z rfl ?_)) (fun h270 => (xs_z rfl ?_))
      · refine xq_lconst rfl i_LA1_277 (xs_z rfl ?_)
        refine xq_lcmp rfl i_LA1_278 (⟨am_eqR (hk.2.2.2.2.1 h262), ⟨by decide, by decide⟩⟩) (xs_n rfl ?_)
        refine xs_if_eq (q := 284) (r := 282) i_LA1_279 rfl rfl (am_cR _ _) (fun h279 => (xs_n rfl ?_)) (fun h279 => (xs_n rfl ?_))
        · refine xs_goto (q := 886) i_LA1_284 rfl (xs_z rfl ?_)
          refine xq_z rfl ?_
          exact ⟨rfl, rfl, ⟨_, _, rfl⟩, hk.2.2.2.1⟩
        · exact (h279 (if_pos (la_b0 (hk.2.2.2.2.1 h262) h270))).elim
      · refine xq_lconst rfl i_LA1_273 (xs_n rfl ?_)
        refine xs_goto (q := 278) i_LA1_274 rfl (xs_z rfl ?_)
        refine xq_lcmp rfl i_LA1_278 (⟨am_eqR (hk.2.2.2.2.1 h262), ⟨by decide, by decide⟩⟩) (xs_n rfl ?_)
        refine xs_if_eq (q := 284) (r := 282) i_LA1_279 rfl rfl (am_cR _ _) (fun h279 => (xs_n rfl ?_)) (fun h279 => (xs_n rfl ?_))
        · refine xs_goto (q := 886) i_LA1_284 rfl (xs_z rfl ?_)
          refine xq_z rfl ?_
          exact ⟨rfl, rfl, ⟨_, _, rfl⟩, hk.2.2.2.1⟩
        · exact (h279 (if_pos (la_b1 (hk.2.2.2.2.1 h262) hk.2.2.2.2.2 h270))).elim
  · exact absurd hk.2.2.1 h255
def lk_start : Prop := ∀ (M : am_M), lw_I M M → P_MO_start [.inr (.inl 50)] (g_LW_start [.inr (.inl 0)] M) ∧ am_R (cd_SD_start [.inr (.inl 0)] M) ∧ (g_MO_start [.inr (.inl 50)] (g_LW_start [.inr (.inl 0)] M)) 50 0 = cd_SD_start [.inr (.inl 0)] M ∧ lw_I (g_MO_start [.inr (.inl 50)] (g_LW_start [.inr (.inl 0)] M)) (g_MO_start [.inr (.inl 50)] (g_LW_start [.inr (.inl 0)] M))
def ct_LA2 : am_T := fun pc => if pc = 294 then some (1, am_ctV vw_S 11 P_MO_start (am_po f_MO_start g_MO_start)) else if pc = 298 then some (1, am_ctV vw_S 11 P_MO_thrown (am_po f_MO_thrown g_MO_thrown)) else none
theorem e_LA2_294 : ct_LA2 294 = some (1, am_ctV vw_S 11 P_MO_start (am_po f_MO_start g_MO_start)) := rfl
theorem e_LA2_298 : ct_LA2 298 = some (1, am_ctV vw_S 11 P_MO_thrown (am_po f_MO_thrown g_MO_thrown)) := rfl
theorem ctk_LA2 (F : la_F p s m args c A D G ad L xs Ts) (h1 : cells ≤ room_1.cells ∧ slots ≤ room_1.slots) : ∀ pc q ct, ct_LA2 pc = some (q, ct) → am_C p l e room_1 s m args below meth c s.heap A cells slots Q D vw_cl G ad vw_S 7 pc q ct := by
  intro pc q ct h
  unfold ct_LA2 at h
  split at h
  · rename_i hpc
    subst hpc; cases h
    exact am_callV F.1 vw_N_ok F.2.2.1 F.2.2.2.1 F.2.2.2.2.1 h1 (m_MO_start l) (s_LW_84 F.1.2.2.2.2 F.2.1 F.2.2.2.1 ⟨by decide, by decide⟩) (by rfl) d_LA2_294
  split at h
  · rename_i hpc
    subst hpc; cases h
    exact am_callV F.1 vw_N_ok F.2.2.1 F.2.2.2.1 F.2.2.2.2.1 h1 (m_MO_thrown l) (s_LW_74 F.1.2.2.2.2 F.2.1 F.2.2.2.1 ⟨by decide, by decide⟩) (by rfl) d_LA2_298
  cases h
set_option maxHeartbeats 2000000 in
theorem arm_start (hfl : l.flags = flags0) (hlk : lk_start) (F : la_F p s m args c A D G ad L xs Ts) (hi : 0 ≤ i ∧ i + 5 ≤ L) (hM : lw_I M M) (hcR : cells + 1 ≤ room_1.cells ∧ slots + 6 ≤ room_1.slots) (hZ : ∀ pc ls st M', la_T i pc ls st M' → am_A p l e room_1 s m args below meth c s.heap A (cells + 1) (slots + 6) Q D vw_cl G ad vw_S 7 pc ls st M') : am_A p l e room_1 s m args below meth c s.heap A cells slots Q D vw_cl G ad vw_S 7 287 [some (.inr (.inl am_scr)), some (.inr (.inl 0)), some (.inr (.inl 50)), some (.inr (.inl 78)), some (.inl i), none, none] [] M := by
  have hk := hlk M hM
  refine la_arm (sq := fun pc => false) (sq2 := fun pc => pc == 886) (pcH := 288) F i_LA2_ok (m_LW_start l hfl) (hw_LW_start F.1.2.2.2.2 F.2.1 ⟨by decide, by decide⟩) d_LA2_288 hcR (ctk_LA2 F hcR) hZ ?_
  refine xs_aload_n (q := 288) i_LA2_287 rfl rfl (xs_z rfl ?_)
  refine ⟨rfl, rfl, ⟨Nat.le_of_ble_eq_true rfl, Nat.le_of_ble_eq_true rfl⟩, ⟨rfl, ⟨rfl, ⟨_, hM⟩⟩⟩, ?_⟩
  show am_nx _ _ _ _ _ _ _ _ _ _ _ _ (g_LW_start [.inr (.inl 0)] M)
  refine hp_r1 (rest := []) (v := cd_SD_start [.inr (.inl 0)] M) rfl (xs_n rfl ?_)
  refine xs_istore (q := 293) (ls2 := [_, _, _, _, _, _, _]) i_LA2_291 rfl rfl rfl (xs_n rfl ?_)
  refine xs_aload_n (q := 294) i_LA2_293 rfl rfl (xs_n rfl ?_)
  refine xs_cv (q := 297) (av := [_]) (rest := []) i_LA2_294 rfl (e_LA2_294) ⟨rfl, rfl⟩ rfl rfl ?_
  rw [am_V_iff]
  refine ⟨⟨_, sg_50⟩, hk.1, ?_⟩
  refine xs_r0 rfl (xs_n rfl ?_)
  refine xs_aload_n (q := 298) i_LA2_297 rfl rfl (xs_n rfl ?_)
  refine xs_cv (q := 301) (av := [_]) (rest := []) i_LA2_298 rfl (e_LA2_298) ⟨rfl, rfl⟩ rfl rfl ?_
  rw [am_V_iff]
  refine ⟨⟨_, sg_50⟩, rfl, ?_⟩
  dsimp only [g_MO_thrown, g_id]
  refine xs_r1 rfl (xs_n rfl ?_)
  refine xs_iload (q := 303) i_LA2_301 rfl rfl (xs_n rfl ?_)
  refine xs_ic_eq (q := 308) (r := 306) i_LA2_303 rfl rfl ⟨am_eqR2 hk.2.2.1 hk.2.1, hk.2.1⟩ (fun h303 => (xs_n rfl ?_)) (fun h303 => (xs_n rfl ?_))
  · refine xs_goto (q := 886) i_LA2_308 rfl (xs_z rfl ?_)
    refine xq_z rfl ?_
    exact ⟨rfl, rfl, ⟨_, _, rfl⟩, hk.2.2.2⟩
  · exact absurd hk.2.2.1 h303
def lk_tick : Prop := ∀ (M : am_M) (a : Int), lw_I M M → am_R a → P_MO_tick [.inr (.inl 50), .inl a] (g_LW_tick [.inr (.inl 0), .inl a, .inr (.inl 78)] M) ∧ am_R (cd_SD_tick [.inr (.inl 0), .inl a] M) ∧ (g_MO_tick [.inr (.inl 50), .inl a] (g_LW_tick [.inr (.inl 0), .inl a, .inr (.inl 78)] M)) 50 0 = cd_SD_tick [.inr (.inl 0), .inl a] M ∧ lw_I (g_MO_tick [.inr (.inl 50), .inl a] (g_LW_tick [.inr (.inl 0), .inl a, .inr (.inl 78)] M)) (g_MO_tick [.inr (.inl 50), .inl a] (g_LW_tick [.inr (.inl 0), .inl a, .inr (.inl 78)] M)) ∧ (cd_SD_tick [.inr (.inl 0), .inl a] M = 0 → (g_MO_tick [.inr (.inl 50), .inl a] (g_LW_tick [.inr (.inl 0), .inl a, .inr (.inl 78)] M)) 78 0 = am_wr (hp_v (f_MO_tick [.inr (.inl 50), .inl a] (g_LW_tick [.inr (.inl 0), .inl a, .inr (.inl 78)] M))))
def ct_LA3 : am_T := fun pc => if pc = 331 then some (2, am_ctV vw_S 11 P_MO_tick (am_po f_MO_tick g_MO_tick)) else if pc = 337 then some (1, am_ctV vw_S 11 P_MO_thrown (am_po f_MO_thrown g_MO_thrown)) else none
theorem e_LA3_331 : ct_LA3 331 = some (2, am_ctV vw_S 11 P_MO_tick (am_po f_MO_tick g_MO_tick)) := rfl
theorem e_LA3_337 : ct_LA3 337 = some (1, am_ctV vw_S 11 P_MO_thrown (am_po f_MO_thrown g_MO_thrown)) := rfl
theorem ctk_LA3 (F : la_F p s m args c A D G ad L xs Ts) (h1 : cells ≤ room_1.cells ∧ slots ≤ room_1.slots) : ∀ pc q ct, ct_LA3 pc = some (q, ct) → am_C p l e room_1 s m args below meth c s.heap A cells slots Q D vw_cl G ad vw_S 7 pc q ct := by
  intro pc q ct h
  unfold ct_LA3 at h
  split at h
  · rename_i hpc
    subst hpc; cases h
    exact am_callV F.1 vw_N_ok F.2.2.1 F.2.2.2.1 F.2.2.2.2.1 h1 (m_MO_tick l) (s_LW_88 F.1.2.2.2.2 F.2.1 F.2.2.2.1 ⟨by decide, by decide⟩) (by rfl) d_LA3_331
  split at h
  · rename_i hpc
    subst hpc; cases h
    exact am_callV F.1 vw_N_ok F.2.2.1 F.2.2.2.1 F.2.2.2.2.1 h1 (m_MO_thrown l) (s_LW_74 F.1.2.2.2.2 F.2.1 F.2.2.2.1 ⟨by decide, by decide⟩) (by rfl) d_LA3_337
  cases h
set_option maxHeartbeats 2000000 in
theorem arm_tick (hfl : l.flags = flags0) (hlk : lk_tick) (F : la_F p s m args c A D G ad L xs Ts) (hi : 0 ≤ i ∧ i + 5 ≤ L) (hM : lw_I M M) (hcR : cells + 1 ≤ room_1.cells ∧ slots + 6 ≤ room_1.slots) (hZ : ∀ pc ls st M', la_T i pc ls st M' → am_A p l e room_1 s m args below meth c s.heap A (cells + 1) (slots + 6) Q D vw_cl G ad vw_S 7 pc ls st M') : am_A p l e room_1 s m args below meth c s.heap A cells slots Q D vw_cl G ad vw_S 7 311 [some (.inr (.inl am_scr)), some (.inr (.inl 0)), some (.inr (.inl 50)), some (.inr (.inl 78)), some (.inl i), none, none] [] M := by
  have hk := hlk M (xs (i + 1).toNat) hM (la_R F _)
  refine la_arm (sq := fun pc => pc == 354 || pc == 357 || pc == 358) (sq2 := fun pc => pc == 354 || pc == 357 || pc == 358 || pc == 886) (pcH := 319) F i_LA3_ok (m_LW_tick l hfl) (hw_LW_tick F.1.2.2.2.2 F.2.1 ⟨by decide, by decide⟩) d_LA3_319 hcR (ctk_LA3 F hcR) hZ ?_
  refine xs_aload_n (q := 312) i_LA3_311 rfl rfl (xs_n rfl ?_)
  refine xs_aload_n (q := 313) i_LA3_312 rfl rfl (xs_n rfl ?_)
  refine xs_iload (q := 315) i_LA3_313 rfl rfl (xs_n rfl ?_)
  refine xs_iconst (q := 316) i_LA3_315 rfl (xs_n rfl ?_)
  refine xs_iadd (q := 317) i_LA3_316 rfl (xs_n rfl ?_)
  refine xs_scr (q := 318) i_LA3_317 rfl (by omega) (xs_n rfl ?_)
  refine xs_aload_n (q := 319) i_LA3_318 rfl rfl (xs_z rfl ?_)
  refine ⟨rfl, rfl, ⟨Nat.le_of_ble_eq_true rfl, Nat.le_of_ble_eq_true rfl⟩, ⟨rfl, rfl, ⟨rfl, la_R F _, ⟨_, hM⟩⟩⟩, ?_⟩
  show am_nx _ _ _ _ _ _ _ _ _ _ _ _ (g_LW_tick [.inr (.inl 0), .inl (xs (i + 1).toNat), .inr (.inl 78)] M)
  refine hp_r1 (rest := []) (v := cd_SD_tick [.inr (.inl 0), .inl (xs (i + 1).toNat)] M) rfl (xs_n rfl ?_)
  refine xs_istore (q := 324) (ls2 := [_, _, _, _, _, _, _]) i_LA3_322 rfl rfl rfl (xs_n rfl ?_)
  refine xs_aload_n (q := 325) i_LA3_324 rfl rfl (xs_n rfl ?_)
  refine xs_aload_n (q := 326) i_LA3_325 rfl rfl (xs_n rfl ?_)
  refine xs_iload (q := 328) i_LA3_326 rfl rfl (xs_n rfl ?_)
  refine xs_iconst (q := 329) i_LA3_328 rfl (xs_n rfl ?_)
  refine xs_iadd (q := 330) i_LA3_329 rfl (xs_n rfl ?_)
  refine xs_scr (q := 331) i_LA3_330 rfl (by omega) (xs_n rfl ?_)
  refine xs_cv (q := 334) (av := [_, _]) (rest := []) i_LA3_331 rfl (e_LA3_331) ⟨rfl, rfl⟩ rfl rfl ?_
  rw [am_V_iff]
  refine ⟨⟨_, sg_50⟩, hk.1, ?_⟩
  refine xs_r1 rfl (xs_n rfl ?_)
  refine xs_istore (q := 336) (ls2 := [_, _, _, _, _, _, _]) i_LA3_334 rfl rfl rfl (xs_n rfl ?_)
  refine xs_aload_n (q := 337) i_LA3_336 rfl rfl (xs_n rfl ?_)
  refine xs_cv (q := 340) (av := [_]) (rest := []) i_LA3_337 rfl (e_LA3_337) ⟨rfl, rfl⟩ rfl rfl ?_
  rw [am_V_iff]
  refine ⟨⟨_, sg_50⟩, rfl, ?_⟩
  dsimp only [g_MO_thrown, g_id]
  refine xs_r1 rfl (xs_n rfl ?_)
  refine xs_iload (q := 342) i_LA3_340 rfl rfl (xs_n rfl ?_)
  refine xs_ic_eq (q := 347) (r := 345) i_LA3_342 rfl rfl ⟨am_eqR2 hk.2.2.1 hk.2.1, hk.2.1⟩ (fun h342 => (xs_n rfl ?_)) (fun h342 => (xs_n rfl ?_))
  · refine xs_iload (q := 349) i_LA3_347 rfl rfl (xs_n rfl ?_)
    refine xs_if_ne (q := 364) (r := 352) i_LA3_349 rfl rfl hk.2.1 (fun h349 => (xs_n rfl ?_)) (fun h349 => (xs_n rfl ?_))
    · refine xs_goto (q := 886) i_LA3_364 rfl (xs_z rfl ?_)
      refine xq_z rfl ?_
      exact ⟨rfl, rfl, ⟨_, _, rfl⟩, hk.2.2.2.1⟩
    · refine xs_aload_n (q := 353) i_LA3_352 rfl rfl (xs_n rfl ?_)
      refine xs_iconst (q := 354) i_LA3_353 rfl (xs_z rfl ?_)
      refine xq_laload rfl i_LA3_354 sg_78 (⟨Int.le_refl 0, by decide⟩) (xs_n rfl ?_)
      refine xs_iload (q := 357) i_LA3_355 rfl rfl (xs_z rfl ?_)
      refine xq_i2l rfl i_LA3_357 (xs_z rfl ?_)
      refine xq_lcmp rfl i_LA3_358 (⟨am_eqR (hk.2.2.2.2 h349), am_wr_R _⟩) (xs_n rfl ?_)
      refine xs_if_eq (q := 364) (r := 362) i_LA3_359 rfl rfl (am_cR _ _) (fun h359 => (xs_n rfl ?_)) (fun h359 => (xs_n rfl ?_))
      · refine xs_goto (q := 886) i_LA3_364 rfl (xs_z rfl ?_)
        refine xq_z rfl ?_
        exact ⟨rfl, rfl, ⟨_, _, rfl⟩, hk.2.2.2.1⟩
      · exact (h359 (if_pos (hk.2.2.2.2 h349))).elim
  · exact absurd hk.2.2.1 h342
def lk_job : Prop := ∀ (M : am_M) (a : Int), lw_I M M → am_R a → P_MO_job [.inr (.inl 50), .inl a] (g_LW_job [.inr (.inl 0), .inl a, .inr (.inl 78)] M) ∧ am_R (cd_SD_job [.inr (.inl 0), .inl a] M) ∧ (g_MO_job [.inr (.inl 50), .inl a] (g_LW_job [.inr (.inl 0), .inl a, .inr (.inl 78)] M)) 50 0 = cd_SD_job [.inr (.inl 0), .inl a] M ∧ lw_I (g_MO_job [.inr (.inl 50), .inl a] (g_LW_job [.inr (.inl 0), .inl a, .inr (.inl 78)] M)) (g_MO_job [.inr (.inl 50), .inl a] (g_LW_job [.inr (.inl 0), .inl a, .inr (.inl 78)] M)) ∧ (cd_SD_job [.inr (.inl 0), .inl a] M = 0 → (g_MO_job [.inr (.inl 50), .inl a] (g_LW_job [.inr (.inl 0), .inl a, .inr (.inl 78)] M)) 78 0 = am_wr (hp_v (f_MO_job [.inr (.inl 50), .inl a] (g_LW_job [.inr (.inl 0), .inl a, .inr (.inl 78)] M))))
def ct_LA4 : am_T := fun pc => if pc = 387 then some (2, am_ctV vw_S 11 P_MO_job (am_po f_MO_job g_MO_job)) else if pc = 393 then some (1, am_ctV vw_S 11 P_MO_thrown (am_po f_MO_thrown g_MO_thrown)) else none
theorem e_LA4_387 : ct_LA4 387 = some (2, am_ctV vw_S 11 P_MO_job (am_po f_MO_job g_MO_job)) := rfl
theorem e_LA4_393 : ct_LA4 393 = some (1, am_ctV vw_S 11 P_MO_thrown (am_po f_MO_thrown g_MO_thrown)) := rfl
theorem ctk_LA4 (F : la_F p s m args c A D G ad L xs Ts) (h1 : cells ≤ room_1.cells ∧ slots ≤ room_1.slots) : ∀ pc q ct, ct_LA4 pc = some (q, ct) → am_C p l e room_1 s m args below meth c s.heap A cells slots Q D vw_cl G ad vw_S 7 pc q ct := by
  intro pc q ct h
  unfold ct_LA4 at h
  split at h
  · rename_i hpc
    subst hpc; cases h
    exact am_callV F.1 vw_N_ok F.2.2.1 F.2.2.2.1 F.2.2.2.2.1 h1 (m_MO_job l) (s_LW_91 F.1.2.2.2.2 F.2.1 F.2.2.2.1 ⟨by decide, by decide⟩) (by rfl) d_LA4_387
  split at h
  · rename_i hpc
    subst hpc; cases h
    exact am_callV F.1 vw_N_ok F.2.2.1 F.2.2.2.1 F.2.2.2.2.1 h1 (m_MO_thrown l) (s_LW_74 F.1.2.2.2.2 F.2.1 F.2.2.2.1 ⟨by decide, by decide⟩) (by rfl) d_LA4_393
  cases h
set_option maxHeartbeats 2000000 in
theorem arm_job (hfl : l.flags = flags0) (hlk : lk_job) (F : la_F p s m args c A D G ad L xs Ts) (hi : 0 ≤ i ∧ i + 5 ≤ L) (hM : lw_I M M) (hcR : cells + 1 ≤ room_1.cells ∧ slots + 6 ≤ room_1.slots) (hZ : ∀ pc ls st M', la_T i pc ls st M' → am_A p l e room_1 s m args below meth c s.heap A (cells + 1) (slots + 6) Q D vw_cl G ad vw_S 7 pc ls st M') : am_A p l e room_1 s m args below meth c s.heap A cells slots Q D vw_cl G ad vw_S 7 367 [some (.inr (.inl am_scr)), some (.inr (.inl 0)), some (.inr (.inl 50)), some (.inr (.inl 78)), some (.inl i), none, none] [] M := by
  have hk := hlk M (xs (i + 1).toNat) hM (la_R F _)
  refine la_arm (sq := fun pc => pc == 410 || pc == 413 || pc == 414) (sq2 := fun pc => pc == 410 || pc == 413 || pc == 414 || pc == 886) (pcH := 375) F i_LA4_ok (m_LW_job l hfl) (hw_LW_job F.1.2.2.2.2 F.2.1 ⟨by decide, by decide⟩) d_LA4_375 hcR (ctk_LA4 F hcR) hZ ?_
  refine xs_aload_n (q := 368) i_LA4_367 rfl rfl (xs_n rfl ?_)
  refine xs_aload_n (q := 369) i_LA4_368 rfl rfl (xs_n rfl ?_)
  refine xs_iload (q := 371) i_LA4_369 rfl rfl (xs_n rfl ?_)
  refine xs_iconst (q := 372) i_LA4_371 rfl (xs_n rfl ?_)
  refine xs_iadd (q := 373) i_LA4_372 rfl (xs_n rfl ?_)
  refine xs_scr (q := 374) i_LA4_373 rfl (by omega) (xs_n rfl ?_)
  refine xs_aload_n (q := 375) i_LA4_374 rfl rfl (xs_z rfl ?_)
  refine ⟨rfl, rfl, ⟨Nat.le_of_ble_eq_true rfl, Nat.le_of_ble_eq_true rfl⟩, ⟨rfl, rfl, ⟨rfl, la_R F _, ⟨_, hM⟩⟩⟩, ?_⟩
  show am_nx _ _ _ _ _ _ _ _ _ _ _ _ (g_LW_job [.inr (.inl 0), .inl (xs (i + 1).toNat), .inr (.inl 78)] M)
  refine hp_r1 (rest := []) (v := cd_SD_job [.inr (.inl 0), .inl (xs (i + 1).toNat)] M) rfl (xs_n rfl ?_)
  refine xs_istore (q := 380) (ls2 := [_, _, _, _, _, _, _]) i_LA4_378 rfl rfl rfl (xs_n rfl ?_)
  refine xs_aload_n (q := 381) i_LA4_380 rfl rfl (xs_n rfl ?_)
  refine xs_aload_n (q := 382) i_LA4_381 rfl rfl (xs_n rfl ?_)
  refine xs_iload (q := 384) i_LA4_382 rfl rfl (xs_n rfl ?_)
  refine xs_iconst (q := 385) i_LA4_384 rfl (xs_n rfl ?_)
  refine xs_iadd (q := 386) i_LA4_385 rfl (xs_n rfl ?_)
  refine xs_scr (q := 387) i_LA4_386 rfl (by omega) (xs_n rfl ?_)
  refine xs_cv (q := 390) (av := [_, _]) (rest := []) i_LA4_387 rfl (e_LA4_387) ⟨rfl, rfl⟩ rfl rfl ?_
  rw [am_V_iff]
  refine ⟨⟨_, sg_50⟩, hk.1, ?_⟩
  refine xs_r1 rfl (xs_n rfl ?_)
  refine xs_istore (q := 392) (ls2 := [_, _, _, _, _, _, _]) i_LA4_390 rfl rfl rfl (xs_n rfl ?_)
  refine xs_aload_n (q := 393) i_LA4_392 rfl rfl (xs_n rfl ?_)
  refine xs_cv (q := 396) (av := [_]) (rest := []) i_LA4_393 rfl (e_LA4_393) ⟨rfl, rfl⟩ rfl rfl ?_
  rw [am_V_iff]
  refine ⟨⟨_, sg_50⟩, rfl, ?_⟩
  dsimp only [g_MO_thrown, g_id]
  refine xs_r1 rfl (xs_n rfl ?_)
  refine xs_iload (q := 398) i_LA4_396 rfl rfl (xs_n rfl ?_)
  refine xs_ic_eq (q := 403) (r := 401) i_LA4_398 rfl rfl ⟨am_eqR2 hk.2.2.1 hk.2.1, hk.2.1⟩ (fun h398 => (xs_n rfl ?_)) (fun h398 => (xs_n rfl ?_))
  · refine xs_iload (q := 405) i_LA4_403 rfl rfl (xs_n rfl ?_)
    refine xs_if_ne (q := 420) (r := 408) i_LA4_405 rfl rfl hk.2.1 (fun h405 => (xs_n rfl ?_)) (fun h405 => (xs_n rfl ?_))
    · refine xs_goto (q := 886) i_LA4_420 rfl (xs_z rfl ?_)
      refine xq_z rfl ?_
      exact ⟨rfl, rfl, ⟨_, _, rfl⟩, hk.2.2.2.1⟩
    · refine xs_aload_n (q := 409) i_LA4_408 rfl rfl (xs_n rfl ?_)
      refine xs_iconst (q := 410) i_LA4_409 rfl (xs_z rfl ?_)
      refine xq_laload rfl i_LA4_410 sg_78 (⟨Int.le_refl 0, by decide⟩) (xs_n rfl ?_)
      refine xs_iload (q := 413) i_LA4_411 rfl rfl (xs_z rfl ?_)
      refine xq_i2l rfl i_LA4_413 (xs_z rfl ?_)
      refine xq_lcmp rfl i_LA4_414 (⟨am_eqR (hk.2.2.2.2 h405), am_wr_R _⟩) (xs_n rfl ?_)
      refine xs_if_eq (q := 420) (r := 418) i_LA4_415 rfl rfl (am_cR _ _) (fun h415 => (xs_n rfl ?_)) (fun h415 => (xs_n rfl ?_))
      · refine xs_goto (q := 886) i_LA4_420 rfl (xs_z rfl ?_)
        refine xq_z rfl ?_
        exact ⟨rfl, rfl, ⟨_, _, rfl⟩, hk.2.2.2.1⟩
      · exact (h415 (if_pos (hk.2.2.2.2 h405))).elim
  · exact absurd hk.2.2.1 h398
def lk_hard : Prop := ∀ (M : am_M) (a b : Int), lw_I M M → am_R a → am_R b → P_MO_hard [.inr (.inl 50), .inl a, .inl b] (g_LW_hard [.inr (.inl 0), .inl a, .inl b, .inr (.inl 78)] M) ∧ am_R (cd_SD_hard [.inr (.inl 0), .inl a, .inl b] M) ∧ (g_MO_hard [.inr (.inl 50), .inl a, .inl b] (g_LW_hard [.inr (.inl 0), .inl a, .inl b, .inr (.inl 78)] M)) 50 0 = cd_SD_hard [.inr (.inl 0), .inl a, .inl b] M ∧ lw_I (g_MO_hard [.inr (.inl 50), .inl a, .inl b] (g_LW_hard [.inr (.inl 0), .inl a, .inl b, .inr (.inl 78)] M)) (g_MO_hard [.inr (.inl 50), .inl a, .inl b] (g_LW_hard [.inr (.inl 0), .inl a, .inl b, .inr (.inl 78)] M)) ∧ (cd_SD_hard [.inr (.inl 0), .inl a, .inl b] M = 0 → (g_MO_hard [.inr (.inl 50), .inl a, .inl b] (g_LW_hard [.inr (.inl 0), .inl a, .inl b, .inr (.inl 78)] M)) 78 0 = am_wr (hp_v (f_MO_hard [.inr (.inl 50), .inl a, .inl b] (g_LW_hard [.inr (.inl 0), .inl a, .inl b, .inr (.inl 78)] M))))
def ct_LA5 : am_T := fun pc => if pc = 455 then some (3, am_ctV vw_S 11 P_MO_hard (am_po f_MO_hard g_MO_hard)) else if pc = 461 then some (1, am_ctV vw_S 11 P_MO_thrown (am_po f_MO_thrown g_MO_thrown)) else none
theorem e_LA5_455 : ct_LA5 455 = some (3, am_ctV vw_S 11 P_MO_hard (am_po f_MO_hard g_MO_hard)) := rfl
theorem e_LA5_461 : ct_LA5 461 = some (1, am_ctV vw_S 11 P_MO_thrown (am_po f_MO_thrown g_MO_thrown)) := rfl
theorem ctk_LA5 (F : la_F p s m args c A D G ad L xs Ts) (h1 : cells ≤ room_1.cells ∧ slots ≤ room_1.slots) : ∀ pc q ct, ct_LA5 pc = some (q, ct) → am_C p l e room_1 s m args below meth c s.heap A cells slots Q D vw_cl G ad vw_S 7 pc q ct := by
  intro pc q ct h
  unfold ct_LA5 at h
  split at h
  · rename_i hpc
    subst hpc; cases h
    exact am_callV F.1 vw_N_ok F.2.2.1 F.2.2.2.1 F.2.2.2.2.1 h1 (m_MO_hard l) (s_LW_95 F.1.2.2.2.2 F.2.1 F.2.2.2.1 ⟨by decide, by decide⟩) (by rfl) d_LA5_455
  split at h
  · rename_i hpc
    subst hpc; cases h
    exact am_callV F.1 vw_N_ok F.2.2.1 F.2.2.2.1 F.2.2.2.2.1 h1 (m_MO_thrown l) (s_LW_74 F.1.2.2.2.2 F.2.1 F.2.2.2.1 ⟨by decide, by decide⟩) (by rfl) d_LA5_461
  cases h
set_option maxHeartbeats 2000000 in
theorem arm_hard (hfl : l.flags = flags0) (hlk : lk_hard) (F : la_F p s m args c A D G ad L xs Ts) (hi : 0 ≤ i ∧ i + 5 ≤ L) (hM : lw_I M M) (hcR : cells + 1 ≤ room_1.cells ∧ slots + 6 ≤ room_1.slots) (hZ : ∀ pc ls st M', la_T i pc ls st M' → am_A p l e room_1 s m args below meth c s.heap A (cells + 1) (slots + 6) Q D vw_cl G ad vw_S 7 pc ls st M') : am_A p l e room_1 s m args below meth c s.heap A cells slots Q D vw_cl G ad vw_S 7 423 [some (.inr (.inl am_scr)), some (.inr (.inl 0)), some (.inr (.inl 50)), some (.inr (.inl 78)), some (.inl i), none, none] [] M := by
  have hk := hlk M (xs (i + 1).toNat) (xs (i + 2).toNat) hM (la_R F _) (la_R F _)
  refine la_arm (sq := fun pc => pc == 478 || pc == 481 || pc == 482) (sq2 := fun pc => pc == 478 || pc == 481 || pc == 482 || pc == 886) (pcH := 437) F i_LA5_ok (m_LW_hard l hfl) (hw_LW_hard F.1.2.2.2.2 F.2.1 ⟨by decide, by decide⟩) d_LA5_437 hcR (ctk_LA5 F hcR) hZ ?_
  refine xs_aload_n (q := 424) i_LA5_423 rfl rfl (xs_n rfl ?_)
  refine xs_aload_n (q := 425) i_LA5_424 rfl rfl (xs_n rfl ?_)
  refine xs_iload (q := 427) i_LA5_425 rfl rfl (xs_n rfl ?_)
  refine xs_iconst (q := 428) i_LA5_427 rfl (xs_n rfl ?_)
  refine xs_iadd (q := 429) i_LA5_428 rfl (xs_n rfl ?_)
  refine xs_scr (q := 430) i_LA5_429 rfl (by omega) (xs_n rfl ?_)
  refine xs_aload_n (q := 431) i_LA5_430 rfl rfl (xs_n rfl ?_)
  refine xs_iload (q := 433) i_LA5_431 rfl rfl (xs_n rfl ?_)
  refine xs_iconst (q := 434) i_LA5_433 rfl (xs_n rfl ?_)
  refine xs_iadd (q := 435) i_LA5_434 rfl (xs_n rfl ?_)
  refine xs_scr (q := 436) i_LA5_435 rfl (by omega) (xs_n rfl ?_)
  refine xs_aload_n (q := 437) i_LA5_436 rfl rfl (xs_z rfl ?_)
  refine ⟨rfl, rfl, ⟨Nat.le_of_ble_eq_true rfl, Nat.le_of_ble_eq_true rfl⟩, ⟨rfl, rfl, ⟨rfl, ⟨la_R F _, la_R F _⟩, ⟨_, hM⟩⟩⟩, ?_⟩
  show am_nx _ _ _ _ _ _ _ _ _ _ _ _ (g_LW_hard [.inr (.inl 0), .inl (xs (i + 1).toNat), .inl (xs (i + 2).toNat), .inr (.inl 78)] M)
  refine hp_r1 (rest := []) (v := cd_SD_hard [.inr (.inl 0), .inl (xs (i + 1).toNat), .inl (xs (i + 2).toNat)] M) rfl (xs_n rfl ?_)
  refine xs_istore (q := 442) (ls2 := [_, _, _, _, _, _, _]) i_LA5_440 rfl rfl rfl (xs_n rfl ?_)
  refine xs_aload_n (q := 443) i_LA5_442 rfl rfl (xs_n rfl ?_)
  refine xs_aload_n (q := 444) i_LA5_443 rfl rfl (xs_n rfl ?_)
  refine xs_iload (q := 446) i_LA5_444 rfl rfl (xs_n rfl ?_)
  refine xs_iconst (q := 447) i_LA5_446 rfl (xs_n rfl ?_)
  refine xs_iadd (q := 448) i_LA5_447 rfl (xs_n rfl ?_)
  refine xs_scr (q := 449) i_LA5_448 rfl (by omega) (xs_n rfl ?_)
  refine xs_aload_n (q := 450) i_LA5_449 rfl rfl (xs_n rfl ?_)
  refine xs_iload (q := 452) i_LA5_450 rfl rfl (xs_n rfl ?_)
  refine xs_iconst (q := 453) i_LA5_452 rfl (xs_n rfl ?_)
  refine xs_iadd (q := 454) i_LA5_453 rfl (xs_n rfl ?_)
  refine xs_scr (q := 455) i_LA5_454 rfl (by omega) (xs_n rfl ?_)
  refine xs_cv (q := 458) (av := [_, _, _]) (rest := []) i_LA5_455 rfl (e_LA5_455) ⟨rfl, rfl⟩ rfl rfl ?_
  rw [am_V_iff]
  refine ⟨⟨_, sg_50⟩, hk.1, ?_⟩
  refine xs_r1 rfl (xs_n rfl ?_)
  refine xs_istore (q := 460) (ls2 := [_, _, _, _, _, _, _]) i_LA5_458 rfl rfl rfl (xs_n rfl ?_)
  refine xs_aload_n (q := 461) i_LA5_460 rfl rfl (xs_n rfl ?_)
  refine xs_cv (q := 464) (av := [_]) (rest := []) i_LA5_461 rfl (e_LA5_461) ⟨rfl, rfl⟩ rfl rfl ?_
  rw [am_V_iff]
  refine ⟨⟨_, sg_50⟩, rfl, ?_⟩
  dsimp only [g_MO_thrown, g_id]
  refine xs_r1 rfl (xs_n rfl ?_)
  refine xs_iload (q := 466) i_LA5_464 rfl rfl (xs_n rfl ?_)
  refine xs_ic_eq (q := 471) (r := 469) i_LA5_466 rfl rfl ⟨am_eqR2 hk.2.2.1 hk.2.1, hk.2.1⟩ (fun h466 => (xs_n rfl ?_)) (fun h466 => (xs_n rfl ?_))
  · refine xs_iload (q := 473) i_LA5_471 rfl rfl (xs_n rfl ?_)
    refine xs_if_ne (q := 488) (r := 476) i_LA5_473 rfl rfl hk.2.1 (fun h473 => (xs_n rfl ?_)) (fun h473 => (xs_n rfl ?_))
    · refine xs_goto (q := 886) i_LA5_488 rfl (xs_z rfl ?_)
      refine xq_z rfl ?_
      exact ⟨rfl, rfl, ⟨_, _, rfl⟩, hk.2.2.2.1⟩
    · refine xs_aload_n (q := 477) i_LA5_476 rfl rfl (xs_n rfl ?_)
      refine xs_iconst (q := 478) i_LA5_477 rfl (xs_z rfl ?_)
      refine xq_laload rfl i_LA5_478 sg_78 (⟨Int.le_refl 0, by decide⟩) (xs_n rfl ?_)
      refine xs_iload (q := 481) i_LA5_479 rfl rfl (xs_z rfl ?_)
      refine xq_i2l rfl i_LA5_481 (xs_z rfl ?_)
      refine xq_lcmp rfl i_LA5_482 (⟨am_eqR (hk.2.2.2.2 h473), am_wr_R _⟩) (xs_n rfl ?_)
      refine xs_if_eq (q := 488) (r := 486) i_LA5_483 rfl rfl (am_cR _ _) (fun h483 => (xs_n rfl ?_)) (fun h483 => (xs_n rfl ?_))
      · refine xs_goto (q := 886) i_LA5_488 rfl (xs_z rfl ?_)
        refine xq_z rfl ?_
        exact ⟨rfl, rfl, ⟨_, _, rfl⟩, hk.2.2.2.1⟩
      · exact (h483 (if_pos (hk.2.2.2.2 h473))).elim
  · exact absurd hk.2.2.1 h466
def lk_early : Prop := ∀ (M : am_M) (a b : Int), lw_I M M → am_R a → am_R b → P_MO_early [.inr (.inl 50), .inl a, .inl b] (g_LW_early [.inr (.inl 0), .inl a, .inl b] M) ∧ am_R (cd_SD_early [.inr (.inl 0), .inl a, .inl b] M) ∧ (g_MO_early [.inr (.inl 50), .inl a, .inl b] (g_LW_early [.inr (.inl 0), .inl a, .inl b] M)) 50 0 = cd_SD_early [.inr (.inl 0), .inl a, .inl b] M ∧ lw_I (g_MO_early [.inr (.inl 50), .inl a, .inl b] (g_LW_early [.inr (.inl 0), .inl a, .inl b] M)) (g_MO_early [.inr (.inl 50), .inl a, .inl b] (g_LW_early [.inr (.inl 0), .inl a, .inl b] M))
def ct_LA6 : am_T := fun pc => if pc = 522 then some (3, am_ctV vw_S 11 P_MO_early (am_po f_MO_early g_MO_early)) else if pc = 526 then some (1, am_ctV vw_S 11 P_MO_thrown (am_po f_MO_thrown g_MO_thrown)) else none
theorem e_LA6_522 : ct_LA6 522 = some (3, am_ctV vw_S 11 P_MO_early (am_po f_MO_early g_MO_early)) := rfl
theorem e_LA6_526 : ct_LA6 526 = some (1, am_ctV vw_S 11 P_MO_thrown (am_po f_MO_thrown g_MO_thrown)) := rfl
theorem ctk_LA6 (F : la_F p s m args c A D G ad L xs Ts) (h1 : cells ≤ room_1.cells ∧ slots ≤ room_1.slots) : ∀ pc q ct, ct_LA6 pc = some (q, ct) → am_C p l e room_1 s m args below meth c s.heap A cells slots Q D vw_cl G ad vw_S 7 pc q ct := by
  intro pc q ct h
  unfold ct_LA6 at h
  split at h
  · rename_i hpc
    subst hpc; cases h
    exact am_callV F.1 vw_N_ok F.2.2.1 F.2.2.2.1 F.2.2.2.2.1 h1 (m_MO_early l) (s_LW_99 F.1.2.2.2.2 F.2.1 F.2.2.2.1 ⟨by decide, by decide⟩) (by rfl) d_LA6_522
  split at h
  · rename_i hpc
    subst hpc; cases h
    exact am_callV F.1 vw_N_ok F.2.2.1 F.2.2.2.1 F.2.2.2.2.1 h1 (m_MO_thrown l) (s_LW_74 F.1.2.2.2.2 F.2.1 F.2.2.2.1 ⟨by decide, by decide⟩) (by rfl) d_LA6_526
  cases h
set_option maxHeartbeats 2000000 in
theorem arm_early (hfl : l.flags = flags0) (hlk : lk_early) (F : la_F p s m args c A D G ad L xs Ts) (hi : 0 ≤ i ∧ i + 5 ≤ L) (hM : lw_I M M) (hcR : cells + 1 ≤ room_1.cells ∧ slots + 6 ≤ room_1.slots) (hZ : ∀ pc ls st M', la_T i pc ls st M' → am_A p l e room_1 s m args below meth c s.heap A (cells + 1) (slots + 6) Q D vw_cl G ad vw_S 7 pc ls st M') : am_A p l e room_1 s m args below meth c s.heap A cells slots Q D vw_cl G ad vw_S 7 491 [some (.inr (.inl am_scr)), some (.inr (.inl 0)), some (.inr (.inl 50)), some (.inr (.inl 78)), some (.inl i), none, none] [] M := by
  have hk := hlk M (xs (i + 1).toNat) (xs (i + 2).toNat) hM (la_R F _) (la_R F _)
  refine la_arm (sq := fun pc => false) (sq2 := fun pc => pc == 886) (pcH := 504) F i_LA6_ok (m_LW_early l hfl) (hw_LW_early F.1.2.2.2.2 F.2.1 ⟨by decide, by decide⟩) d_LA6_504 hcR (ctk_LA6 F hcR) hZ ?_
  refine xs_aload_n (q := 492) i_LA6_491 rfl rfl (xs_n rfl ?_)
  refine xs_aload_n (q := 493) i_LA6_492 rfl rfl (xs_n rfl ?_)
  refine xs_iload (q := 495) i_LA6_493 rfl rfl (xs_n rfl ?_)
  refine xs_iconst (q := 496) i_LA6_495 rfl (xs_n rfl ?_)
  refine xs_iadd (q := 497) i_LA6_496 rfl (xs_n rfl ?_)
  refine xs_scr (q := 498) i_LA6_497 rfl (by omega) (xs_n rfl ?_)
  refine xs_aload_n (q := 499) i_LA6_498 rfl rfl (xs_n rfl ?_)
  refine xs_iload (q := 501) i_LA6_499 rfl rfl (xs_n rfl ?_)
  refine xs_iconst (q := 502) i_LA6_501 rfl (xs_n rfl ?_)
  refine xs_iadd (q := 503) i_LA6_502 rfl (xs_n rfl ?_)
  refine xs_scr (q := 504) i_LA6_503 rfl (by omega) (xs_z rfl ?_)
  refine ⟨rfl, rfl, ⟨Nat.le_of_ble_eq_true rfl, Nat.le_of_ble_eq_true rfl⟩, ⟨rfl, ⟨rfl, ⟨la_R F _, la_R F _⟩, ⟨_, hM⟩⟩⟩, ?_⟩
  show am_nx _ _ _ _ _ _ _ _ _ _ _ _ (g_LW_early [.inr (.inl 0), .inl (xs (i + 1).toNat), .inl (xs (i + 2).toNat)] M)
  refine hp_r1 (rest := []) (v := cd_SD_early [.inr (.inl 0), .inl (xs (i + 1).toNat), .inl (xs (i + 2).toNat)] M) rfl (xs_n rfl ?_)
  refine xs_istore (q := 509) (ls2 := [_, _, _, _, _, _, _]) i_LA6_507 rfl rfl rfl (xs_n rfl ?_)
  refine xs_aload_n (q := 510) i_LA6_509 rfl rfl (xs_n rfl ?_)
  refine xs_aload_n (q := 511) i_LA6_510 rfl rfl (xs_n rfl ?_)
  refine xs_iload (q := 513) i_LA6_511 rfl rfl (xs_n rfl ?_)
  refine xs_iconst (q := 514) i_LA6_513 rfl (xs_n rfl ?_)
  refine xs_iadd (q := 515) i_LA6_514 rfl (xs_n rfl ?_)
  refine xs_scr (q := 516) i_LA6_515 rfl (by omega) (xs_n rfl ?_)
  refine xs_aload_n (q := 517) i_LA6_516 rfl rfl (xs_n rfl ?_)
  refine xs_iload (q := 519) i_LA6_517 rfl rfl (xs_n rfl ?_)
  refine xs_iconst (q := 520) i_LA6_519 rfl (xs_n rfl ?_)
  refine xs_iadd (q := 521) i_LA6_520 rfl (xs_n rfl ?_)
  refine xs_scr (q := 522) i_LA6_521 rfl (by omega) (xs_n rfl ?_)
  refine xs_cv (q := 525) (av := [_, _, _]) (rest := []) i_LA6_522 rfl (e_LA6_522) ⟨rfl, rfl⟩ rfl rfl ?_
  rw [am_V_iff]
  refine ⟨⟨_, sg_50⟩, hk.1, ?_⟩
  refine xs_r0 rfl (xs_n rfl ?_)
  refine xs_aload_n (q := 526) i_LA6_525 rfl rfl (xs_n rfl ?_)
  refine xs_cv (q := 529) (av := [_]) (rest := []) i_LA6_526 rfl (e_LA6_526) ⟨rfl, rfl⟩ rfl rfl ?_
  rw [am_V_iff]
  refine ⟨⟨_, sg_50⟩, rfl, ?_⟩
  dsimp only [g_MO_thrown, g_id]
  refine xs_r1 rfl (xs_n rfl ?_)
  refine xs_iload (q := 531) i_LA6_529 rfl rfl (xs_n rfl ?_)
  refine xs_ic_eq (q := 536) (r := 534) i_LA6_531 rfl rfl ⟨am_eqR2 hk.2.2.1 hk.2.1, hk.2.1⟩ (fun h531 => (xs_n rfl ?_)) (fun h531 => (xs_n rfl ?_))
  · refine xs_goto (q := 886) i_LA6_536 rfl (xs_z rfl ?_)
    refine xq_z rfl ?_
    exact ⟨rfl, rfl, ⟨_, _, rfl⟩, hk.2.2.2⟩
  · exact absurd hk.2.2.1 h531
def lk_ended : Prop := ∀ (M : am_M) (a : Int), lw_I M M → am_R a → P_MO_ended [.inr (.inl 50), .inl a] (g_LW_ended [.inr (.inl 0), .inl a, .inr (.inl 78)] M) ∧ am_R (cd_SD_ended [.inr (.inl 0), .inl a] M) ∧ (g_MO_ended [.inr (.inl 50), .inl a] (g_LW_ended [.inr (.inl 0), .inl a, .inr (.inl 78)] M)) 50 0 = cd_SD_ended [.inr (.inl 0), .inl a] M ∧ lw_I (g_MO_ended [.inr (.inl 50), .inl a] (g_LW_ended [.inr (.inl 0), .inl a, .inr (.inl 78)] M)) (g_MO_ended [.inr (.inl 50), .inl a] (g_LW_ended [.inr (.inl 0), .inl a, .inr (.inl 78)] M)) ∧ (cd_SD_ended [.inr (.inl 0), .inl a] M = 0 → (g_MO_ended [.inr (.inl 50), .inl a] (g_LW_ended [.inr (.inl 0), .inl a, .inr (.inl 78)] M)) 78 0 = am_wr (hp_v (f_MO_ended [.inr (.inl 50), .inl a] (g_LW_ended [.inr (.inl 0), .inl a, .inr (.inl 78)] M))))
def ct_LA7 : am_T := fun pc => if pc = 559 then some (2, am_ctV vw_S 11 P_MO_ended (am_po f_MO_ended g_MO_ended)) else if pc = 565 then some (1, am_ctV vw_S 11 P_MO_thrown (am_po f_MO_thrown g_MO_thrown)) else none
theorem e_LA7_559 : ct_LA7 559 = some (2, am_ctV vw_S 11 P_MO_ended (am_po f_MO_ended g_MO_ended)) := rfl
theorem e_LA7_565 : ct_LA7 565 = some (1, am_ctV vw_S 11 P_MO_thrown (am_po f_MO_thrown g_MO_thrown)) := rfl
theorem ctk_LA7 (F : la_F p s m args c A D G ad L xs Ts) (h1 : cells ≤ room_1.cells ∧ slots ≤ room_1.slots) : ∀ pc q ct, ct_LA7 pc = some (q, ct) → am_C p l e room_1 s m args below meth c s.heap A cells slots Q D vw_cl G ad vw_S 7 pc q ct := by
  intro pc q ct h
  unfold ct_LA7 at h
  split at h
  · rename_i hpc
    subst hpc; cases h
    exact am_callV F.1 vw_N_ok F.2.2.1 F.2.2.2.1 F.2.2.2.2.1 h1 (m_MO_ended l) (s_LW_102 F.1.2.2.2.2 F.2.1 F.2.2.2.1 ⟨by decide, by decide⟩) (by rfl) d_LA7_559
  split at h
  · rename_i hpc
    subst hpc; cases h
    exact am_callV F.1 vw_N_ok F.2.2.1 F.2.2.2.1 F.2.2.2.2.1 h1 (m_MO_thrown l) (s_LW_74 F.1.2.2.2.2 F.2.1 F.2.2.2.1 ⟨by decide, by decide⟩) (by rfl) d_LA7_565
  cases h
set_option maxHeartbeats 2000000 in
theorem arm_ended (hfl : l.flags = flags0) (hlk : lk_ended) (F : la_F p s m args c A D G ad L xs Ts) (hi : 0 ≤ i ∧ i + 5 ≤ L) (hM : lw_I M M) (hcR : cells + 1 ≤ room_1.cells ∧ slots + 6 ≤ room_1.slots) (hZ : ∀ pc ls st M', la_T i pc ls st M' → am_A p l e room_1 s m args below meth c s.heap A (cells + 1) (slots + 6) Q D vw_cl G ad vw_S 7 pc ls st M') : am_A p l e room_1 s m args below meth c s.heap A cells slots Q D vw_cl G ad vw_S 7 539 [some (.inr (.inl am_scr)), some (.inr (.inl 0)), some (.inr (.inl 50)), some (.inr (.inl 78)), some (.inl i), none, none] [] M := by
  have hk := hlk M (xs (i + 1).toNat) hM (la_R F _)
  refine la_arm (sq := fun pc => pc == 582 || pc == 585 || pc == 586) (sq2 := fun pc => pc == 582 || pc == 585 || pc == 586 || pc == 886) (pcH := 547) F i_LA7_ok (m_LW_ended l hfl) (hw_LW_ended F.1.2.2.2.2 F.2.1 ⟨by decide, by decide⟩) d_LA7_547 hcR (ctk_LA7 F hcR) hZ ?_
  refine xs_aload_n (q := 540) i_LA7_539 rfl rfl (xs_n rfl ?_)
  refine xs_aload_n (q := 541) i_LA7_540 rfl rfl (xs_n rfl ?_)
  refine xs_iload (q := 543) i_LA7_541 rfl rfl (xs_n rfl ?_)
  refine xs_iconst (q := 544) i_LA7_543 rfl (xs_n rfl ?_)
  refine xs_iadd (q := 545) i_LA7_544 rfl (xs_n rfl ?_)
  refine xs_scr (q := 546) i_LA7_545 rfl (by omega) (xs_n rfl ?_)
  refine xs_aload_n (q := 547) i_LA7_546 rfl rfl (xs_z rfl ?_)
  refine ⟨rfl, rfl, ⟨Nat.le_of_ble_eq_true rfl, Nat.le_of_ble_eq_true rfl⟩, ⟨rfl, rfl, ⟨rfl, la_R F _, ⟨_, hM⟩⟩⟩, ?_⟩
  show am_nx _ _ _ _ _ _ _ _ _ _ _ _ (g_LW_ended [.inr (.inl 0), .inl (xs (i + 1).toNat), .inr (.inl 78)] M)
  refine hp_r1 (rest := []) (v := cd_SD_ended [.inr (.inl 0), .inl (xs (i + 1).toNat)] M) rfl (xs_n rfl ?_)
  refine xs_istore (q := 552) (ls2 := [_, _, _, _, _, _, _]) i_LA7_550 rfl rfl rfl (xs_n rfl ?_)
  refine xs_aload_n (q := 553) i_LA7_552 rfl rfl (xs_n rfl ?_)
  refine xs_aload_n (q := 554) i_LA7_553 rfl rfl (xs_n rfl ?_)
  refine xs_iload (q := 556) i_LA7_554 rfl rfl (xs_n rfl ?_)
  refine xs_iconst (q := 557) i_LA7_556 rfl (xs_n rfl ?_)
  refine xs_iadd (q := 558) i_LA7_557 rfl (xs_n rfl ?_)
  refine xs_scr (q := 559) i_LA7_558 rfl (by omega) (xs_n rfl ?_)
  refine xs_cv (q := 562) (av := [_, _]) (rest := []) i_LA7_559 rfl (e_LA7_559) ⟨rfl, rfl⟩ rfl rfl ?_
  rw [am_V_iff]
  refine ⟨⟨_, sg_50⟩, hk.1, ?_⟩
  refine xs_r1 rfl (xs_n rfl ?_)
  refine xs_istore (q := 564) (ls2 := [_, _, _, _, _, _, _]) i_LA7_562 rfl rfl rfl (xs_n rfl ?_)
  refine xs_aload_n (q := 565) i_LA7_564 rfl rfl (xs_n rfl ?_)
  refine xs_cv (q := 568) (av := [_]) (rest := []) i_LA7_565 rfl (e_LA7_565) ⟨rfl, rfl⟩ rfl rfl ?_
  rw [am_V_iff]
  refine ⟨⟨_, sg_50⟩, rfl, ?_⟩
  dsimp only [g_MO_thrown, g_id]
  refine xs_r1 rfl (xs_n rfl ?_)
  refine xs_iload (q := 570) i_LA7_568 rfl rfl (xs_n rfl ?_)
  refine xs_ic_eq (q := 575) (r := 573) i_LA7_570 rfl rfl ⟨am_eqR2 hk.2.2.1 hk.2.1, hk.2.1⟩ (fun h570 => (xs_n rfl ?_)) (fun h570 => (xs_n rfl ?_))
  · refine xs_iload (q := 577) i_LA7_575 rfl rfl (xs_n rfl ?_)
    refine xs_if_ne (q := 592) (r := 580) i_LA7_577 rfl rfl hk.2.1 (fun h577 => (xs_n rfl ?_)) (fun h577 => (xs_n rfl ?_))
    · refine xs_goto (q := 886) i_LA7_592 rfl (xs_z rfl ?_)
      refine xq_z rfl ?_
      exact ⟨rfl, rfl, ⟨_, _, rfl⟩, hk.2.2.2.1⟩
    · refine xs_aload_n (q := 581) i_LA7_580 rfl rfl (xs_n rfl ?_)
      refine xs_iconst (q := 582) i_LA7_581 rfl (xs_z rfl ?_)
      refine xq_laload rfl i_LA7_582 sg_78 (⟨Int.le_refl 0, by decide⟩) (xs_n rfl ?_)
      refine xs_iload (q := 585) i_LA7_583 rfl rfl (xs_z rfl ?_)
      refine xq_i2l rfl i_LA7_585 (xs_z rfl ?_)
      refine xq_lcmp rfl i_LA7_586 (⟨am_eqR (hk.2.2.2.2 h577), am_wr_R _⟩) (xs_n rfl ?_)
      refine xs_if_eq (q := 592) (r := 590) i_LA7_587 rfl rfl (am_cR _ _) (fun h587 => (xs_n rfl ?_)) (fun h587 => (xs_n rfl ?_))
      · refine xs_goto (q := 886) i_LA7_592 rfl (xs_z rfl ?_)
        refine xq_z rfl ?_
        exact ⟨rfl, rfl, ⟨_, _, rfl⟩, hk.2.2.2.1⟩
      · exact (h587 (if_pos (hk.2.2.2.2 h577))).elim
  · exact absurd hk.2.2.1 h570
def lk_slack : Prop := ∀ (M : am_M), lw_I M M → P_MO_slack [.inr (.inl 50)] (g_LW_slack [.inr (.inl 0), .inr (.inl 78)] M) ∧ am_R (cd_SD_slack [.inr (.inl 0)] M) ∧ (g_MO_slack [.inr (.inl 50)] (g_LW_slack [.inr (.inl 0), .inr (.inl 78)] M)) 50 0 = cd_SD_slack [.inr (.inl 0)] M ∧ lw_I (g_MO_slack [.inr (.inl 50)] (g_LW_slack [.inr (.inl 0), .inr (.inl 78)] M)) (g_MO_slack [.inr (.inl 50)] (g_LW_slack [.inr (.inl 0), .inr (.inl 78)] M)) ∧ (cd_SD_slack [.inr (.inl 0)] M = 0 → (g_MO_slack [.inr (.inl 50)] (g_LW_slack [.inr (.inl 0), .inr (.inl 78)] M)) 78 0 = am_wr (hp_v (f_MO_slack [.inr (.inl 50)] (g_LW_slack [.inr (.inl 0), .inr (.inl 78)] M))))
def ct_LA8 : am_T := fun pc => if pc = 603 then some (1, am_ctV vw_S 11 P_MO_slack (am_po f_MO_slack g_MO_slack)) else if pc = 609 then some (1, am_ctV vw_S 11 P_MO_thrown (am_po f_MO_thrown g_MO_thrown)) else none
theorem e_LA8_603 : ct_LA8 603 = some (1, am_ctV vw_S 11 P_MO_slack (am_po f_MO_slack g_MO_slack)) := rfl
theorem e_LA8_609 : ct_LA8 609 = some (1, am_ctV vw_S 11 P_MO_thrown (am_po f_MO_thrown g_MO_thrown)) := rfl
theorem ctk_LA8 (F : la_F p s m args c A D G ad L xs Ts) (h1 : cells ≤ room_1.cells ∧ slots ≤ room_1.slots) : ∀ pc q ct, ct_LA8 pc = some (q, ct) → am_C p l e room_1 s m args below meth c s.heap A cells slots Q D vw_cl G ad vw_S 7 pc q ct := by
  intro pc q ct h
  unfold ct_LA8 at h
  split at h
  · rename_i hpc
    subst hpc; cases h
    exact am_callV F.1 vw_N_ok F.2.2.1 F.2.2.2.1 F.2.2.2.2.1 h1 (m_MO_slack l) (s_LW_106 F.1.2.2.2.2 F.2.1 F.2.2.2.1 ⟨by decide, by decide⟩) (by rfl) d_LA8_603
  split at h
  · rename_i hpc
    subst hpc; cases h
    exact am_callV F.1 vw_N_ok F.2.2.1 F.2.2.2.1 F.2.2.2.2.1 h1 (m_MO_thrown l) (s_LW_74 F.1.2.2.2.2 F.2.1 F.2.2.2.1 ⟨by decide, by decide⟩) (by rfl) d_LA8_609
  cases h
set_option maxHeartbeats 2000000 in
theorem arm_slack (hfl : l.flags = flags0) (hlk : lk_slack) (F : la_F p s m args c A D G ad L xs Ts) (hi : 0 ≤ i ∧ i + 5 ≤ L) (hM : lw_I M M) (hcR : cells + 1 ≤ room_1.cells ∧ slots + 6 ≤ room_1.slots) (hZ : ∀ pc ls st M', la_T i pc ls st M' → am_A p l e room_1 s m args below meth c s.heap A (cells + 1) (slots + 6) Q D vw_cl G ad vw_S 7 pc ls st M') : am_A p l e room_1 s m args below meth c s.heap A cells slots Q D vw_cl G ad vw_S 7 595 [some (.inr (.inl am_scr)), some (.inr (.inl 0)), some (.inr (.inl 50)), some (.inr (.inl 78)), some (.inl i), none, none] [] M := by
  have hk := hlk M hM
  refine la_arm (sq := fun pc => pc == 626 || pc == 629 || pc == 630) (sq2 := fun pc => pc == 626 || pc == 629 || pc == 630 || pc == 886) (pcH := 597) F i_LA8_ok (m_LW_slack l hfl) (hw_LW_slack F.1.2.2.2.2 F.2.1 ⟨by decide, by decide⟩) d_LA8_597 hcR (ctk_LA8 F hcR) hZ ?_
  refine xs_aload_n (q := 596) i_LA8_595 rfl rfl (xs_n rfl ?_)
  refine xs_aload_n (q := 597) i_LA8_596 rfl rfl (xs_z rfl ?_)
  refine ⟨rfl, rfl, ⟨Nat.le_of_ble_eq_true rfl, Nat.le_of_ble_eq_true rfl⟩, ⟨rfl, rfl, ⟨rfl, ⟨_, hM⟩⟩⟩, ?_⟩
  show am_nx _ _ _ _ _ _ _ _ _ _ _ _ (g_LW_slack [.inr (.inl 0), .inr (.inl 78)] M)
  refine hp_r1 (rest := []) (v := cd_SD_slack [.inr (.inl 0)] M) rfl (xs_n rfl ?_)
  refine xs_istore (q := 602) (ls2 := [_, _, _, _, _, _, _]) i_LA8_600 rfl rfl rfl (xs_n rfl ?_)
  refine xs_aload_n (q := 603) i_LA8_602 rfl rfl (xs_n rfl ?_)
  refine xs_cv (q := 606) (av := [_]) (rest := []) i_LA8_603 rfl (e_LA8_603) ⟨rfl, rfl⟩ rfl rfl ?_
  rw [am_V_iff]
  refine ⟨⟨_, sg_50⟩, hk.1, ?_⟩
  refine xs_r1 rfl (xs_n rfl ?_)
  refine xs_istore (q := 608) (ls2 := [_, _, _, _, _, _, _]) i_LA8_606 rfl rfl rfl (xs_n rfl ?_)
  refine xs_aload_n (q := 609) i_LA8_608 rfl rfl (xs_n rfl ?_)
  refine xs_cv (q := 612) (av := [_]) (rest := []) i_LA8_609 rfl (e_LA8_609) ⟨rfl, rfl⟩ rfl rfl ?_
  rw [am_V_iff]
  refine ⟨⟨_, sg_50⟩, rfl, ?_⟩
  dsimp only [g_MO_thrown, g_id]
  refine xs_r1 rfl (xs_n rfl ?_)
  refine xs_iload (q := 614) i_LA8_612 rfl rfl (xs_n rfl ?_)
  refine xs_ic_eq (q := 619) (r := 617) i_LA8_614 rfl rfl ⟨am_eqR2 hk.2.2.1 hk.2.1, hk.2.1⟩ (fun h614 => (xs_n rfl ?_)) (fun h614 => (xs_n rfl ?_))
  · refine xs_iload (q := 621) i_LA8_619 rfl rfl (xs_n rfl ?_)
    refine xs_if_ne (q := 636) (r := 624) i_LA8_621 rfl rfl hk.2.1 (fun h621 => (xs_n rfl ?_)) (fun h621 => (xs_n rfl ?_))
    · refine xs_goto (q := 886) i_LA8_636 rfl (xs_z rfl ?_)
      refine xq_z rfl ?_
      exact ⟨rfl, rfl, ⟨_, _, rfl⟩, hk.2.2.2.1⟩
    · refine xs_aload_n (q := 625) i_LA8_624 rfl rfl (xs_n rfl ?_)
      refine xs_iconst (q := 626) i_LA8_625 rfl (xs_z rfl ?_)
      refine xq_laload rfl i_LA8_626 sg_78 (⟨Int.le_refl 0, by decide⟩) (xs_n rfl ?_)
      refine xs_iload (q := 629) i_LA8_627 rfl rfl (xs_z rfl ?_)
      refine xq_i2l rfl i_LA8_629 (xs_z rfl ?_)
      refine xq_lcmp rfl i_LA8_630 (⟨am_eqR (hk.2.2.2.2 h621), am_wr_R _⟩) (xs_n rfl ?_)
      refine xs_if_eq (q := 636) (r := 634) i_LA8_631 rfl rfl (am_cR _ _) (fun h631 => (xs_n rfl ?_)) (fun h631 => (xs_n rfl ?_))
      · refine xs_goto (q := 886) i_LA8_636 rfl (xs_z rfl ?_)
        refine xq_z rfl ?_
        exact ⟨rfl, rfl, ⟨_, _, rfl⟩, hk.2.2.2.1⟩
      · exact (h631 (if_pos (hk.2.2.2.2 h621))).elim
  · exact absurd hk.2.2.1 h614
def lk_trace : Prop := ∀ (M : am_M) (a : Int), lw_I M M → am_R a → P_MO_trace [.inr (.inl 50), .inl a] (g_LW_trace [.inr (.inl 0), .inl a, .inr (.inl 78)] M) ∧ am_R (cd_SD_trace [.inr (.inl 0), .inl a] M) ∧ (g_MO_trace [.inr (.inl 50), .inl a] (g_LW_trace [.inr (.inl 0), .inl a, .inr (.inl 78)] M)) 50 0 = cd_SD_trace [.inr (.inl 0), .inl a] M ∧ lw_I (g_MO_trace [.inr (.inl 50), .inl a] (g_LW_trace [.inr (.inl 0), .inl a, .inr (.inl 78)] M)) (g_MO_trace [.inr (.inl 50), .inl a] (g_LW_trace [.inr (.inl 0), .inl a, .inr (.inl 78)] M)) ∧ (cd_SD_trace [.inr (.inl 0), .inl a] M = 0 → (g_MO_trace [.inr (.inl 50), .inl a] (g_LW_trace [.inr (.inl 0), .inl a, .inr (.inl 78)] M)) 78 0 = am_wr (hp_v (f_MO_trace [.inr (.inl 50), .inl a] (g_LW_trace [.inr (.inl 0), .inl a, .inr (.inl 78)] M))))
def ct_LA9 : am_T := fun pc => if pc = 659 then some (2, am_ctV vw_S 11 P_MO_trace (am_po f_MO_trace g_MO_trace)) else if pc = 665 then some (1, am_ctV vw_S 11 P_MO_thrown (am_po f_MO_thrown g_MO_thrown)) else none
theorem e_LA9_659 : ct_LA9 659 = some (2, am_ctV vw_S 11 P_MO_trace (am_po f_MO_trace g_MO_trace)) := rfl
theorem e_LA9_665 : ct_LA9 665 = some (1, am_ctV vw_S 11 P_MO_thrown (am_po f_MO_thrown g_MO_thrown)) := rfl
theorem ctk_LA9 (F : la_F p s m args c A D G ad L xs Ts) (h1 : cells ≤ room_1.cells ∧ slots ≤ room_1.slots) : ∀ pc q ct, ct_LA9 pc = some (q, ct) → am_C p l e room_1 s m args below meth c s.heap A cells slots Q D vw_cl G ad vw_S 7 pc q ct := by
  intro pc q ct h
  unfold ct_LA9 at h
  split at h
  · rename_i hpc
    subst hpc; cases h
    exact am_callV F.1 vw_N_ok F.2.2.1 F.2.2.2.1 F.2.2.2.2.1 h1 (m_MO_trace l) (s_LW_109 F.1.2.2.2.2 F.2.1 F.2.2.2.1 ⟨by decide, by decide⟩) (by rfl) d_LA9_659
  split at h
  · rename_i hpc
    subst hpc; cases h
    exact am_callV F.1 vw_N_ok F.2.2.1 F.2.2.2.1 F.2.2.2.2.1 h1 (m_MO_thrown l) (s_LW_74 F.1.2.2.2.2 F.2.1 F.2.2.2.1 ⟨by decide, by decide⟩) (by rfl) d_LA9_665
  cases h
set_option maxHeartbeats 2000000 in
theorem arm_trace (hfl : l.flags = flags0) (hlk : lk_trace) (F : la_F p s m args c A D G ad L xs Ts) (hi : 0 ≤ i ∧ i + 5 ≤ L) (hM : lw_I M M) (hcR : cells + 1 ≤ room_1.cells ∧ slots + 6 ≤ room_1.slots) (hZ : ∀ pc ls st M', la_T i pc ls st M' → am_A p l e room_1 s m args below meth c s.heap A (cells + 1) (slots + 6) Q D vw_cl G ad vw_S 7 pc ls st M') : am_A p l e room_1 s m args below meth c s.heap A cells slots Q D vw_cl G ad vw_S 7 639 [some (.inr (.inl am_scr)), some (.inr (.inl 0)), some (.inr (.inl 50)), some (.inr (.inl 78)), some (.inl i), none, none] [] M := by
  have hk := hlk M (xs (i + 1).toNat) hM (la_R F _)
  refine la_arm (sq := fun pc => pc == 682 || pc == 685 || pc == 686) (sq2 := fun pc => pc == 682 || pc == 685 || pc == 686 || pc == 886) (pcH := 647) F i_LA9_ok (m_LW_trace l hfl) (hw_LW_trace F.1.2.2.2.2 F.2.1 ⟨by decide, by decide⟩) d_LA9_647 hcR (ctk_LA9 F hcR) hZ ?_
  refine xs_aload_n (q := 640) i_LA9_639 rfl rfl (xs_n rfl ?_)
  refine xs_aload_n (q := 641) i_LA9_640 rfl rfl (xs_n rfl ?_)
  refine xs_iload (q := 643) i_LA9_641 rfl rfl (xs_n rfl ?_)
  refine xs_iconst (q := 644) i_LA9_643 rfl (xs_n rfl ?_)
  refine xs_iadd (q := 645) i_LA9_644 rfl (xs_n rfl ?_)
  refine xs_scr (q := 646) i_LA9_645 rfl (by omega) (xs_n rfl ?_)
  refine xs_aload_n (q := 647) i_LA9_646 rfl rfl (xs_z rfl ?_)
  refine ⟨rfl, rfl, ⟨Nat.le_of_ble_eq_true rfl, Nat.le_of_ble_eq_true rfl⟩, ⟨rfl, rfl, ⟨rfl, la_R F _, ⟨_, hM⟩⟩⟩, ?_⟩
  show am_nx _ _ _ _ _ _ _ _ _ _ _ _ (g_LW_trace [.inr (.inl 0), .inl (xs (i + 1).toNat), .inr (.inl 78)] M)
  refine hp_r1 (rest := []) (v := cd_SD_trace [.inr (.inl 0), .inl (xs (i + 1).toNat)] M) rfl (xs_n rfl ?_)
  refine xs_istore (q := 652) (ls2 := [_, _, _, _, _, _, _]) i_LA9_650 rfl rfl rfl (xs_n rfl ?_)
  refine xs_aload_n (q := 653) i_LA9_652 rfl rfl (xs_n rfl ?_)
  refine xs_aload_n (q := 654) i_LA9_653 rfl rfl (xs_n rfl ?_)
  refine xs_iload (q := 656) i_LA9_654 rfl rfl (xs_n rfl ?_)
  refine xs_iconst (q := 657) i_LA9_656 rfl (xs_n rfl ?_)
  refine xs_iadd (q := 658) i_LA9_657 rfl (xs_n rfl ?_)
  refine xs_scr (q := 659) i_LA9_658 rfl (by omega) (xs_n rfl ?_)
  refine xs_cv (q := 662) (av := [_, _]) (rest := []) i_LA9_659 rfl (e_LA9_659) ⟨rfl, rfl⟩ rfl rfl ?_
  rw [am_V_iff]
  refine ⟨⟨_, sg_50⟩, hk.1, ?_⟩
  refine xs_r1 rfl (xs_n rfl ?_)
  refine xs_istore (q := 664) (ls2 := [_, _, _, _, _, _, _]) i_LA9_662 rfl rfl rfl (xs_n rfl ?_)
  refine xs_aload_n (q := 665) i_LA9_664 rfl rfl (xs_n rfl ?_)
  refine xs_cv (q := 668) (av := [_]) (rest := []) i_LA9_665 rfl (e_LA9_665) ⟨rfl, rfl⟩ rfl rfl ?_
  rw [am_V_iff]
  refine ⟨⟨_, sg_50⟩, rfl, ?_⟩
  dsimp only [g_MO_thrown, g_id]
  refine xs_r1 rfl (xs_n rfl ?_)
  refine xs_iload (q := 670) i_LA9_668 rfl rfl (xs_n rfl ?_)
  refine xs_ic_eq (q := 675) (r := 673) i_LA9_670 rfl rfl ⟨am_eqR2 hk.2.2.1 hk.2.1, hk.2.1⟩ (fun h670 => (xs_n rfl ?_)) (fun h670 => (xs_n rfl ?_))
  · refine xs_iload (q := 677) i_LA9_675 rfl rfl (xs_n rfl ?_)
    refine xs_if_ne (q := 692) (r := 680) i_LA9_677 rfl rfl hk.2.1 (fun h677 => (xs_n rfl ?_)) (fun h677 => (xs_n rfl ?_))
    · refine xs_goto (q := 886) i_LA9_692 rfl (xs_z rfl ?_)
      refine xq_z rfl ?_
      exact ⟨rfl, rfl, ⟨_, _, rfl⟩, hk.2.2.2.1⟩
    · refine xs_aload_n (q := 681) i_LA9_680 rfl rfl (xs_n rfl ?_)
      refine xs_iconst (q := 682) i_LA9_681 rfl (xs_z rfl ?_)
      refine xq_laload rfl i_LA9_682 sg_78 (⟨Int.le_refl 0, by decide⟩) (xs_n rfl ?_)
      refine xs_iload (q := 685) i_LA9_683 rfl rfl (xs_z rfl ?_)
      refine xq_i2l rfl i_LA9_685 (xs_z rfl ?_)
      refine xq_lcmp rfl i_LA9_686 (⟨am_eqR (hk.2.2.2.2 h677), am_wr_R _⟩) (xs_n rfl ?_)
      refine xs_if_eq (q := 692) (r := 690) i_LA9_687 rfl rfl (am_cR _ _) (fun h687 => (xs_n rfl ?_)) (fun h687 => (xs_n rfl ?_))
      · refine xs_goto (q := 886) i_LA9_692 rfl (xs_z rfl ?_)
        refine xq_z rfl ?_
        exact ⟨rfl, rfl, ⟨_, _, rfl⟩, hk.2.2.2.1⟩
      · exact (h687 (if_pos (hk.2.2.2.2 h677))).elim
  · exact absurd hk.2.2.1 h670
def lk_served : Prop := ∀ (M : am_M) (a b : Int), lw_I M M → am_R a → am_R b → P_MO_served [.inr (.inl 50), .inl a, .inl b] (g_LW_served [.inr (.inl 0), .inl a, .inl b, .inr (.inl 78)] M) ∧ am_R (cd_SD_served [.inr (.inl 0), .inl a, .inl b] M) ∧ (g_MO_served [.inr (.inl 50), .inl a, .inl b] (g_LW_served [.inr (.inl 0), .inl a, .inl b, .inr (.inl 78)] M)) 50 0 = cd_SD_served [.inr (.inl 0), .inl a, .inl b] M ∧ lw_I (g_MO_served [.inr (.inl 50), .inl a, .inl b] (g_LW_served [.inr (.inl 0), .inl a, .inl b, .inr (.inl 78)] M)) (g_MO_served [.inr (.inl 50), .inl a, .inl b] (g_LW_served [.inr (.inl 0), .inl a, .inl b, .inr (.inl 78)] M)) ∧ (cd_SD_served [.inr (.inl 0), .inl a, .inl b] M = 0 → (g_MO_served [.inr (.inl 50), .inl a, .inl b] (g_LW_served [.inr (.inl 0), .inl a, .inl b, .inr (.inl 78)] M)) 78 0 = am_wr (hp_v (f_MO_served [.inr (.inl 50), .inl a, .inl b] (g_LW_served [.inr (.inl 0), .inl a, .inl b, .inr (.inl 78)] M))))
def ct_LA10 : am_T := fun pc => if pc = 727 then some (3, am_ctV vw_S 11 P_MO_served (am_po f_MO_served g_MO_served)) else if pc = 733 then some (1, am_ctV vw_S 11 P_MO_thrown (am_po f_MO_thrown g_MO_thrown)) else none
theorem e_LA10_727 : ct_LA10 727 = some (3, am_ctV vw_S 11 P_MO_served (am_po f_MO_served g_MO_served)) := rfl
theorem e_LA10_733 : ct_LA10 733 = some (1, am_ctV vw_S 11 P_MO_thrown (am_po f_MO_thrown g_MO_thrown)) := rfl
theorem ctk_LA10 (F : la_F p s m args c A D G ad L xs Ts) (h1 : cells ≤ room_1.cells ∧ slots ≤ room_1.slots) : ∀ pc q ct, ct_LA10 pc = some (q, ct) → am_C p l e room_1 s m args below meth c s.heap A cells slots Q D vw_cl G ad vw_S 7 pc q ct := by
  intro pc q ct h
  unfold ct_LA10 at h
  split at h
  · rename_i hpc
    subst hpc; cases h
    exact am_callV F.1 vw_N_ok F.2.2.1 F.2.2.2.1 F.2.2.2.2.1 h1 (m_MO_served l) (s_LW_112 F.1.2.2.2.2 F.2.1 F.2.2.2.1 ⟨by decide, by decide⟩) (by rfl) d_LA10_727
  split at h
  · rename_i hpc
    subst hpc; cases h
    exact am_callV F.1 vw_N_ok F.2.2.1 F.2.2.2.1 F.2.2.2.2.1 h1 (m_MO_thrown l) (s_LW_74 F.1.2.2.2.2 F.2.1 F.2.2.2.1 ⟨by decide, by decide⟩) (by rfl) d_LA10_733
  cases h
set_option maxHeartbeats 2000000 in
theorem arm_served (hfl : l.flags = flags0) (hlk : lk_served) (F : la_F p s m args c A D G ad L xs Ts) (hi : 0 ≤ i ∧ i + 5 ≤ L) (hM : lw_I M M) (hcR : cells + 1 ≤ room_1.cells ∧ slots + 6 ≤ room_1.slots) (hZ : ∀ pc ls st M', la_T i pc ls st M' → am_A p l e room_1 s m args below meth c s.heap A (cells + 1) (slots + 6) Q D vw_cl G ad vw_S 7 pc ls st M') : am_A p l e room_1 s m args below meth c s.heap A cells slots Q D vw_cl G ad vw_S 7 695 [some (.inr (.inl am_scr)), some (.inr (.inl 0)), some (.inr (.inl 50)), some (.inr (.inl 78)), some (.inl i), none, none] [] M := by
  have hk := hlk M (xs (i + 1).toNat) (xs (i + 2).toNat) hM (la_R F _) (la_R F _)
  refine la_arm (sq := fun pc => pc == 750 || pc == 753 || pc == 754) (sq2 := fun pc => pc == 750 || pc == 753 || pc == 754 || pc == 886) (pcH := 709) F i_LA10_ok (m_LW_served l hfl) (hw_LW_served F.1.2.2.2.2 F.2.1 ⟨by decide, by decide⟩) d_LA10_709 hcR (ctk_LA10 F hcR) hZ ?_
  refine xs_aload_n (q := 696) i_LA10_695 rfl rfl (xs_n rfl ?_)
  refine xs_aload_n (q := 697) i_LA10_696 rfl rfl (xs_n rfl ?_)
  refine xs_iload (q := 699) i_LA10_697 rfl rfl (xs_n rfl ?_)
  refine xs_iconst (q := 700) i_LA10_699 rfl (xs_n rfl ?_)
  refine xs_iadd (q := 701) i_LA10_700 rfl (xs_n rfl ?_)
  refine xs_scr (q := 702) i_LA10_701 rfl (by omega) (xs_n rfl ?_)
  refine xs_aload_n (q := 703) i_LA10_702 rfl rfl (xs_n rfl ?_)
  refine xs_iload (q := 705) i_LA10_703 rfl rfl (xs_n rfl ?_)
  refine xs_iconst (q := 706) i_LA10_705 rfl (xs_n rfl ?_)
  refine xs_iadd (q := 707) i_LA10_706 rfl (xs_n rfl ?_)
  refine xs_scr (q := 708) i_LA10_707 rfl (by omega) (xs_n rfl ?_)
  refine xs_aload_n (q := 709) i_LA10_708 rfl rfl (xs_z rfl ?_)
  refine ⟨rfl, rfl, ⟨Nat.le_of_ble_eq_true rfl, Nat.le_of_ble_eq_true rfl⟩, ⟨rfl, rfl, ⟨rfl, ⟨la_R F _, la_R F _⟩, ⟨_, hM⟩⟩⟩, ?_⟩
  show am_nx _ _ _ _ _ _ _ _ _ _ _ _ (g_LW_served [.inr (.inl 0), .inl (xs (i + 1).toNat), .inl (xs (i + 2).toNat), .inr (.inl 78)] M)
  refine hp_r1 (rest := []) (v := cd_SD_served [.inr (.inl 0), .inl (xs (i + 1).toNat), .inl (xs (i + 2).toNat)] M) rfl (xs_n rfl ?_)
  refine xs_istore (q := 714) (ls2 := [_, _, _, _, _, _, _]) i_LA10_712 rfl rfl rfl (xs_n rfl ?_)
  refine xs_aload_n (q := 715) i_LA10_714 rfl rfl (xs_n rfl ?_)
  refine xs_aload_n (q := 716) i_LA10_715 rfl rfl (xs_n rfl ?_)
  refine xs_iload (q := 718) i_LA10_716 rfl rfl (xs_n rfl ?_)
  refine xs_iconst (q := 719) i_LA10_718 rfl (xs_n rfl ?_)
  refine xs_iadd (q := 720) i_LA10_719 rfl (xs_n rfl ?_)
  refine xs_scr (q := 721) i_LA10_720 rfl (by omega) (xs_n rfl ?_)
  refine xs_aload_n (q := 722) i_LA10_721 rfl rfl (xs_n rfl ?_)
  refine xs_iload (q := 724) i_LA10_722 rfl rfl (xs_n rfl ?_)
  refine xs_iconst (q := 725) i_LA10_724 rfl (xs_n rfl ?_)
  refine xs_iadd (q := 726) i_LA10_725 rfl (xs_n rfl ?_)
  refine xs_scr (q := 727) i_LA10_726 rfl (by omega) (xs_n rfl ?_)
  refine xs_cv (q := 730) (av := [_, _, _]) (rest := []) i_LA10_727 rfl (e_LA10_727) ⟨rfl, rfl⟩ rfl rfl ?_
  rw [am_V_iff]
  refine ⟨⟨_, sg_50⟩, hk.1, ?_⟩
  refine xs_r1 rfl (xs_n rfl ?_)
  refine xs_istore (q := 732) (ls2 := [_, _, _, _, _, _, _]) i_LA10_730 rfl rfl rfl (xs_n rfl ?_)
  refine xs_aload_n (q := 733) i_LA10_732 rfl rfl (xs_n rfl ?_)
  refine xs_cv (q := 736) (av := [_]) (rest := []) i_LA10_733 rfl (e_LA10_733) ⟨rfl, rfl⟩ rfl rfl ?_
  rw [am_V_iff]
  refine ⟨⟨_, sg_50⟩, rfl, ?_⟩
  dsimp only [g_MO_thrown, g_id]
  refine xs_r1 rfl (xs_n rfl ?_)
  refine xs_iload (q := 738) i_LA10_736 rfl rfl (xs_n rfl ?_)
  refine xs_ic_eq (q := 743) (r := 741) i_LA10_738 rfl rfl ⟨am_eqR2 hk.2.2.1 hk.2.1, hk.2.1⟩ (fun h738 => (xs_n rfl ?_)) (fun h738 => (xs_n rfl ?_))
  · refine xs_iload (q := 745) i_LA10_743 rfl rfl (xs_n rfl ?_)
    refine xs_if_ne (q := 760) (r := 748) i_LA10_745 rfl rfl hk.2.1 (fun h745 => (xs_n rfl ?_)) (fun h745 => (xs_n rfl ?_))
    · refine xs_goto (q := 886) i_LA10_760 rfl (xs_z rfl ?_)
      refine xq_z rfl ?_
      exact ⟨rfl, rfl, ⟨_, _, rfl⟩, hk.2.2.2.1⟩
    · refine xs_aload_n (q := 749) i_LA10_748 rfl rfl (xs_n rfl ?_)
      refine xs_iconst (q := 750) i_LA10_749 rfl (xs_z rfl ?_)
      refine xq_laload rfl i_LA10_750 sg_78 (⟨Int.le_refl 0, by decide⟩) (xs_n rfl ?_)
      refine xs_iload (q := 753) i_LA10_751 rfl rfl (xs_z rfl ?_)
      refine xq_i2l rfl i_LA10_753 (xs_z rfl ?_)
      refine xq_lcmp rfl i_LA10_754 (⟨am_eqR (hk.2.2.2.2 h745), am_wr_R _⟩) (xs_n rfl ?_)
      refine xs_if_eq (q := 760) (r := 758) i_LA10_755 rfl rfl (am_cR _ _) (fun h755 => (xs_n rfl ?_)) (fun h755 => (xs_n rfl ?_))
      · refine xs_goto (q := 886) i_LA10_760 rfl (xs_z rfl ?_)
        refine xq_z rfl ?_
        exact ⟨rfl, rfl, ⟨_, _, rfl⟩, hk.2.2.2.1⟩
      · exact (h755 (if_pos (hk.2.2.2.2 h745))).elim
  · exact absurd hk.2.2.1 h738
def lk_replay : Prop := ∀ (M : am_M) (a : Int), lw_I M M → am_R a → P_MO_replay [.inr (.inl 50), .inl a] (g_LW_replay [.inr (.inl 0), .inl a, .inr (.inl 78)] M) ∧ am_R (cd_SD_replay [.inr (.inl 0), .inl a] M) ∧ (g_MO_replay [.inr (.inl 50), .inl a] (g_LW_replay [.inr (.inl 0), .inl a, .inr (.inl 78)] M)) 50 0 = cd_SD_replay [.inr (.inl 0), .inl a] M ∧ lw_I (g_MO_replay [.inr (.inl 50), .inl a] (g_LW_replay [.inr (.inl 0), .inl a, .inr (.inl 78)] M)) (g_MO_replay [.inr (.inl 50), .inl a] (g_LW_replay [.inr (.inl 0), .inl a, .inr (.inl 78)] M)) ∧ (cd_SD_replay [.inr (.inl 0), .inl a] M = 0 → (g_MO_replay [.inr (.inl 50), .inl a] (g_LW_replay [.inr (.inl 0), .inl a, .inr (.inl 78)] M)) 78 0 = am_wr (hp_v (f_MO_replay [.inr (.inl 50), .inl a] (g_LW_replay [.inr (.inl 0), .inl a, .inr (.inl 78)] M))))
def ct_LA11 : am_T := fun pc => if pc = 783 then some (2, am_ctV vw_S 11 P_MO_replay (am_po f_MO_replay g_MO_replay)) else if pc = 789 then some (1, am_ctV vw_S 11 P_MO_thrown (am_po f_MO_thrown g_MO_thrown)) else none
theorem e_LA11_783 : ct_LA11 783 = some (2, am_ctV vw_S 11 P_MO_replay (am_po f_MO_replay g_MO_replay)) := rfl
theorem e_LA11_789 : ct_LA11 789 = some (1, am_ctV vw_S 11 P_MO_thrown (am_po f_MO_thrown g_MO_thrown)) := rfl
theorem ctk_LA11 (F : la_F p s m args c A D G ad L xs Ts) (h1 : cells ≤ room_1.cells ∧ slots ≤ room_1.slots) : ∀ pc q ct, ct_LA11 pc = some (q, ct) → am_C p l e room_1 s m args below meth c s.heap A cells slots Q D vw_cl G ad vw_S 7 pc q ct := by
  intro pc q ct h
  unfold ct_LA11 at h
  split at h
  · rename_i hpc
    subst hpc; cases h
    exact am_callV F.1 vw_N_ok F.2.2.1 F.2.2.2.1 F.2.2.2.2.1 h1 (m_MO_replay l) (s_LW_115 F.1.2.2.2.2 F.2.1 F.2.2.2.1 ⟨by decide, by decide⟩) (by rfl) d_LA11_783
  split at h
  · rename_i hpc
    subst hpc; cases h
    exact am_callV F.1 vw_N_ok F.2.2.1 F.2.2.2.1 F.2.2.2.2.1 h1 (m_MO_thrown l) (s_LW_74 F.1.2.2.2.2 F.2.1 F.2.2.2.1 ⟨by decide, by decide⟩) (by rfl) d_LA11_789
  cases h
set_option maxHeartbeats 2000000 in
theorem arm_replay (hfl : l.flags = flags0) (hlk : lk_replay) (F : la_F p s m args c A D G ad L xs Ts) (hi : 0 ≤ i ∧ i + 5 ≤ L) (hM : lw_I M M) (hcR : cells + 1 ≤ room_1.cells ∧ slots + 6 ≤ room_1.slots) (hZ : ∀ pc ls st M', la_T i pc ls st M' → am_A p l e room_1 s m args below meth c s.heap A (cells + 1) (slots + 6) Q D vw_cl G ad vw_S 7 pc ls st M') : am_A p l e room_1 s m args below meth c s.heap A cells slots Q D vw_cl G ad vw_S 7 763 [some (.inr (.inl am_scr)), some (.inr (.inl 0)), some (.inr (.inl 50)), some (.inr (.inl 78)), some (.inl i), none, none] [] M := by
  have hk := hlk M (xs (i + 1).toNat) hM (la_R F _)
  refine la_arm (sq := fun pc => pc == 806 || pc == 809 || pc == 810) (sq2 := fun pc => pc == 806 || pc == 809 || pc == 810 || pc == 886) (pcH := 771) F i_LA11_ok (m_LW_replay l hfl) (hw_LW_replay F.1.2.2.2.2 F.2.1 ⟨by decide, by decide⟩) d_LA11_771 hcR (ctk_LA11 F hcR) hZ ?_
  refine xs_aload_n (q := 764) i_LA11_763 rfl rfl (xs_n rfl ?_)
  refine xs_aload_n (q := 765) i_LA11_764 rfl rfl (xs_n rfl ?_)
  refine xs_iload (q := 767) i_LA11_765 rfl rfl (xs_n rfl ?_)
  refine xs_iconst (q := 768) i_LA11_767 rfl (xs_n rfl ?_)
  refine xs_iadd (q := 769) i_LA11_768 rfl (xs_n rfl ?_)
  refine xs_scr (q := 770) i_LA11_769 rfl (by omega) (xs_n rfl ?_)
  refine xs_aload_n (q := 771) i_LA11_770 rfl rfl (xs_z rfl ?_)
  refine ⟨rfl, rfl, ⟨Nat.le_of_ble_eq_true rfl, Nat.le_of_ble_eq_true rfl⟩, ⟨rfl, rfl, ⟨rfl, la_R F _, ⟨_, hM⟩⟩⟩, ?_⟩
  show am_nx _ _ _ _ _ _ _ _ _ _ _ _ (g_LW_replay [.inr (.inl 0), .inl (xs (i + 1).toNat), .inr (.inl 78)] M)
  refine hp_r1 (rest := []) (v := cd_SD_replay [.inr (.inl 0), .inl (xs (i + 1).toNat)] M) rfl (xs_n rfl ?_)
  refine xs_istore (q := 776) (ls2 := [_, _, _, _, _, _, _]) i_LA11_774 rfl rfl rfl (xs_n rfl ?_)
  refine xs_aload_n (q := 777) i_LA11_776 rfl rfl (xs_n rfl ?_)
  refine xs_aload_n (q := 778) i_LA11_777 rfl rfl (xs_n rfl ?_)
  refine xs_iload (q := 780) i_LA11_778 rfl rfl (xs_n rfl ?_)
  refine xs_iconst (q := 781) i_LA11_780 rfl (xs_n rfl ?_)
  refine xs_iadd (q := 782) i_LA11_781 rfl (xs_n rfl ?_)
  refine xs_scr (q := 783) i_LA11_782 rfl (by omega) (xs_n rfl ?_)
  refine xs_cv (q := 786) (av := [_, _]) (rest := []) i_LA11_783 rfl (e_LA11_783) ⟨rfl, rfl⟩ rfl rfl ?_
  rw [am_V_iff]
  refine ⟨⟨_, sg_50⟩, hk.1, ?_⟩
  refine xs_r1 rfl (xs_n rfl ?_)
  refine xs_istore (q := 788) (ls2 := [_, _, _, _, _, _, _]) i_LA11_786 rfl rfl rfl (xs_n rfl ?_)
  refine xs_aload_n (q := 789) i_LA11_788 rfl rfl (xs_n rfl ?_)
  refine xs_cv (q := 792) (av := [_]) (rest := []) i_LA11_789 rfl (e_LA11_789) ⟨rfl, rfl⟩ rfl rfl ?_
  rw [am_V_iff]
  refine ⟨⟨_, sg_50⟩, rfl, ?_⟩
  dsimp only [g_MO_thrown, g_id]
  refine xs_r1 rfl (xs_n rfl ?_)
  refine xs_iload (q := 794) i_LA11_792 rfl rfl (xs_n rfl ?_)
  refine xs_ic_eq (q := 799) (r := 797) i_LA11_794 rfl rfl ⟨am_eqR2 hk.2.2.1 hk.2.1, hk.2.1⟩ (fun h794 => (xs_n rfl ?_)) (fun h794 => (xs_n rfl ?_))
  · refine xs_iload (q := 801) i_LA11_799 rfl rfl (xs_n rfl ?_)
    refine xs_if_ne (q := 816) (r := 804) i_LA11_801 rfl rfl hk.2.1 (fun h801 => (xs_n rfl ?_)) (fun h801 => (xs_n rfl ?_))
    · refine xs_goto (q := 886) i_LA11_816 rfl (xs_z rfl ?_)
      refine xq_z rfl ?_
      exact ⟨rfl, rfl, ⟨_, _, rfl⟩, hk.2.2.2.1⟩
    · refine xs_aload_n (q := 805) i_LA11_804 rfl rfl (xs_n rfl ?_)
      refine xs_iconst (q := 806) i_LA11_805 rfl (xs_z rfl ?_)
      refine xq_laload rfl i_LA11_806 sg_78 (⟨Int.le_refl 0, by decide⟩) (xs_n rfl ?_)
      refine xs_iload (q := 809) i_LA11_807 rfl rfl (xs_z rfl ?_)
      refine xq_i2l rfl i_LA11_809 (xs_z rfl ?_)
      refine xq_lcmp rfl i_LA11_810 (⟨am_eqR (hk.2.2.2.2 h801), am_wr_R _⟩) (xs_n rfl ?_)
      refine xs_if_eq (q := 816) (r := 814) i_LA11_811 rfl rfl (am_cR _ _) (fun h811 => (xs_n rfl ?_)) (fun h811 => (xs_n rfl ?_))
      · refine xs_goto (q := 886) i_LA11_816 rfl (xs_z rfl ?_)
        refine xq_z rfl ?_
        exact ⟨rfl, rfl, ⟨_, _, rfl⟩, hk.2.2.2.1⟩
      · exact (h811 (if_pos (hk.2.2.2.2 h801))).elim
  · exact absurd hk.2.2.1 h794
def lk_state : Prop := ∀ (M : am_M) (a : Int), lw_I M M → am_R a → P_MO_state [.inr (.inl 50), .inl a] (g_LW_state [.inr (.inl 0), .inl a, .inr (.inl 78)] M) ∧ am_R (cd_SD_state [.inr (.inl 0), .inl a] M) ∧ (g_MO_state [.inr (.inl 50), .inl a] (g_LW_state [.inr (.inl 0), .inl a, .inr (.inl 78)] M)) 50 0 = cd_SD_state [.inr (.inl 0), .inl a] M ∧ lw_I (g_MO_state [.inr (.inl 50), .inl a] (g_LW_state [.inr (.inl 0), .inl a, .inr (.inl 78)] M)) (g_MO_state [.inr (.inl 50), .inl a] (g_LW_state [.inr (.inl 0), .inl a, .inr (.inl 78)] M)) ∧ (cd_SD_state [.inr (.inl 0), .inl a] M = 0 → (g_MO_state [.inr (.inl 50), .inl a] (g_LW_state [.inr (.inl 0), .inl a, .inr (.inl 78)] M)) 78 0 = am_wr (hp_v (f_MO_state [.inr (.inl 50), .inl a] (g_LW_state [.inr (.inl 0), .inl a, .inr (.inl 78)] M))))
def ct_LA12 : am_T := fun pc => if pc = 839 then some (2, am_ctV vw_S 11 P_MO_state (am_po f_MO_state g_MO_state)) else if pc = 845 then some (1, am_ctV vw_S 11 P_MO_thrown (am_po f_MO_thrown g_MO_thrown)) else none
theorem e_LA12_839 : ct_LA12 839 = some (2, am_ctV vw_S 11 P_MO_state (am_po f_MO_state g_MO_state)) := rfl
theorem e_LA12_845 : ct_LA12 845 = some (1, am_ctV vw_S 11 P_MO_thrown (am_po f_MO_thrown g_MO_thrown)) := rfl
theorem ctk_LA12 (F : la_F p s m args c A D G ad L xs Ts) (h1 : cells ≤ room_1.cells ∧ slots ≤ room_1.slots) : ∀ pc q ct, ct_LA12 pc = some (q, ct) → am_C p l e room_1 s m args below meth c s.heap A cells slots Q D vw_cl G ad vw_S 7 pc q ct := by
  intro pc q ct h
  unfold ct_LA12 at h
  split at h
  · rename_i hpc
    subst hpc; cases h
    exact am_callV F.1 vw_N_ok F.2.2.1 F.2.2.2.1 F.2.2.2.2.1 h1 (m_MO_state l) (s_LW_118 F.1.2.2.2.2 F.2.1 F.2.2.2.1 ⟨by decide, by decide⟩) (by rfl) d_LA12_839
  split at h
  · rename_i hpc
    subst hpc; cases h
    exact am_callV F.1 vw_N_ok F.2.2.1 F.2.2.2.1 F.2.2.2.2.1 h1 (m_MO_thrown l) (s_LW_74 F.1.2.2.2.2 F.2.1 F.2.2.2.1 ⟨by decide, by decide⟩) (by rfl) d_LA12_845
  cases h
set_option maxHeartbeats 2000000 in
theorem arm_state (hfl : l.flags = flags0) (hlk : lk_state) (F : la_F p s m args c A D G ad L xs Ts) (hi : 0 ≤ i ∧ i + 5 ≤ L) (hM : lw_I M M) (hcR : cells + 1 ≤ room_1.cells ∧ slots + 6 ≤ room_1.slots) (hZ : ∀ pc ls st M', la_T i pc ls st M' → am_A p l e room_1 s m args below meth c s.heap A (cells + 1) (slots + 6) Q D vw_cl G ad vw_S 7 pc ls st M') : am_A p l e room_1 s m args below meth c s.heap A cells slots Q D vw_cl G ad vw_S 7 819 [some (.inr (.inl am_scr)), some (.inr (.inl 0)), some (.inr (.inl 50)), some (.inr (.inl 78)), some (.inl i), none, none] [] M := by
  have hk := hlk M (xs (i + 1).toNat) hM (la_R F _)
  refine la_arm (sq := fun pc => pc == 862 || pc == 865 || pc == 866) (sq2 := fun pc => pc == 862 || pc == 865 || pc == 866 || pc == 886) (pcH := 827) F i_LA12_ok (m_LW_state l hfl) (hw_LW_state F.1.2.2.2.2 F.2.1 ⟨by decide, by decide⟩) d_LA12_827 hcR (ctk_LA12 F hcR) hZ ?_
  refine xs_aload_n (q := 820) i_LA12_819 rfl rfl (xs_n rfl ?_)
  refine xs_aload_n (q := 821) i_LA12_820 rfl rfl (xs_n rfl ?_)
  refine xs_iload (q := 823) i_LA12_821 rfl rfl (xs_n rfl ?_)
  refine xs_iconst (q := 824) i_LA12_823 rfl (xs_n rfl ?_)
  refine xs_iadd (q := 825) i_LA12_824 rfl (xs_n rfl ?_)
  refine xs_scr (q := 826) i_LA12_825 rfl (by omega) (xs_n rfl ?_)
  refine xs_aload_n (q := 827) i_LA12_826 rfl rfl (xs_z rfl ?_)
  refine ⟨rfl, rfl, ⟨Nat.le_of_ble_eq_true rfl, Nat.le_of_ble_eq_true rfl⟩, ⟨rfl, rfl, ⟨rfl, la_R F _, ⟨_, hM⟩⟩⟩, ?_⟩
  show am_nx _ _ _ _ _ _ _ _ _ _ _ _ (g_LW_state [.inr (.inl 0), .inl (xs (i + 1).toNat), .inr (.inl 78)] M)
  refine hp_r1 (rest := []) (v := cd_SD_state [.inr (.inl 0), .inl (xs (i + 1).toNat)] M) rfl (xs_n rfl ?_)
  refine xs_istore (q := 832) (ls2 := [_, _, _, _, _, _, _]) i_LA12_830 rfl rfl rfl (xs_n rfl ?_)
  refine xs_aload_n (q := 833) i_LA12_832 rfl rfl (xs_n rfl ?_)
  refine xs_aload_n (q := 834) i_LA12_833 rfl rfl (xs_n rfl ?_)
  refine xs_iload (q := 836) i_LA12_834 rfl rfl (xs_n rfl ?_)
  refine xs_iconst (q := 837) i_LA12_836 rfl (xs_n rfl ?_)
  refine xs_iadd (q := 838) i_LA12_837 rfl (xs_n rfl ?_)
  refine xs_scr (q := 839) i_LA12_838 rfl (by omega) (xs_n rfl ?_)
  refine xs_cv (q := 842) (av := [_, _]) (rest := []) i_LA12_839 rfl (e_LA12_839) ⟨rfl, rfl⟩ rfl rfl ?_
  rw [am_V_iff]
  refine ⟨⟨_, sg_50⟩, hk.1, ?_⟩
  refine xs_r1 rfl (xs_n rfl ?_)
  refine xs_istore (q := 844) (ls2 := [_, _, _, _, _, _, _]) i_LA12_842 rfl rfl rfl (xs_n rfl ?_)
  refine xs_aload_n (q := 845) i_LA12_844 rfl rfl (xs_n rfl ?_)
  refine xs_cv (q := 848) (av := [_]) (rest := []) i_LA12_845 rfl (e_LA12_845) ⟨rfl, rfl⟩ rfl rfl ?_
  rw [am_V_iff]
  refine ⟨⟨_, sg_50⟩, rfl, ?_⟩
  dsimp only [g_MO_thrown, g_id]
  refine xs_r1 rfl (xs_n rfl ?_)
  refine xs_iload (q := 850) i_LA12_848 rfl rfl (xs_n rfl ?_)
  refine xs_ic_eq (q := 855) (r := 853) i_LA12_850 rfl rfl ⟨am_eqR2 hk.2.2.1 hk.2.1, hk.2.1⟩ (fun h850 => (xs_n rfl ?_)) (fun h850 => (xs_n rfl ?_))
  · refine xs_iload (q := 857) i_LA12_855 rfl rfl (xs_n rfl ?_)
    refine xs_if_ne (q := 872) (r := 860) i_LA12_857 rfl rfl hk.2.1 (fun h857 => (xs_n rfl ?_)) (fun h857 => (xs_n rfl ?_))
    · refine xs_goto (q := 886) i_LA12_872 rfl (xs_z rfl ?_)
      refine xq_z rfl ?_
      exact ⟨rfl, rfl, ⟨_, _, rfl⟩, hk.2.2.2.1⟩
    · refine xs_aload_n (q := 861) i_LA12_860 rfl rfl (xs_n rfl ?_)
      refine xs_iconst (q := 862) i_LA12_861 rfl (xs_z rfl ?_)
      refine xq_laload rfl i_LA12_862 sg_78 (⟨Int.le_refl 0, by decide⟩) (xs_n rfl ?_)
      refine xs_iload (q := 865) i_LA12_863 rfl rfl (xs_z rfl ?_)
      refine xq_i2l rfl i_LA12_865 (xs_z rfl ?_)
      refine xq_lcmp rfl i_LA12_866 (⟨am_eqR (hk.2.2.2.2 h857), am_wr_R _⟩) (xs_n rfl ?_)
      refine xs_if_eq (q := 872) (r := 870) i_LA12_867 rfl rfl (am_cR _ _) (fun h867 => (xs_n rfl ?_)) (fun h867 => (xs_n rfl ?_))
      · refine xs_goto (q := 886) i_LA12_872 rfl (xs_z rfl ?_)
        refine xq_z rfl ?_
        exact ⟨rfl, rfl, ⟨_, _, rfl⟩, hk.2.2.2.1⟩
      · exact (h867 (if_pos (hk.2.2.2.2 h857))).elim
  · exact absurd hk.2.2.1 h850
end LA
