/-! the rule book alone: how its constructor clears it -/
def rb_S : List am_S := [.inr (2, [some 1, some 2, none]), .inl (0, 4), .inl (0, 4)]
theorem rb_0 : rb_S[0]? = some (.inr (2, [some 1, some 2, none])) := rfl
theorem rb_Sz : ∀ (id e n : Nat), rb_S[id]? = some (.inl (e, n)) → n < 2147483648 := by
  intro id e n h
  have h1 : (.inl (e, n) : am_S) ∈ rb_S := List.mem_of_getElem? h
  simp [rb_S] at h1
  omega
def rb_MF (l : Launch) (y : MethodName) (ws : List Jvm.Cond) (rm : Room) (P : am_P) (f : am_Fr) (g : am_Fm) : Prop := am_Met l y ws rm vw_cl rb_S vw_N P (am_po f g)
abbrev rb_CC (cc : ByteArray) (maxL : Nat) (ws : List Jvm.Cond) (own : String) (l : Launch) (rm : Room) (Ct : am_T) : Prop :=
  ∀ (p : Program) (e : Env) (s : State) (m : MethodId) (args : Array Value) (below : List Frame) (meth : Method) (c : Code) (H0 : Heap) (A : Nat → Prop) (D : va_G) (G : Nat → ClassId) (ad : Nat → Nat) (Q : State → Prop), CallFix p m c cc maxL s args ws own → va_K D vw_cl (am_ty G) s → (∀ w ∈ vw_N, va_Nw w s) → (∀ q, H0.size ≤ q → A q) → ∀ pc q ct, Ct pc = some (q, ct) → am_C p l e rm s m args below meth c H0 A 0 0 Q D vw_cl G ad rb_S maxL pc q ct
theorem rb_CC0 {cc : ByteArray} {maxL : Nat} {ws : List Jvm.Cond} {own : String} {l : Launch} {rm : Room} : rb_CC cc maxL ws own l rm am_none := by
  intro p e s m args below meth c H0 A D G ad Q _ _ _ _ pc q ct h
  cases h
/-- without a loop -/
theorem rb_mk0 {l : Launch} {y : MethodName} {rm : Room} {P : am_P} {f : am_Fr} {g : am_Fm} {cc : ByteArray} {maxL : Nat} {ret : Option FieldType} {Fd : Nat → Option (Nat × Nat × Nat)} {Ct : am_T} {I : Nat → Option (Instr × Nat)}
    (hI : ∀ pc i n, I pc = some (i, n) → decode cc pc = .ok (i, n))
    (hF : ∀ (args : Array Value) (s : State) {Ts : List Jvm.Cond}, (∀ w ∈ vw_W, w ∈ Ts) → (∀ w ∈ Ts, w.before args s = true) → (∀ w ∈ vw_N, va_Nw w s) → ∀ idx ci j q, Fd idx = some (ci, j, q) → am_FOK vw_cl y.cls args s Ts idx ci j q)
    (hC : rb_CC cc maxL (Jvm.Cond.code y cc maxL ret :: vw_W) y.cls l rm Ct)
    (hy : plainFor y = true) (hret : ret = none ∨ ret = some .int ∨ ret = some .boolean)
    (hL : ∀ av M, P av M → av.length ≤ maxL ∧ av.all am_c1 = true) (n : Nat)
    (hV : ∀ av M (Z : am_K), P av M → am_wp rb_S none Fd Ct (fun r M'' => am_po f g av M r M'' ∧ am_rt ret r) I (fun _ => false) Z n 0 (am_l0 av maxL) [] M) :
    rb_MF l y (Jvm.Cond.code y cc maxL ret :: vw_W) rm P f g := by
  refine am_mkF (cc := cc) (maxL := maxL) (ret := ret) (Fd := Fd) (Ct := Ct) (I := I) (sp := fun _ => false) hy rfl hret rb_Sz (fun args s h1 h2 => hF args s am_vW h1 h2) hC hI hL (fun av M h => ?_)
  refine ⟨fun μ pc ls st M' => pc = 0 ∧ ls = am_l0 av maxL ∧ st = [] ∧ M' = M, ⟨0, rfl, rfl, rfl, rfl⟩, ?_⟩
  rintro μ pc ls st M' ⟨rfl, rfl, rfl, rfl⟩
  exact ⟨n, hV av M' _ h⟩
/-- with loops: an invariant with a measure at the stops -/
theorem rb_mkL {l : Launch} {y : MethodName} {rm : Room} {P : am_P} {f : am_Fr} {g : am_Fm} {cc : ByteArray} {maxL : Nat} {ret : Option FieldType} {Fd : Nat → Option (Nat × Nat × Nat)} {Ct : am_T} {I : Nat → Option (Instr × Nat)} (sp : Nat → Bool)
    (hI : ∀ pc i n, I pc = some (i, n) → decode cc pc = .ok (i, n))
    (hF : ∀ (args : Array Value) (s : State) {Ts : List Jvm.Cond}, (∀ w ∈ vw_W, w ∈ Ts) → (∀ w ∈ Ts, w.before args s = true) → (∀ w ∈ vw_N, va_Nw w s) → ∀ idx ci j q, Fd idx = some (ci, j, q) → am_FOK vw_cl y.cls args s Ts idx ci j q)
    (hC : rb_CC cc maxL (Jvm.Cond.code y cc maxL ret :: vw_W) y.cls l rm Ct)
    (hy : plainFor y = true) (hret : ret = none ∨ ret = some .int ∨ ret = some .boolean)
    (hL : ∀ av M, P av M → av.length ≤ maxL ∧ av.all am_c1 = true) (n : Nat) (Inv : List am_V → am_M → Nat → am_K)
    (h0 : ∀ av M, P av M → ∃ μ, Inv av M μ 0 (am_l0 av maxL) [] M)
    (hV : ∀ av M, P av M → ∀ μ pc ls st M', Inv av M μ pc ls st M' → am_wp rb_S none Fd Ct (fun r M'' => am_po f g av M r M'' ∧ am_rt ret r) I sp (fun pc' ls' st' M'' => ∃ μ', μ' < μ ∧ Inv av M μ' pc' ls' st' M'') n pc ls st M') :
    rb_MF l y (Jvm.Cond.code y cc maxL ret :: vw_W) rm P f g :=
  am_mkF (cc := cc) (maxL := maxL) (ret := ret) (Fd := Fd) (Ct := Ct) (I := I) (sp := sp) hy rfl hret rb_Sz (fun args s h1 h2 => hF args s am_vW h1 h2) hC hI hL (fun av M h => ⟨Inv av M, h0 av M h, fun μ pc ls st M' hi => ⟨n, hV av M h μ pc ls st M' hi⟩⟩)
def P_3JA_fill : am_P := fun av M => match av with
  | [.inr (.inl id), .inl v] => id < 100 ∧ ∃ N, rb_S[id]? = some (.inl (0, N))
  | _ => False
def f_3JA_fill : am_Fr := fun av M => match av with
  | [.inr (.inl id), .inl v] => none
  | _ => none
def g_3JA_fill : am_Fm := fun av M => match av with
  | [.inr (.inl id), .inl v] => (match rb_S[id]? with
    | some (.inl (_, N)) => am_fill id N v M
    | _ => M)
  | _ => M
def inv_3JA_fill : List am_V → am_M → Nat → am_K := fun av M μ pc ls st M2 => match av with
  | [.inr (.inl id), .inl v] => (pc = 0 ∧ ls = am_l0 [.inr (.inl id), .inl v] 4 ∧ st = [] ∧ M = M2 ∧ μ = 1000000000000) ∨ ∃ (i : Int) (N : Nat), pc = 5 ∧ ls = [some (.inr (.inl id)), some (.inl v), some (.inl i), some (.inl (N : Int))] ∧ st = [] ∧ M2 = am_fill id i.toNat v M ∧ (rb_S[id]? = some (.inl (0, N)) ∧ 0 ≤ i ∧ i ≤ N) ∧ μ = (N - i).toNat
  | _ => False
theorem m_3JA_fill (l : Launch) : rb_MF l y_JA_fill w_JA_fill r_JA_fill P_3JA_fill f_3JA_fill g_3JA_fill := by
  refine rb_mkL (fun pc => pc == 5) i_JA_fill_ok fd_none_ok rb_CC0 (by decide +kernel) (by decide) ?_ 20 inv_3JA_fill ?_ ?_
  · intro av M h
    unfold P_3JA_fill at h
    split at h
    · exact ⟨Nat.le_of_ble_eq_true rfl, rfl⟩
    · exact h.elim
  · intro av M h
    unfold P_3JA_fill at h
    split at h
    · exact ⟨_, Or.inl ⟨rfl, rfl, rfl, rfl, rfl⟩⟩
    · exact h.elim
  · intro av M h μ pc ls st M2 hi
    unfold P_3JA_fill at h
    split at h
    · rename_i id v
      obtain ⟨h1, N, hN⟩ := h
      rcases hi with ⟨rfl, rfl, rfl, rfl, rfl⟩ | ⟨i, N, rfl, rfl, rfl, rfl, ⟨hN, hi0, hi1⟩, rfl⟩
      · skip
        refine xs_iconst (q := 1) i_JA_fill_0 rfl (xs_n rfl ?_)
        refine xs_istore_n (q := 2) (ls2 := [_, _, _, _]) i_JA_fill_1 rfl rfl rfl (xs_n rfl ?_)
        refine xs_aload_n (q := 3) i_JA_fill_2 rfl rfl (xs_n rfl ?_)
        refine xs_alen (q := 4) i_JA_fill_3 rfl hN (am_ns (by omega)) (xs_n rfl ?_)
        refine xs_istore_n (q := 5) (ls2 := [_, _, _, _]) i_JA_fill_4 rfl rfl rfl (xs_z rfl ?_)
        have hz := rb_Sz _ _ _ hN
        exact ⟨N, by omega, Or.inr ⟨0, N, rfl, rfl, rfl, (am_fill_0 _ _ _).symm, ⟨hN, by omega, by omega⟩, by omega⟩⟩
      · skip
        refine xs_iload_n (q := 6) i_JA_fill_5 rfl rfl (xs_n rfl ?_)
        refine xs_iload_n (q := 7) i_JA_fill_6 rfl rfl (xs_n rfl ?_)
        refine xs_ic_ge (q := 20) (r := 10) i_JA_fill_7 rfl rfl ⟨by have := rb_Sz _ _ _ hN; unfold am_R; omega, by have := rb_Sz _ _ _ hN; unfold am_R; omega⟩ (fun h7 => (xs_n rfl ?_)) (fun h7 => (xs_n rfl ?_))
        · refine xs_ret i_JA_fill_20 ?_
          exact xs_fin rfl (by simp only [g_3JA_fill]; rw [hN]; rw [show i.toNat = N by omega]) trivial
        · refine xs_aload_n (q := 11) i_JA_fill_10 rfl rfl (xs_n rfl ?_)
          refine xs_iload_n (q := 12) i_JA_fill_11 rfl rfl (xs_n rfl ?_)
          refine xs_iload_n (q := 13) i_JA_fill_12 rfl rfl (xs_n rfl ?_)
          refine xs_iastore (q := 14) i_JA_fill_13 rfl hN (by omega) (xs_n rfl ?_)
          refine xs_iinc (q := 17) (ls2 := [_, _, _, _]) i_JA_fill_14 rfl rfl rfl (xs_n rfl ?_)
          refine xs_goto (q := 5) i_JA_fill_17 rfl (xs_z rfl ?_)
          exact ⟨(N - (i + 1) : Int).toNat, by omega, Or.inr ⟨i + 1, N, rfl, rfl, rfl, by rw [am_fill_s, show (i + 1).toNat = i.toNat + 1 by omega], ⟨hN, by omega, by omega⟩, rfl⟩⟩
    · exact h.elim
def P_3RB_clear : am_P := fun av M => match av with
  | [.inr (.inl i)] => i = 0
  | _ => False
def f_3RB_clear : am_Fr := fun av M => match av with
  | [.inr (.inl i)] => none
  | _ => none
def g_3RB_clear : am_Fm := fun av M => match av with
  | [.inr (.inl i)] => am_up (am_fill 2 4 60 (am_fill 1 4 1 M)) 0 2 0
  | _ => M
def ct_3RB_clear : am_T := fun pc => if pc = 5 then some (2, am_ctS P_3JA_fill (am_po f_3JA_fill g_3JA_fill)) else if pc = 14 then some (2, am_ctS P_3JA_fill (am_po f_3JA_fill g_3JA_fill)) else none
theorem e_3RB_clear_5 : ct_3RB_clear 5 = some (2, am_ctS P_3JA_fill (am_po f_3JA_fill g_3JA_fill)) := rfl
theorem e_3RB_clear_14 : ct_3RB_clear 14 = some (2, am_ctS P_3JA_fill (am_po f_3JA_fill g_3JA_fill)) := rfl
theorem ct_3RB_clear_ok (l : Launch) : rb_CC b_RB_clear 1 w_RB_clear y_RB_clear.cls l r_RB_clear ct_3RB_clear := by
  intro p e s m args below meth c H0 A D G ad Q S hK hN hA pc q ct h
  have hts := S.2.2.2.2
  unfold ct_3RB_clear at h
  split at h
  · rename_i hpc
    subst hpc; cases h
    exact am_callS S vw_N_ok hK hN hA ⟨Nat.zero_le _, Nat.zero_le _⟩ (m_3JA_fill l) (s_RB_25 hts am_vW hN ⟨by decide, by decide⟩) d_RB_clear_5
  split at h
  · rename_i hpc
    subst hpc; cases h
    exact am_callS S vw_N_ok hK hN hA ⟨Nat.zero_le _, Nat.zero_le _⟩ (m_3JA_fill l) (s_RB_25 hts am_vW hN ⟨by decide, by decide⟩) d_RB_clear_14
  cases h
theorem m_3RB_clear (l : Launch) : rb_MF l y_RB_clear w_RB_clear r_RB_clear P_3RB_clear f_3RB_clear g_3RB_clear := by
  refine rb_mk0 i_RB_clear_ok fd_RB_ok (ct_3RB_clear_ok l) (plainFor_of_name (by decide +kernel)) (by decide) ?_ 16 ?_
  · intro av M h
    unfold P_3RB_clear at h
    split at h
    · exact ⟨Nat.le_of_ble_eq_true rfl, rfl⟩
    · exact h.elim
  · intro av M Z h
    unfold P_3RB_clear at h
    split at h
    · rename_i i
      subst h
      refine xs_aload_n (q := 1) i_RB_clear_0 rfl rfl (xs_n rfl ?_)
      refine xs_getr (q := 4) i_RB_clear_1 rfl fd_RB_9 rb_0 rfl (xs_n rfl ?_)
      refine xs_iconst (q := 5) i_RB_clear_4 rfl (xs_n rfl ?_)
      refine xs_cs (q := 8) i_RB_clear_5 rfl (e_3RB_clear_5) ⟨rfl, rfl⟩ rfl rfl ?_
      rw [am_S_iff]
      refine ⟨⟨by decide, 4, rfl⟩, ?_⟩
      refine xs_r0 rfl (xs_n rfl ?_)
      refine xs_aload_n (q := 9) i_RB_clear_8 rfl rfl (xs_n rfl ?_)
      refine xs_getr (q := 12) i_RB_clear_9 rfl fd_RB_15 rb_0 rfl (xs_n rfl ?_)
      refine xs_bipush (q := 14) i_RB_clear_12 rfl (by decide) (xs_n rfl ?_)
      refine xs_cs (q := 17) i_RB_clear_14 rfl (e_3RB_clear_14) ⟨rfl, rfl⟩ rfl rfl ?_
      rw [am_S_iff]
      refine ⟨⟨by decide, 4, rfl⟩, ?_⟩
      refine xs_r0 rfl (xs_n rfl ?_)
      refine xs_aload_n (q := 18) i_RB_clear_17 rfl rfl (xs_n rfl ?_)
      refine xs_iconst (q := 19) i_RB_clear_18 rfl (xs_n rfl ?_)
      refine xs_puti (q := 22) i_RB_clear_19 rfl fd_RB_18 rb_0 rfl (xs_n rfl ?_)
      refine xs_ret i_RB_clear_22 ?_
      exact xs_fin rfl rfl trivial
    · exact h.elim
def rb_M : am_M := g_3RB_clear [.inr (.inl 0)] (fun _ _ => 0)
theorem ct_clear {p : Program} {l : Launch} {e : Env} {R : Room} {s : State} {m : MethodId} {args : Array Value} {below : List Frame} {meth : Method} {c : Code} {A : Nat → Prop} {Q : State → Prop} {D : va_G} {G : Nat → ClassId} {cc : ByteArray} {Ts : List Jvm.Cond} {pc : Nat} {cells slots h0 q1 q2 : Nat} (F : ct_F p s m args c A D G 1 cc "ServerDesk$RuleBook" Ts) (hd : decode cc pc = .ok (.invokevirtual 22, 3)) (hR : r_RB_clear.frames + 1 ≤ R.frames ∧ 8 + (1 + 11) + r_RB_clear.locals ≤ R.locals) (hcR : cells ≤ R.cells ∧ slots ≤ R.slots)
    (K : ct_A p l e R s m args below meth c A Q D 1 (pc + 3) [(0, .ref h0)] [] [(h0, .inr (2, [.ref q1, .ref q2, .int (Int32.ofInt (rb_M 0 2))])), (q1, .inl (G 0, 4, .inl (fun j => Int32.ofInt (rb_M 1 j)))), (q2, .inl (G 0, 4, .inl (fun j => Int32.ofInt (rb_M 2 j))))] cells slots) :
    ct_A p l e R s m args below meth c A Q D 1 pc [(0, .ref h0)] [.ref h0] [(h0, .inr (2, [.ref q1, .ref q2, .int (Int32.ofInt 0)])), (q1, .inl (G 0, 4, .inl (fun _ => Int32.ofInt 0))), (q2, .inl (G 0, 4, .inl (fun _ => Int32.ofInt 0)))] cells slots := by
  intro H locs lsA hP hD hS hl
  have hC := am_callV (l := l) (e := e) (below := below) (meth := meth) (R := R) (Q := Q) (A := A) (H0 := s.heap) (cells := cells) (slots := slots) (ad := fun k => [h0, q1, q2].getD k 0) F.1 vw_N_ok F.2.2.1 F.2.2.2.1 F.2.2.2.2 hcR (m_3RB_clear l) (s_RB_22 F.1.2.2.2.2 F.2.1 F.2.2.2.1 hR) (ci := 2) rfl hd
  refine hC [some (.inr (.inl 0))] [.inr (.inl 0)] (fun _ _ => 0) (fun r M' => r = none ∧ M' = rb_M) (by decide) (by decide) ⟨⟨_, rb_0⟩, rfl, fun r M' h => h⟩ (fun r M' h => ?_) H locs lsA hP hD hS ⟨hl.1, hl.2.1, rfl, fun i v hi => ?_⟩
  · obtain ⟨rfl, rfl⟩ := h
    intro H locs lsA hP hD hS hH
    exact K H locs lsA hP hD hS hH.has
  · match i, hi with
    | 0, hi => cases hi; exact ⟨rfl, lv_at hl 0 rfl⟩
    | i + 1, hi => simp at hi
