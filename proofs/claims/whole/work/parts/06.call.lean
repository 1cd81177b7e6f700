/-- so many steps, or up to the next stop -/
def am_wp (Sg : List am_S) (Sc : Option (Nat × (Nat → Int))) (Fd : Nat → Option (Nat × Nat × Nat)) (Ct : am_T) (Zr : am_Z) (I : Nat → Option (Instr × Nat)) (sp : Nat → Bool) (Z : am_K) : Nat → am_K
  | 0 => Z
  | n + 1 => fun pc ls st M => match I pc with
    | some (i, len) => am_ex Sg Sc Fd Ct Zr (fun pc' ls' st' M' => if sp pc' = true then Z pc' ls' st' M' else am_wp Sg Sc Fd Ct Zr I sp Z n pc' ls' st' M') pc len ls st M i
    | none => False
def am_rt : Option FieldType → Option am_V → Prop
  | none, none => True
  | some .int, some (.inl _) => True
  | some .boolean, some (.inl x) => x = 0 ∨ x = 1
  | _, _ => False
def am_nw (nw : List Jvm.Cond) : Bool := nw.all (fun w => match w with
  | .fieldLinkNest .. => true
  | .methodLinkNest .. => true
  | _ => false)
theorem am_nw_warm {nw : List Jvm.Cond} (h : am_nw nw = true) {s U : State} (hW : s.WarmedH U.vm) (hN : ∀ w ∈ nw, va_Nw w s) : ∀ w ∈ nw, va_Nw w U := by
  intro w hw
  have h1 := List.all_eq_true.mp h w hw
  have h2 := hN w hw
  cases w
  case fieldLinkNest => exact va_Nw.warmF hW h2
  case methodLinkNest => exact va_Nw.warmM hW h2
  all_goals exact Bool.noConfusion h1
theorem am_nw_same {nw : List Jvm.Cond} (h : am_nw nw = true) {s U : State} (hv : s.vm = U.vm) (hN : ∀ w ∈ nw, va_Nw w s) : ∀ w ∈ nw, va_Nw w U := by
  intro w hw
  have h1 := List.all_eq_true.mp h w hw
  have h2 := hN w hw
  cases w
  case fieldLinkNest => exact va_Nw.same rfl hv h2
  case methodLinkNest => exact va_Nw.same rfl hv h2
  all_goals exact Bool.noConfusion h1
def am_B (D : va_G) (cl : List vw_C) (G : Nat → ClassId) (ad : Nat → Nat) (Sg : List am_S) (nw : List Jvm.Cond) (sz : Nat) (M : am_M) (U : State) : Prop :=
  U.heap.size = sz ∧ va_P D cl (am_w G ad M Sg) U.heap ∧ va_K D cl (am_ty G) U ∧ va_D (fun _ => True) (am_w G ad M Sg) ∧ ∀ w ∈ nw, va_Nw w U
def am_Q (D : va_G) (cl : List vw_C) (G : Nat → ClassId) (ad : Nat → Nat) (Sg : List am_S) (Post : am_Z) (A : Nat → Prop) : Array Value → State → Outcome → State → Prop := fun _ st oc t =>
  (∃ (r : Option am_V) (M' : am_M), oc = .returned (r.map (am_cv ad)) ∧ Post r M' ∧ va_P D cl (am_w G ad M' Sg) t.heap) ∧ va_F A st t
/-- a method's contract in the abstract machine's words -/
def am_Met (l : Launch) (y : MethodName) (ws : List Jvm.Cond) (rm : Room) (cl : List vw_C) (Sg : List am_S) (nw : List Jvm.Cond) (Pre : List am_V → am_M → Prop) (Post : List am_V → am_M → am_Z) : Prop :=
  ∀ (D : va_G) (G : Nat → ClassId) (ad : Nat → Nat) (sz : Nat) (M : am_M) (av : List am_V), Pre av M → Met l y ws rm (va_Pc (av.map (am_cv ad)) (am_B D cl G ad Sg nw sz M)) (am_Q D cl G ad Sg (Post av M) (va_A (am_w G ad M Sg) sz)) 0 0 (va_A (am_w G ad M Sg) sz)
theorem am_B_blind {D : va_G} {cl : List vw_C} {G : Nat → ClassId} {ad : Nat → Nat} {Sg : List am_S} {nw : List Jvm.Cond} (hnw : am_nw nw = true) {sz : Nat} {M : am_M} {av : List Value} : FrameBlind (va_Pc av (am_B D cl G ad Sg nw sz M)) := by
  intro a U g mk q
  obtain ⟨q0, q1, qP, qK, qD, qN⟩ := q
  exact ⟨q0, q1, qP, va_K.moved (u := U) (U := U.calling g mk a) (Vm.Alike.refl U.vm) qK, qD, am_nw_same hnw (s := U) (U := U.calling g mk a) rfl qN⟩
section AMW
variable {p : Program} {l : Launch} {e : Env} {R : Room} {s : State} {m : MethodId} {args : Array Value} {below : List Frame} {meth : Method} {c : Code} {H0 : Heap} {A : Nat → Prop} {cells slots : Nat} {Q : State → Prop} {D : va_G} {cl : List vw_C} {G : Nat → ClassId} {ad : Nat → Nat} {Sg : List am_S} {nL : Nat} {cc : ByteArray} {own : String} {Ts : List Jvm.Cond}
theorem am_wp_ok {Sc : Option (Nat × (Nat → Int))} {Fd : Nat → Option (Nat × Nat × Nat)} {Ct : am_T} {Zr : am_Z} {I : Nat → Option (Instr × Nat)} {sp : Nat → Bool} {Z : am_K}
    (hx : p.tables.exec = Jvm.exec) (hb : c.code = cc) (hown : s.vm.findClass own = some m.cls) (hts : ∀ w ∈ Ts, w.before args s = true) (hK : va_K D cl (am_ty G) s)
    (hSz : ∀ (id e n : Nat), Sg[id]? = some (.inl (e, n)) → n < 2147483648) (hF : ∀ idx ci j q, Fd idx = some (ci, j, q) → am_FOK cl own args s Ts idx ci j q)
    (hC : ∀ pc q ct, Ct pc = some (q, ct) → am_C p l e R s m args below meth c H0 A cells slots Q D cl G ad Sg nL pc q ct) (hE : am_E p l e R s m args below meth c H0 A cells slots Q D cl G ad Sg cc Zr)
    (hX : ∀ L xs, Sc = some (L, xs) → L < 2147483648 ∧ ∃ ys : Nat → Int32, va_X (ad am_scr) L ys s H0 ∧ ad am_scr < H0.size ∧ ¬ A (ad am_scr) ∧ ∀ j, xs j = (ys j).toInt)
    (hI : ∀ pc i n, I pc = some (i, n) → decode cc pc = .ok (i, n))
    (hZ : ∀ pc' ls' st' M', Z pc' ls' st' M' → am_A p l e R s m args below meth c H0 A cells slots Q D cl G ad Sg nL pc' ls' st' M') :
    ∀ (n pc : Nat) (ls : am_L) (st : List am_V) (M : am_M), am_wp Sg Sc Fd Ct Zr I sp Z n pc ls st M → am_A p l e R s m args below meth c H0 A cells slots Q D cl G ad Sg nL pc ls st M
  | 0, pc, ls, st, M, h => hZ pc ls st M h
  | n + 1, pc, ls, st, M, h => by
    unfold am_wp at h
    split at h
    · rename_i i len hi
      refine am_ok hx hb hown hts hK hSz hF hC hE hX (hI _ _ _ hi) (fun pc' ls' st' M' hk => ?_) h
      by_cases hs : sp pc' = true
      · rw [if_pos hs] at hk
        exact hZ _ _ _ _ hk
      · rw [if_neg hs] at hk
        exact am_wp_ok hx hb hown hts hK hSz hF hC hE hX hI hZ n pc' ls' st' M' hk
    · exact h.elim
/-- Floyd's rule: an invariant with a measure at the stops -/
theorem am_fl {Sc : Option (Nat × (Nat → Int))} {Fd : Nat → Option (Nat × Nat × Nat)} {Ct : am_T} {Zr : am_Z} {I : Nat → Option (Instr × Nat)} {sp : Nat → Bool}
    (hx : p.tables.exec = Jvm.exec) (hb : c.code = cc) (hown : s.vm.findClass own = some m.cls) (hts : ∀ w ∈ Ts, w.before args s = true) (hK : va_K D cl (am_ty G) s)
    (hSz : ∀ (id e n : Nat), Sg[id]? = some (.inl (e, n)) → n < 2147483648) (hF : ∀ idx ci j q, Fd idx = some (ci, j, q) → am_FOK cl own args s Ts idx ci j q)
    (hC : ∀ pc q ct, Ct pc = some (q, ct) → am_C p l e R s m args below meth c H0 A cells slots Q D cl G ad Sg nL pc q ct) (hE : am_E p l e R s m args below meth c H0 A cells slots Q D cl G ad Sg cc Zr)
    (hX : ∀ L xs, Sc = some (L, xs) → L < 2147483648 ∧ ∃ ys : Nat → Int32, va_X (ad am_scr) L ys s H0 ∧ ad am_scr < H0.size ∧ ¬ A (ad am_scr) ∧ ∀ j, xs j = (ys j).toInt)
    (hI : ∀ pc i n, I pc = some (i, n) → decode cc pc = .ok (i, n)) (Inv : Nat → am_K)
    (hV : ∀ μ pc ls st M, Inv μ pc ls st M → ∃ n, am_wp Sg Sc Fd Ct Zr I sp (fun pc' ls' st' M' => ∃ μ', μ' < μ ∧ Inv μ' pc' ls' st' M') n pc ls st M) :
    ∀ (μ pc : Nat) (ls : am_L) (st : List am_V) (M : am_M), Inv μ pc ls st M → am_A p l e R s m args below meth c H0 A cells slots Q D cl G ad Sg nL pc ls st M := by
  intro μ
  induction μ using Nat.strongRecOn with
  | ind μ ih =>
    intro pc ls st M h
    obtain ⟨n, hn⟩ := hV μ pc ls st M h
    exact am_wp_ok hx hb hown hts hK hSz hF hC hE hX hI (fun pc' ls' st' M' ⟨μ', h1, h2⟩ => ih μ' h1 pc' ls' st' M' h2) n pc ls st M hn
end AMW
section AMC
variable {p : Program} {l : Launch} {e : Env} {R : Room} {s : State} {m : MethodId} {args : Array Value} {below : List Frame} {meth : Method} {c : Code} {H0 : Heap} {A : Nat → Prop} {cells slots : Nat} {Q : State → Prop} {D : va_G} {cl : List vw_C} {G : Nat → ClassId} {ad : Nat → Nat} {Sg : List am_S} {nL : Nat} {cc : ByteArray} {own : String} {Ts : List Jvm.Cond}
/-- behind a run: the world is there again -/
theorem am_back {H : Heap} {locs : List Loc} {lsA : Array Slot} {ls : am_L} {pc : Nat} {M : am_M} {st0 : List Value} {rest : List am_V} {Post : am_Z} {a : Array Value} {kk : am_Z}
    (hA : ∀ q, H0.size ≤ q → A q) (hD : va_D A (am_w G ad M Sg)) (hS : va_S A H0 H locs) (hH : am_H ad lsA nL ls)
    (hr : va_Run p l e R s m args below meth c H locs cells slots 0 0 (F0 m pc lsA st0) (rest.map (am_cv ad)) (am_Q D cl G ad Sg Post (va_A (am_w G ad M Sg) H.size) a) (va_A (am_w G ad M Sg) H.size))
    (hp : ∀ r M', Post r M' → kk r M') (hk : ∀ (r : Option am_V) (M' : am_M), kk r M' → am_A p l e R s m args below meth c H0 A cells slots Q D cl G ad Sg nL (pc + 3) ls (r.toList ++ rest) M') :
    W p l e R s m args below meth c H locs cells slots Q (F0 m pc lsA st0) := by
  have hin : ∀ q, va_A (am_w G ad M Sg) H.size q → A q := by
    intro q h
    rcases h with ⟨k, x, h⟩ | h
    · exact hD.2 k (q, x) h
    · exact hA q (Nat.le_trans hS.1 h)
  intro T hT X
  obtain ⟨v, st₀, t, T', L, h0, X', hL, e1, e2, ⟨⟨r, M', hv, hpo, hP'⟩, hz, hq⟩, st⟩ := hr T hT X
  cases hv
  rw [h0] at hz hq
  have hS' : va_S A H0 T'.heap (locs ++ L) := by
    refine ⟨Nat.le_trans hS.1 (by rw [e1]; exact hz), fun q h1 h2 => ?_, fun q hq' => ?_⟩
    · rw [e1, hq q (Nat.lt_of_lt_of_le h1 hS.1) (fun z => h2 (hin q z))]
      exact hS.2.1 q h1 h2
    · rcases List.mem_append.mp hq' with h | h
      · exact hS.2.2 q h
      · exact hin _ (hL q h)
  obtain ⟨t2, a1, b1⟩ := hk r M' (hp r M' hpo) T'.heap (locs ++ L) lsA (by rw [e1]; exact hP') (am_D hD) hS' hH T' rfl X'
  refine ⟨t2, st t2 ?_, b1⟩
  have es : (r.toList ++ rest).map (am_cv ad) = (r.map (am_cv ad)).toList ++ rest.map (am_cv ad) := by cases r <;> simp
  rw [es] at a1
  exact a1
def am_isO (Sg : List am_S) (ci : Nat) : List am_V → Prop
  | .inr (.inl id) :: _ => ∃ fs, Sg[id]? = some (.inr (ci, fs))
  | _ => False
/-- an instance method's call; a static method's call: what the abstract machine has to show -/
def am_ctV (Sg : List am_S) (ci : Nat) (Pre : List am_V → am_M → Prop) (Post : List am_V → am_M → am_Z) : List am_V → am_M → am_Z → Prop := fun av M kk => am_isO Sg ci av ∧ Pre av M ∧ ∀ r M', Post av M r M' → kk r M'
def am_ctS (Pre : List am_V → am_M → Prop) (Post : List am_V → am_M → am_Z) : List am_V → am_M → am_Z → Prop := fun av M kk => Pre av M ∧ ∀ r M', Post av M r M' → kk r M'
theorem am_pre {nw : List Jvm.Cond} {H : Heap} {M : am_M} {av : List am_V} (hnw : am_nw nw = true) (hK : va_K D cl (am_ty G) s) (hN : ∀ w ∈ nw, va_Nw w s) (hP : va_P D cl (am_w G ad M Sg) H) (hD : va_D A (am_w G ad M Sg)) : PreS s H (va_Pc (av.map (am_cv ad)) (am_B D cl G ad Sg nw H.size M)) (av.map (am_cv ad)) :=
  ⟨am_B_blind hnw, fun U hU hW => ⟨rfl, by rw [hU], by rw [hU]; exact hP, va_K.moved hW.alike hK, hD.weaken (fun _ _ _ _ => trivial), am_nw_warm hnw hW hN⟩⟩
theorem am_stk {st : List am_V} {q : Nat} (h : q ≤ st.length) : st = ((st.take q).reverse).reverse ++ st.drop q ∧ (st.take q).reverse.length = q := by
  refine ⟨by rw [List.reverse_reverse, List.take_append_drop], by simp [h]⟩
theorem am_wt (ad : Nat → Nat) : ∀ (st : List am_V) (n : Nat), st.length ≤ n → ((st.map (am_cv ad)).map fun v => v.category).sum ≤ 2 * n
  | [], n, _ => by simp
  | x :: r, 0, h => by simp at h
  | x :: r, n + 1, h => by
    have h1 := am_wt ad r n (by simpa using h)
    have h2 : (am_cv ad x).category ≤ 2 := by rcases lv_cat (am_cv ad x) with h | h <;> omega
    simp only [List.map_cons, List.sum_cons]
    omega
/-- what a call's site must have: an instance method, by its name, or as a nest mate's private one -/
def am_sV (R : Room) (s : State) (args : Array Value) (own C : String) (idx : Nat) (y : MethodName) (bytes : ByteArray) (maxL : Nat) (ret : Option FieldType) (ws : List Jvm.Cond) (rm : Room) (n : Nat) : Prop :=
  CallW R s args own C idx y bytes maxL ret ws rm 0 0 n ∨ ∃ host, va_CN R s args own idx y host bytes maxL ret ws rm 0 0 n ∧ (Cond.instanceMethod y).before args s = true ∧ (Cond.selects C y y).before args s = true
def am_sS (R : Room) (s : State) (args : Array Value) (own : String) (idx : Nat) (y : MethodName) (bytes : ByteArray) (maxL : Nat) (ret : Option FieldType) (ws : List Jvm.Cond) (rm : Room) (n : Nat) : Prop :=
  (CallB R s args own idx y bytes maxL ret ws rm 0 0 n ∧ (Cond.static y).before args s = true) ∨ ∃ host, va_CN R s args own idx y host bytes maxL ret ws rm 0 0 n ∧ (Cond.static y).before args s = true ∧ True
set_option maxHeartbeats 1000000 in
theorem am_callV {y : MethodName} {ws : List Jvm.Cond} {rm : Room} {nw : List Jvm.Cond} {Pre : List am_V → am_M → Prop} {Post : List am_V → am_M → am_Z} {bytes : ByteArray} {maxL n idx pc ci : Nat} {ret : Option FieldType} {C : String} {T : u_T} {N : Nat}
    (hS0 : CallFix p m c cc nL s args Ts own) (hnw : am_nw nw = true) (hK : va_K D cl (am_ty G) s) (hN : ∀ w ∈ nw, va_Nw w s) (hA : ∀ q, H0.size ≤ q → A q) (hcR : cells ≤ R.cells ∧ slots ≤ R.slots)
    (hM : am_Met l y ws rm cl Sg nw Pre Post) (cw : am_sV R s args own C idx y bytes maxL ret ws rm n) (hci : cl[ci]? = some (C, T, N)) (hdg : decode cc pc = .ok (.invokevirtual idx, 3)) :
    am_C p l e R s m args below meth c H0 A cells slots Q D cl G ad Sg nL pc (n + 1) (am_ctV Sg ci Pre Post) := by
  intro ls st M kk h1 h2 ⟨ho, hpre, hpost⟩ hk H locs lsA hP hD hS hH
  obtain ⟨es, el⟩ := am_stk h1
  generalize hav : (st.take (n + 1)).reverse = av at *
  cases av with
  | nil => exact ho.elim
  | cons x As =>
    rcases x with x | id | x
    · exact ho.elim
    · obtain ⟨fs, hs⟩ := ho
      have hw := am_w_at (G := G) (ad := ad) (M := M) hs
      have hpr := am_pre (av := .inr (.inl id) :: As) hnw hK hN hP hD
      have hrv := va_recv hK hP hci hw
      have hstk : (st.map (am_cv ad)) = (As.map (am_cv ad)).reverse ++ .ref (ad id) :: (st.drop (n + 1)).map (am_cv ad) := by
        conv => lhs; rw [es]
        simp [am_cv]
      have hwt : ((st.drop (n + 1)).map (am_cv ad) |>.map fun v => v.category).sum ≤ 8 := am_wt ad _ 4 (by simp; omega)
      have hlen : (As.map (am_cv ad)).length = n := by simpa using el
      rcases cw with cw | ⟨host, cw⟩
      · have hr := va_runV (e := e) (below := below) (meth := meth) (locs := locs) hS0 (hM D G ad H.size M (.inr (.inl id) :: As) hpre) cw (As := As.map (am_cv ad)) ⟨hpr.1, hrv, hpr.2⟩ (g := F0 m pc lsA (st.map (am_cv ad))) rfl hlen hH.1 hstk (lv_room hwt) hdg hcR
        exact am_back hA hD hS hH hr hpost hk
      · have hr := va_runVN (e := e) (below := below) (meth := meth) (locs := locs) hS0 (hM D G ad H.size M (.inr (.inl id) :: As) hpre) cw (As := As.map (am_cv ad)) ⟨hpr.1, hrv, hpr.2⟩ (g := F0 m pc lsA (st.map (am_cv ad))) rfl hlen hH.1 hstk (lv_room hwt) hdg hcR
        exact am_back hA hD hS hH hr hpost hk
    · exact ho.elim
set_option maxHeartbeats 1000000 in
theorem am_callS {y : MethodName} {ws : List Jvm.Cond} {rm : Room} {nw : List Jvm.Cond} {Pre : List am_V → am_M → Prop} {Post : List am_V → am_M → am_Z} {bytes : ByteArray} {maxL n idx pc : Nat} {ret : Option FieldType}
    (hS0 : CallFix p m c cc nL s args Ts own) (hnw : am_nw nw = true) (hK : va_K D cl (am_ty G) s) (hN : ∀ w ∈ nw, va_Nw w s) (hA : ∀ q, H0.size ≤ q → A q) (hcR : cells ≤ R.cells ∧ slots ≤ R.slots)
    (hM : am_Met l y ws rm cl Sg nw Pre Post) (cw : am_sS R s args own idx y bytes maxL ret ws rm n) (hdg : decode cc pc = .ok (.invokestatic idx, 3)) :
    am_C p l e R s m args below meth c H0 A cells slots Q D cl G ad Sg nL pc n (am_ctS Pre Post) := by
  intro ls st M kk h1 h2 ⟨hpre, hpost⟩ hk H locs lsA hP hD hS hH
  obtain ⟨es, el⟩ := am_stk h1
  generalize hav : (st.take n).reverse = av at *
  have hpr := am_pre (av := av) hnw hK hN hP hD
  have hstk : (st.map (am_cv ad)) = (av.map (am_cv ad)).reverse ++ (st.drop n).map (am_cv ad) := by
    conv => lhs; rw [es]
    simp
  have hwt : ((st.drop n).map (am_cv ad) |>.map fun v => v.category).sum ≤ 8 := am_wt ad _ 4 (by simp; omega)
  have hlen : (av.map (am_cv ad)).length = n := by simpa using el
  rcases cw with cw | ⟨host, cw⟩
  · have hr := va_runS (e := e) (below := below) (meth := meth) (locs := locs) hS0 (hM D G ad H.size M av hpre) cw hpr (g := F0 m pc lsA (st.map (am_cv ad))) rfl hlen hH.1 hstk (lv_room hwt) hdg hcR
    exact am_back hA hD hS hH hr hpost hk
  · have hr := va_runSN (e := e) (below := below) (meth := meth) (locs := locs) hS0 (hM D G ad H.size M av hpre) cw hpr (g := F0 m pc lsA (st.map (am_cv ad))) rfl hlen hH.1 hstk (lv_room hwt) hdg hcR
    exact am_back hA hD hS hH hr hpost hk
end AMC
def am_c1 : am_V → Bool
  | .inr (.inr _) => false
  | _ => true
theorem am_c1_cat (ad : Nat → Nat) {v : am_V} (h : am_c1 v = true) : (am_cv ad v).category = 1 := by
  rcases v with x | x | x
  · rfl
  · rfl
  · cases h
theorem am_sl_len (ad : Nat → Nat) : ∀ (av : List am_V), av.all am_c1 = true → (lg_sl (av.map (am_cv ad))).length = av.length
  | [], _ => rfl
  | v :: r, h => by
    simp only [List.all_cons, Bool.and_eq_true] at h
    have h1 := am_c1_cat ad h.1
    have h2 := am_sl_len ad r h.2
    simp only [lg_sl, List.map_cons, List.flatMap_cons, h1] at h2 ⊢
    simp [h2]
theorem am_args (ad : Nat → Nat) : ∀ (av : List am_V) (i j : Nat) (v : am_V), av.all am_c1 = true → av[j]? = some v → (i + j, am_cv ad v) ∈ lv_args i (av.map (am_cv ad))
  | [], i, j, v, _, h => by simp at h
  | x :: r, i, 0, v, _, h => by
    simp at h
    subst h
    simp [lv_args]
  | x :: r, i, j + 1, v, ha, h => by
    simp only [List.all_cons, Bool.and_eq_true] at ha
    have h1 := am_c1_cat ad ha.1
    have h2 := am_args ad r (i + 1) j v ha.2 (by simpa using h)
    simp only [List.map_cons, lv_args, h1]
    refine List.mem_cons_of_mem _ ?_
    have e : i + (j + 1) = i + 1 + j := by omega
    rw [e]
    exact h2
theorem am_H_entry {ad : Nat → Nat} {av : List am_V} {n : Nat} {lsA : Array Slot} (ha : av.all am_c1 = true) (hn : av.length ≤ n) (h : lv_has lsA n (lv_args 0 (av.map (am_cv ad)))) : am_H ad lsA n (av.map some ++ List.replicate (n - av.length) none) := by
  refine ⟨h.1, h.2.1, by simp; omega, fun i v hi => ?_⟩
  by_cases hl : i < av.length
  · rw [List.getElem?_append_left (by simpa using hl), List.getElem?_map] at hi
    have hi2 : av[i]? = some v := by
      cases hq : av[i]? with
      | none => rw [hq] at hi; cases hi
      | some w => rw [hq] at hi; simp at hi; rw [hi]
    have hc : am_c1 v = true := List.all_eq_true.mp ha v (List.mem_of_getElem? hi2)
    have hm := am_args ad av 0 i v ha hi2
    rw [Nat.zero_add] at hm
    exact ⟨am_c1_cat ad hc, h.2.2 _ hm⟩
  · rw [List.getElem?_append_right (by simp; omega)] at hi
    rw [List.getElem?_replicate] at hi
    split at hi
    · cases hi
    · cases hi
set_option maxHeartbeats 2000000 in
/-- a contract out of pure conditions -/
theorem am_mk {l : Launch} {y : MethodName} {ws ws' : List Jvm.Cond} {rm : Room} {cl : List vw_C} {Sg : List am_S} {nw : List Jvm.Cond} {Pre : List am_V → am_M → Prop} {Post : List am_V → am_M → am_Z} {cc : ByteArray} {maxL : Nat} {ret : Option FieldType} {Fd : Nat → Option (Nat × Nat × Nat)} {Ct : am_T} {I : Nat → Option (Instr × Nat)} {sp : Nat → Bool}
    (hy : plainName y.cls = true) (hw : ws = Cond.code y cc maxL ret :: ws') (hret : ret = none ∨ ret = some .int ∨ ret = some .boolean)
    (hSz : ∀ (id e n : Nat), Sg[id]? = some (.inl (e, n)) → n < 2147483648)
    (hF : ∀ (args : Array Value) (s : State), (∀ w ∈ ws, w.before args s = true) → (∀ w ∈ nw, va_Nw w s) → ∀ idx ci j q, Fd idx = some (ci, j, q) → am_FOK cl y.cls args s ws idx ci j q)
    (hC : ∀ (p : Program) (e : Env) (s : State) (m : MethodId) (args : Array Value) (below : List Frame) (meth : Method) (c : Code) (H0 : Heap) (A : Nat → Prop) (D : va_G) (G : Nat → ClassId) (ad : Nat → Nat) (Q : State → Prop), CallFix p m c cc maxL s args ws y.cls → va_K D cl (am_ty G) s → (∀ w ∈ nw, va_Nw w s) → (∀ q, H0.size ≤ q → A q) → ∀ pc q ct, Ct pc = some (q, ct) → am_C p l e rm s m args below meth c H0 A 0 0 Q D cl G ad Sg maxL pc q ct)
    (hI : ∀ pc i n, I pc = some (i, n) → decode cc pc = .ok (i, n))
    (hL : ∀ av M, Pre av M → av.length ≤ maxL ∧ av.all am_c1 = true)
    (hV : ∀ av M, Pre av M → ∃ Inv : Nat → am_K, (∃ μ, Inv μ 0 (av.map some ++ List.replicate (maxL - av.length) none) [] M) ∧ ∀ μ pc ls st M', Inv μ pc ls st M' → ∃ n, am_wp Sg none Fd Ct (fun r M'' => Post av M r M'' ∧ am_rt ret r) I sp (fun pc' ls' st' M'' => ∃ μ', μ' < μ ∧ Inv μ' pc' ls' st' M'') n pc ls st M') :
    am_Met l y ws rm cl Sg nw Pre Post := by
  intro D G ad sz M av hpre
  obtain ⟨hlen, hall⟩ := hL av M hpre
  obtain ⟨Inv, ⟨μ, h0⟩, hV⟩ := hV av M hpre
  refine Met.ofW (cc := cc) (maxL := maxL) (ret := ret) hy hw ?_
  intro p e s m args below meth c s₁ B hml hv
  obtain ⟨rfl, hsz, hP, hK, hD0, hN⟩ := hv
  have hx := B.exec
  have hb := B.bytes
  have hr := B.returns
  have hts := atoms_spec (ws := ws) B.pre
  have hown : s.vm.findClass y.cls = some m.cls := findClass_of_methodNamed B.named
  have hlocks := B.notSynchronized
  subst hsz
  have hD := hD0.self (sz := s.heap.size)
  have hS : va_S (va_A (am_w G ad M Sg) s.heap.size) s.heap s.heap [] := va_S.rf
  have hA : ∀ q : Nat, s.heap.size ≤ q → va_A (am_w G ad M Sg) s.heap.size q := fun q h => Or.inr h
  generalize hAe : va_A (am_w G ad M Sg) s.heap.size = A at *
  have hl := lv_entry (av.map (am_cv ad)) (n := maxL) (by rw [am_sl_len ad av hall]; exact hlen)
  rw [lg_entry_eq]
  generalize (lg_sl (av.map (am_cv ad)) ++ List.replicate (maxL - (lg_sl (av.map (am_cv ad))).length) Slot.unset).toArray = lsA at hl ⊢
  have hH := am_H_entry hall hlen hl
  have hE : am_E p l e (headSpec ws rm).room s m (av.map (am_cv ad)).toArray below meth c s.heap A 0 0 (MQ below (am_Q D cl G ad Sg (Post av M) A) (av.map (am_cv ad)).toArray s 0 0 A) D cl G ad Sg cc (fun r M'' => Post av M r M'' ∧ am_rt ret r) := by
    intro r M' H locs lsB pc ⟨hpo, hrt⟩ hP' hD' hS'
    refine ⟨fun x hxr hdg => ?_, fun hn hdg => ?_⟩
    · subst hxr
      have hq : ∀ t : State, t.heap = H → s.WarmedH t.vm → am_Q D cl G ad Sg (Post av M) A (av.map (am_cv ad)).toArray s (.returned (some (.int (Int32.ofInt x)))) t := fun t ht hW => ⟨⟨some (.inl x), M', rfl, hpo, by rw [ht]; exact hP'⟩, hS'.F ht⟩
      rcases hret with rfl | rfl | rfl
      · exact hrt.elim
      · exact W.iret hx hb hr hq hS'.2.2 hdg
      · exact W.zret hx hb hr (am_z01 hrt).1 hq hS'.2.2 hdg
    · subst hn
      have hq : ∀ t : State, t.heap = H → s.WarmedH t.vm → am_Q D cl G ad Sg (Post av M) A (av.map (am_cv ad)).toArray s (.returned none) t := fun t ht hW => ⟨⟨none, M', rfl, hpo, by rw [ht]; exact hP'⟩, hS'.F ht⟩
      rcases hret with rfl | rfl | rfl
      · exact W.vret hx hb hr hq hS'.2.2 hdg
      · exact hrt.elim
      · exact hrt.elim
  exact am_fl hx hb hown hts hK hSz (hF _ s hts hN) (hC p e s m _ below meth c s.heap A D G ad _ ⟨hx, hb, hml, hown, hts⟩ hK hN hA) hE (fun L xs h => by cases h) hI Inv hV μ 0 _ [] M h0 s.heap [] lsA hP hD hS hH
