/-! what is caught: a call that may throw, within a try -/
def hs_no : List Jvm.Cond := [.not (.castable "java/lang/IllegalStateException" "java/lang/IllegalArgumentException"), .not (.castable "java/lang/UnsupportedOperationException" "java/lang/IllegalArgumentException"), .not (.castable "java/lang/UnsupportedOperationException" "java/lang/IllegalStateException")]
def hs_ok (U : State) : Prop := th_ok U ∧ ∀ w ∈ hs_no, w.before #[] U = true
theorem hs_self (vm : Vm) (c : ClassId) : vm.assignable c c = true := by
  unfold Vm.assignable Vm.assignableAux
  simp
theorem hs_cv {s U : State} {a' : Array Value} (hW : s.WarmedH U.vm) (x y : String) (h : (Jvm.Cond.not (.castable x y)).before #[] s = true) : (Jvm.Cond.not (.castable x y)).before a' U = true := by
  have hv := Cond.holds_not_iff.mp h
  refine Cond.holds_not_iff.mpr ?_
  simp only [Cond.value, hW.alike.findClass, hW.alike.assignable] at hv ⊢
  exact hv
theorem hs_mv {s U : State} {a' : Array Value} (hW : s.WarmedH U.vm) (w : Jvm.Cond) (hw : w ∈ hs_no) (h : w.before #[] s = true) : w.before a' U = true := by
  simp only [hs_no, List.mem_cons, List.not_mem_nil, or_false] at hw
  rcases hw with rfl | rfl | rfl <;> exact hs_cv hW _ _ h
theorem hs_ok_mv {s U : State} (hW : s.WarmedH U.vm) (hS : ∀ (q : Addr) (cell : Cell), s.heap[q]? = some cell → cell.vm.isStatics = true → U.heap[q]? = some cell) (h : hs_ok s) : hs_ok U := ⟨th_ok_mv hW hS h.1, fun w hw => hs_mv hW w hw (h.2 w hw)⟩
theorem th_blind {Pc : Array Value → State → Prop} (h : FrameBlind Pc) : FrameBlind (fun a U => Pc a U ∧ th_ok U) := by
  intro a U g mk q
  exact ⟨h a U g mk q.1, th_ok_mv (s := U) (U := U.calling g mk a) (State.WarmedH.refl U) (fun _ _ h _ => h) q.2⟩
theorem hs_blind {Pc : Array Value → State → Prop} (h : FrameBlind Pc) : FrameBlind (fun a U => Pc a U ∧ hs_ok U) := by
  intro a U g mk q
  exact ⟨h a U g mk q.1, hs_ok_mv (s := U) (U := U.calling g mk a) (State.WarmedH.refl U) (fun _ _ h _ => h) q.2⟩
theorem MetE_mono {l : Launch} {y : MethodName} {ws : List Jvm.Cond} {rm : Room} {Pc : Array Value → State → Prop} {Qc Qd : Array Value → State → Outcome → State → Prop} {mc ms : Nat} {free : Addr → Prop} (h : MetE l y ws rm Pc Qc mc ms free) (hq : ∀ a st o t, Qc a st o t → Qd a st o t) : MetE l y ws rm Pc Qd mc ms free := by
  intro p e ha hc hk s m args below hf happ hP hK
  obtain ⟨n, o, h1, h2, h3, h4, h5⟩ := h p e ha hc hk s m args below hf happ hP hK
  exact ⟨n, o, h1, h2, h3, hq _ _ _ _ h4, h5⟩
theorem MetE_ret {l : Launch} {y : MethodName} {ws : List Jvm.Cond} {rm : Room} {Pc : Array Value → State → Prop} {Qc Qd : Array Value → State → Outcome → State → Prop} {mc ms : Nat} {free : Addr → Prop} (h : MetE l y ws rm Pc Qc mc ms free) (hq : ∀ a st o t, Qc a st o t → Qd a st o t ∧ ∃ v, o = .returned v) : Met l y ws rm Pc Qd mc ms free := by
  intro p e ha hc hk s m args below hf happ hP hK
  obtain ⟨n, o, h1, h2, h3, h4, L, h5, h6⟩ := h p e ha hc hk s m args below hf happ hP hK
  obtain ⟨h7, h8⟩ := hq _ _ _ _ h4
  exact ⟨n, o, h1, h2, h3, h7, L, ⟨h8, h5.1, h5.2⟩, h6⟩
section THC
variable {p : Program} {l : Launch} {e : Env} {R : Room} {s : State} {m : MethodId} {args : Array Value} {below : List Frame} {meth : Method} {c : Code} {T : State} {locs : List Loc} {cells slots : Nat} {y : MethodName} {ws : List Jvm.Cond} {rm : Room} {Pc : Array Value → State → Prop} {Qc : Array Value → State → Outcome → State → Prop} {mc ms n index : Nat} {free : Addr → Prop} {bytes : ByteArray} {maxL : Nat} {ret : Option FieldType} {own C : String}
def PostT (Qc : Array Value → State → Outcome → State → Prop) (mc ms : Nat) (free : Addr → Prop) : Pt → Array Value → Addr → Pt → Prop := fun A a v B =>
  ∃ (g : JFrame) (mk : MethodId) (t : State) (L : List Loc), B.U.heap = t.heap ∧ B.U.vm = t.vm ∧ Qc a (A.U.calling g mk a) (.threw v) t ∧ B.locs = A.locs ++ L ∧ (∀ q ∈ L, free q.base) ∧ B.cells = A.cells + mc ∧ B.slots = A.slots + ms
theorem th_backT (cb : CallB R s args own index y bytes maxL ret ws rm mc ms n) (hM : MetE l y ws rm Pc Qc mc ms free) (hth : ∀ a st o t, Qc a st o t → ∃ x, o = .threw x) (hbl : FrameBlind Pc) : BackT l R p e below s args y 3 8 (PreOf R mc ms Pc) (PostT Qc mc ms free) := by
  obtain ⟨hrc, hrs, hfr, hlo, hws, hcw, -, hini, -⟩ := cb
  refine BackT.of_free (S := headSpec ws rm) (P := Pc) (K := fun _ _ _ _ _ => True) (Q := fun a st o t => Qc a st o t ∧ ∃ L, (st.WarmedH t.vm ∧ st.sameButNew ({ t with vm := st.vm } : State) L mc ms) ∧ ∀ q ∈ L, free q.base) (bytes := bytes) (maxL := maxL) (ret := ret)
    (E := fun a st o t L k n => k = mc ∧ n = ms ∧ ∀ q ∈ L, free q.base) hM hfr hlo ?_ ?_ (fun _ _ _ _ _ _ _ _ _ => trivial) ?_ ?_
  · intro m meth c A a X hp
    exact ⟨atoms_intro fun w hw => hws w hw _ _ X.warmed, hws _ hcw _ _ X.warmed, word_at X.warmed (Or.inl (by first | rfl | simp [Cond.onTables, Cond.keeps, Cond.steady])) hini, by rw [show (headSpec ws rm).room.cells = mc from hrc]; exact hp.1, by rw [show (headSpec ws rm).room.slots = ms from hrs]; exact hp.2.1⟩
  · intro m meth c A a g mk X hp
    exact hbl _ _ _ _ hp.2.2
  · intro a st o t ⟨hq, L, ⟨hF1, hF2⟩, hL⟩
    exact ⟨L, mc, ms, ⟨hth _ _ _ _ hq, hF1, hF2⟩, rfl, rfl, hL⟩
  · intro m meth c A a g mk v t L k n X hp hq hF ⟨e1, e2, hL⟩
    subst e1; subst e2
    exact ⟨g, mk, t, L, rfl, rfl, hq.1, rfl, hL, rfl, rfl⟩
theorem th_callV (X : Stand p l e R s m args below meth c T locs cells slots) (hexec : p.tables.exec = Jvm.exec)
    (hown : s.vm.findClass own = some m.cls) (hlink : (Cond.methodLink own index y).before args s = true) (hinst : (Cond.instanceMethod y).before args s = true) (hsel : (Cond.selects C y y).before args s = true)
    (hcode : (Cond.code y bytes maxL ret).before args s = true) (hy : y.cls ≠ "java/lang/invoke/MethodHandle" ∧ y.cls ≠ "java/lang/invoke/VarHandle")
    {W : Nat} {Pre : Pt → Array Value → Prop} {Post : Pt → Array Value → Addr → Pt → Prop} (hK : BackT l R p e below s args y 3 W Pre Post)
    {b : Addr} {cellB : Cell} (hcell : T.heap[b]? = some cellB) (hobj : cellB.vm.isStatics = false) (hcls : s.vm.findClass C = some cellB.cls)
    {g : JFrame} (hg : g.method = m) (hsize : g.locals.size = c.maxLocals) {argsL rest : List Value} (hlen : ∀ sig, parseMethodDescriptor y.desc = some sig → argsL.length = sig.parameters.length)
    (hstack : g.stack = argsL.reverse ++ .ref b :: rest) (hW : 2 * g.monitorRoom + (rest.map fun v => v.category).sum ≤ W) (hdg : decode c.code g.pc = .ok (.invokevirtual index, 3))
    (hpre : ∀ vm₁, s.WarmedH vm₁ → Pre ⟨T.setVm vm₁, locs, cells, slots⟩ (Value.ref b :: argsL).toArray) :
    ∃ (v : Addr) (vm₁ : Vm) (B : Pt), s.WarmedH vm₁ ∧ Stand p l e R s m args below meth c B.U B.locs B.cells B.slots ∧ Post ⟨T.setVm vm₁, locs, cells, slots⟩ (Value.ref b :: argsL).toArray v B ∧
      Steps p.tables e below (T.setTop g) ((B.U.setTop { g with stack := rest }).pushFrame (.throwing v)) := by
  obtain ⟨mk, methM, hnamed, hmethM, hstM, habM⟩ := Cond.instanceMethod_spec hinst
  obtain ⟨methM', cM, hmethM', -, -, -, -, -, -, hsigM⟩ := Cond.code_spec hnamed hcode
  cases hmethM.symm.trans hmethM'
  obtain ⟨c2, r2, m2, q1, q2, q3, q4, kP, hkP, hkPi⟩ := Cond.selects_spec hsel
  cases hcls.symm.trans q1
  cases (State.methodFound?_of_named hnamed hy).symm.trans q2
  cases hnamed.symm.trans q3
  have hselP : selectMethod e.platform s.vm cellB.cls mk = .method mk := by rw [Launch.admits_selectMethod X.admits]; exact q4
  obtain ⟨vm₁, X₁, hstep₁⟩ := X.invokevirtual hexec hown hlink hnamed hmethM hstM hkP hkPi hy (a := b) (cell := cellB) hcell
    (fun z h => by rw [h] at hobj; cases hobj) hselP hmethM habM hkP hkPi (g := g) hg (argsL := argsL) (rest := rest) (hlen _ hsigM) hstack hdg
  obtain ⟨v, B, X', hpost, hsteps⟩ := hK m meth c ⟨T.setVm vm₁, locs, cells, slots⟩ { g with stack := rest } (.invokevirtual index) mk (Value.ref b :: argsL).toArray X₁ hg hsize hdg hW (X₁.named hnamed) (hpre vm₁ X₁.warmed)
  exact ⟨v, vm₁, B, X₁.warmed, X', hpost, hstep₁ _ fun acts => by rw [doInvoke_state]; exact hsteps⟩
end THC
/-- a handler: its place, its entry, the class that it takes, the local that it lays it into, the place behind that -/
abbrev hs_T : Type := Nat × Nat × String × Nat × Nat
def hs_e (E : Nat) (q : hs_T) : ExceptionTableEntry := ⟨0, E, q.1, q.2.1⟩
def hs_D (cc : ByteArray) (q : hs_T) : Prop := (decode cc q.1 = .ok (.astore q.2.2.2.1, 2) ∧ q.2.2.2.2 = q.1 + 2) ∨ ∃ k : Fin 4, (k : Nat) = q.2.2.2.1 ∧ decode cc q.1 = .ok (.astore_n k, 1) ∧ q.2.2.2.2 = q.1 + 1
section HSC
variable {p : Program} {l : Launch} {e : Env} {R : Room} {s : State} {m : MethodId} {args : Array Value} {below : List Frame} {meth : Method} {c : Code} {H0 : Heap} {A : Nat → Prop} {cells slots : Nat} {Q : State → Prop} {D : va_G} {G : Nat → ClassId} {ad : Nat → Nat} {nL : Nat} {cc : ByteArray} {own : String} {Ts : List Jvm.Cond}
theorem am_H_nn {lsA lsB : Array Slot} {ls : am_L} {i : Nat} {x : Value} (h : am_H ad lsA nL ls) (hi : ls[i]? = some none) (h2 : lv_has lsB nL ((i, x) :: (am_ll ad ls).filter (fun q => !(q.1 == i) && !(q.1 + 1 == i && q.2.category == 2)))) : am_H ad lsB nL ls := by
  refine ⟨h2.1, h2.2.1, h.2.2.1, fun j w hj => ?_⟩
  have hji : j ≠ i := fun q => by subst q; rw [hi] at hj; cases hj
  obtain ⟨c1, -⟩ := h.2.2.2 j w hj
  refine ⟨c1, h2.2.2 (j, am_cv ad w) (List.mem_cons_of_mem _ (List.mem_filter.mpr ⟨am_ll_mem.mpr ⟨w, hj, rfl⟩, ?_⟩))⟩
  simp [hji, c1]
/-- the reference of what was caught goes into a local that nobody knows -/
theorem hs_store {q : hs_T} {ls : am_L} {M : am_M} (hx : p.tables.exec = Jvm.exec) (hb : c.code = cc) (hd : hs_D cc q) (hi : ls[q.2.2.2.1]? = some none) (k : am_A p l e R s m args below meth c H0 A cells slots Q D vw_cl G ad vw_S nL q.2.2.2.2 ls [] M)
    {H : Heap} {locs : List Loc} {lsA : Array Slot} (hP : va_P D vw_cl (am_w G ad M vw_S) H) (hD : va_D A (am_w G ad M vw_S)) (hS : va_S A H0 H locs) (hH : am_H ad lsA nL ls) (x : Addr) : W p l e R s m args below meth c H locs cells slots Q (F0 m q.1 lsA [.ref x]) := by
  have hl : q.2.2.2.1 < nL := by rw [← hH.2.2.1]; exact (List.getElem?_eq_some_iff.mp hi).1
  rcases hd with ⟨h1, h2⟩ | ⟨k4, h0, h1, h2⟩
  · rw [h2] at k
    exact lv_astore hx hb h1 hH.has hl rfl (fun lsB h3 => k H locs lsB hP hD hS (am_H_nn hH hi h3))
  · rw [h2] at k
    exact lv_astore_n hx hb h1 h0 hH.has hl rfl (fun lsB h3 => k H locs lsB hP hD hS (am_H_nn hH hi h3))
theorem am_backE {H : Heap} {locs : List Loc} {lsA : Array Slot} {ls : am_L} {pc mc ms : Nat} {M : am_M} {st0 : List Value} {rest : List am_V} {Post : am_Z} {a : Array Value} {kk : am_Z}
    (hA : ∀ q, H0.size ≤ q → A q) (hD : va_D A (am_w G ad M vw_S)) (hS : va_S A H0 H locs) (hH : am_H ad lsA nL ls)
    (hr : va_Run p l e R s m args below meth c H locs cells slots mc ms (F0 m pc lsA st0) (rest.map (am_cv ad)) (am_Q D vw_cl G ad vw_S Post (va_A (am_w G ad M vw_S) H.size) a) (va_A (am_w G ad M vw_S) H.size))
    (hp : ∀ r M', Post r M' → kk r M') (hk : ∀ (r : Option am_V) (M' : am_M), kk r M' → am_A p l e R s m args below meth c H0 A (cells + mc) (slots + ms) Q D vw_cl G ad vw_S nL (pc + 3) ls (r.toList ++ rest) M') :
    W p l e R s m args below meth c H locs cells slots Q (F0 m pc lsA st0) := by
  have hin : ∀ q, va_A (am_w G ad M vw_S) H.size q → A q := by
    intro q h
    rcases h with ⟨k, x, h⟩ | h
    · exact hD.2 k (q, x) h
    · exact hA q (Nat.le_trans hS.1 h)
  intro T hT X
  obtain ⟨v, st₀, t, T', L, h0, X', hL, e1, e2, ⟨⟨r, M', hv, hpo, hP'⟩, hz, hq⟩, st⟩ := hr T hT X
  cases hv
  rw [h0] at hz hq
  have hS' : va_S A H0 T'.heap (locs ++ L) := by
    refine ⟨Nat.le_trans hS.1 (by rw [e1]; exact hz), fun q h1 h2 => ?_, fun q hq' => ?_⟩
    · rw [e1, hq q (Nat.lt_of_lt_of_le h1 hS.1) (fun z => h2 (hin q z))]
      exact hS.2.1 q h1 h2
    · rcases List.mem_append.mp hq' with h | h
      · exact hS.2.2 q h
      · exact hin _ (hL q h)
  obtain ⟨t2, a1, b1⟩ := hk r M' (hp r M' hpo) T'.heap (locs ++ L) lsA (by rw [e1]; exact hP') (am_D hD) hS' hH T' rfl X'
  refine ⟨t2, st t2 ?_, b1⟩
  have es : (r.toList ++ rest).map (am_cv ad) = (r.map (am_cv ad)).toList ++ rest.map (am_cv ad) := by cases r <;> simp
  rw [es] at a1
  exact a1
set_option maxHeartbeats 1000000 in
/-- a call that returns, or whose throw is caught -/
theorem am_callVE {y : MethodName} {ws : List Jvm.Cond} {rm : Room} {P : am_P} {f : am_Fr} {g : am_Fm} {cd : List am_V → am_M → Int} {tc : Int → String} {bytes : ByteArray} {maxL n idx pc ci E : Nat} {ret : Option FieldType} {C : String} {Tt : u_T} {N : Nat} {hl : List hs_T}
    (hS0 : CallFix p m c cc nL s args Ts own) (hK : va_K D vw_cl (am_ty G) s) (hN : ∀ w ∈ vw_N, va_Nw w s) (hA : ∀ q, H0.size ≤ q → A q) (hcR : cells + 1 ≤ R.cells ∧ slots + 6 ≤ R.slots)
    (hok : hs_ok s) (hkeep : ∀ H locs, va_S A H0 H locs → ∀ (q : Addr) (cell : Cell), s.heap[q]? = some cell → cell.vm.isStatics = true → H[q]? = some cell)
    (hM : am_ME l y ws rm P f g cd tc) (cw : CallW R s args own C idx y bytes maxL ret ws rm 1 6 n) (hci : vw_cl[ci]? = some (C, Tt, N)) (hdg : decode cc pc = .ok (.invokevirtual idx, 3))
    (htab : c.exceptionTable.toList = hl.map (hs_e E)) (hE : pc < E) (hno : hl.Pairwise (fun q r => Jvm.Cond.not (.castable r.2.2.1 q.2.2.1) ∈ hs_no)) (hla : ∀ q ∈ hl, q.2.1 ≠ 0 ∧ (Cond.classLink own q.2.1 q.2.2.1).before args s = true ∧ hs_D cc q)
    {ls : am_L} {st : List am_V} {M : am_M} (h1 : n + 1 ≤ st.length) (h2 : st.length ≤ n + 1 + 4) (ho : am_isO vw_S ci (st.take (n + 1)).reverse) (hpre : P (st.take (n + 1)).reverse M)
    (hret : cd (st.take (n + 1)).reverse M = 0 → am_A p l e R s m args below meth c H0 A (cells + 1) (slots + 6) Q D vw_cl G ad vw_S nL (pc + 3) ls ((f (st.take (n + 1)).reverse M).toList ++ st.drop (n + 1)) (g (st.take (n + 1)).reverse M))
    (hthr : cd (st.take (n + 1)).reverse M ≠ 0 → ∃ l1 q l2, hl = l1 ++ q :: l2 ∧ tc (cd (st.take (n + 1)).reverse M) = q.2.2.1 ∧ ls[q.2.2.2.1]? = some none ∧ am_A p l e R s m args below meth c H0 A (cells + 1) (slots + 6) Q D vw_cl G ad vw_S nL q.2.2.2.2 ls [] M) :
    am_A p l e R s m args below meth c H0 A cells slots Q D vw_cl G ad vw_S nL pc ls st M := by
  intro H locs lsA hP hD hS hH
  obtain ⟨es, el⟩ := am_stk h1
  generalize hav : (st.take (n + 1)).reverse = av at *
  cases av with
  | nil => exact ho.elim
  | cons x As =>
    rcases x with x | id | x
    · exact ho.elim
    · obtain ⟨fs, hs⟩ := ho
      have hw := am_w_at (G := G) (ad := ad) (M := M) hs
      have hpr := am_pre (av := .inr (.inl id) :: As) vw_N_ok hK hN hP hD
      have hrv := va_recv hK hP hci hw
      have hpv : PreV s H C (ad id) (fun a U => va_Pc ((Sum.inr (Sum.inl id) :: As).map (am_cv ad)) (am_B D vw_cl G ad vw_S vw_N H.size M) a U ∧ th_ok U) (As.map (am_cv ad)) :=
        ⟨th_blind hpr.1, hrv, fun U hU hW => ⟨hpr.2 U hU hW, th_ok_mv hW (by rw [hU]; exact hkeep H locs hS) hok.1⟩⟩
      have hstk : (st.map (am_cv ad)) = (As.map (am_cv ad)).reverse ++ .ref (ad id) :: (st.drop (n + 1)).map (am_cv ad) := by
        conv => lhs; rw [es]
        simp [am_cv]
      have hwt : ((st.drop (n + 1)).map (am_cv ad) |>.map fun v => v.category).sum ≤ 8 := am_wt ad _ 4 (by simp; omega)
      have hlen : (As.map (am_cv ad)).length = n := by simpa using el
      have hMM := hM D G ad H.size M (.inr (.inl id) :: As) hpre
      by_cases hc0 : cd (.inr (.inl id) :: As) M = 0
      · have hMet := MetE_ret (Qd := am_Q D vw_cl G ad vw_S (am_po f g (.inr (.inl id) :: As) M) (va_A (am_w G ad M vw_S) H.size)) hMM (by
          rintro a st' o t ⟨hF, ⟨-, ho, hPt⟩ | ⟨hn, -⟩⟩
          · exact ⟨⟨⟨_, _, ho, ⟨rfl, rfl⟩, hPt⟩, hF⟩, _, ho⟩
          · exact absurd hc0 hn)
        have hr := va_runV (e := e) (below := below) (meth := meth) (locs := locs) hS0 hMet cw (As := As.map (am_cv ad)) hpv (g := F0 m pc lsA (st.map (am_cv ad))) rfl hlen hH.1 hstk (lv_room hwt) hdg hcR
        refine am_backE (kk := fun r M' => r = f (.inr (.inl id) :: As) M ∧ M' = g (.inr (.inl id) :: As) M) hA hD hS hH hr (fun r M' h => h) ?_
        rintro r M' ⟨rfl, rfl⟩
        exact hret hc0
      · obtain ⟨l1, q, l2, hhl, htc, hin0, kA⟩ := hthr hc0
        have hME := MetE_mono (Qd := fun a st' o t => va_F (va_A (am_w G ad M vw_S) H.size) st' t ∧ ∃ x : Addr, o = .threw x ∧ va_P D vw_cl (am_w G ad M vw_S) t.heap ∧ ∃ ce, t.heap[x]? = some ce ∧ st'.vm.findClass q.2.2.1 = some ce.cls ∧ ce.vm = .none) hMM (by
          rintro a st' o t ⟨hF, ⟨h, -⟩ | ⟨-, x, h3, h4, -, ce, h5, h6, h7⟩⟩
          · exact absurd h hc0
          · exact ⟨hF, x, h3, h4, ce, h5, by rw [← htc]; exact h6, h7⟩)
        have hBT := th_backT (p := p) (e := e) (below := below) cw.1 hME (fun a st' o t h => ⟨_, h.2.choose_spec.1⟩) hpv.1
        obtain ⟨⟨-, -, -, -, -, -, hcode, -, hy, hlenS, hlink⟩, hinst, hsel⟩ := cw
        obtain ⟨hx, hb, hml, ho', -⟩ := hS0
        obtain ⟨cellB, hcB, hoB, hclB⟩ := hrv
        intro T hT X
        obtain ⟨v, vm₁, ⟨U', lo2, c2, s2⟩, hW₁, X', ⟨g', mk, t, L, e1, e2, ⟨hF, x, hxv, hPt, ce, hce, hcls, hvm⟩, e3, hL, e4, e5⟩, st1⟩ := th_callV X hx ho' hlink hinst hsel hcode hy hBT (by rw [hT]; exact hcB) hoB hclB (g := F0 m pc lsA (st.map (am_cv ad))) rfl (hH.1.trans hml.symm) (argsL := As.map (am_cv ad)) (rest := (st.drop (n + 1)).map (am_cv ad)) (fun sig h => hlen.trans (hlenS sig h)) hstk (lv_room hwt) (by rw [hb]; exact hdg)
          (fun vm₁ hW₁ => ⟨hcR.1, hcR.2, hpv.2.2 (T.setVm vm₁) hT hW₁⟩)
        dsimp only [Pt.U, Pt.locs, Pt.cells, Pt.slots] at X' e1 e2 e3 e4 e5 st1
        subst e3; subst e4; subst e5
        cases hxv
        have hqm : q ∈ hl := by rw [hhl]; exact List.mem_append_right _ List.mem_cons_self
        obtain ⟨hq0, hql, hqd⟩ := hla q hqm
        have hct : s.vm.findClass q.2.2.1 = some ce.cls := by
          have h9 : vm₁.findClass q.2.2.1 = some ce.cls := hcls
          rw [hW₁.alike.findClass] at h9
          exact h9
        have hcat := X'.catches_of_link ho' (x := hs_e E q) hq0 hql hct (hs_self s.vm ce.cls)
        obtain ⟨vm', XV, st2⟩ := X'.thenCaughtThrough v (g := F0 m pc lsA ((st.drop (n + 1)).map (am_cv ad))) rfl st1 (cell := ce) (by rw [e1]; exact hce) (by rw [hvm]; rfl) hcat.2 (l1.map (hs_e E)) (hs_e E q) (l2.map (hs_e E)) (by rw [htab, hhl]; simp)
          (fun z hz => by
            obtain ⟨r, hr1, rfl⟩ := List.mem_map.mp hz
            have hrm : r ∈ hl := by rw [hhl]; exact List.mem_append_left _ hr1
            obtain ⟨g0, g1, -⟩ := hla r hrm
            have g3 : Jvm.Cond.not (.castable q.2.2.1 r.2.2.1) ∈ hs_no := by
              rw [hhl, List.pairwise_append] at hno
              exact hno.2.2 r hr1 q List.mem_cons_self
            have g4 := hs_mv (a' := args) (State.WarmedH.refl s) _ g3 (hok.2 _ g3)
            exact RowPassed.of_words (by rw [X.admits.platform]) ho' (y := hs_e E r) g0 g1 hct g4) (by simp [covers, hs_e, hE]) hcat.1
        have hin : ∀ q, va_A (am_w G ad M vw_S) H.size q → A q := by
          intro q h
          rcases h with ⟨k, x, h⟩ | h
          · exact hD.2 k (q, x) h
          · exact hA q (Nat.le_trans hS.1 h)
        have hz : H.size ≤ t.heap.size := by rw [← hT]; exact hF.1
        have hS' : va_S A H0 t.heap (locs ++ L) := by
          refine ⟨Nat.le_trans hS.1 hz, fun q h1 h2 => ?_, fun q hq' => ?_⟩
          · have h8 : q < ((T.setVm vm₁).calling g' mk (Value.ref (ad id) :: As.map (am_cv ad)).toArray).heap.size := by show q < T.heap.size; rw [hT]; exact Nat.lt_of_lt_of_le h1 hS.1
            rw [hF.2 q h8 (fun z => h2 (hin q z))]
            show T.heap[q]? = _
            rw [hT]
            exact hS.2.1 q h1 h2
          · rcases List.mem_append.mp hq' with h | h
            · exact hS.2.2 q h
            · exact hin _ (hL q h)
        have kW := hs_store hx hb hqd hin0 kA hPt hD hS' hH v
        obtain ⟨t2, a1, b1⟩ := kW (U'.setVm vm') (by show U'.heap = _; exact e1) XV
        exact ⟨t2, st2.trans a1, b1⟩
    · exact ho.elim
end HSC
