/-! the law calls a helper: a static method with handlers -/
section HSS
variable {p : Program} {l : Launch} {e : Env} {R : Room} {s : State} {m : MethodId} {args : Array Value} {below : List Frame} {meth : Method} {c : Code} {T : State} {locs : List Loc} {cells slots : Nat} {y : MethodName} {ws : List Jvm.Cond} {rm : Room} {Pc : Array Value → State → Prop} {Qc : Array Value → State → Outcome → State → Prop} {mc ms n index : Nat} {free : Addr → Prop} {bytes : ByteArray} {maxL : Nat} {ret : Option FieldType} {own : String} {hs : List (Nat × Nat × Nat × Nat)}
def hp_W (R : Room) (s : State) (args : Array Value) (own : String) (index : Nat) (y : MethodName) (bytes : ByteArray) (maxL : Nat) (ret : Option FieldType) (hs : List (Nat × Nat × Nat × Nat)) (ws : List Jvm.Cond) (rm : Room) (mc ms n : Nat) : Prop :=
  (rm.cells = mc ∧ rm.slots = ms ∧ rm.frames + 1 ≤ R.frames ∧ 8 + (maxL + 11) + rm.locals ≤ R.locals) ∧ (∀ w ∈ ws, ∀ (a' : Array Value) (U : State), s.WarmedH U.vm → w.before a' U = true) ∧ Jvm.Cond.codeWith y bytes maxL ret hs ∈ ws ∧ (Jvm.Cond.codeWith y bytes maxL ret hs).before args s = true ∧ (Cond.initialized y.cls).before args s = true ∧ (y.cls ≠ "java/lang/invoke/MethodHandle" ∧ y.cls ≠ "java/lang/invoke/VarHandle") ∧ (∀ sig, parseMethodDescriptor y.desc = some sig → n = sig.parameters.length) ∧ (Cond.methodLink own index y).before args s = true ∧ (Cond.static y).before args s = true
theorem hp_back (cw : hp_W R s args own index y bytes maxL ret hs ws rm mc ms n) (hM : Met l y ws rm Pc Qc mc ms free) (hbl : FrameBlind Pc) : Back l R p e below s args y 3 8 (PreOf R mc ms Pc) (PostOf Qc mc ms free) := by
  obtain ⟨⟨hrc, hrs, hfr, hlo⟩, hws, hcw, -, hini, -⟩ := cw
  refine Back.of_freeWith (handlers := hs) (S := headSpec ws rm) (P := Pc) (K := fun _ _ _ _ _ => True) (Q := fun a st o t => Qc a st o t ∧ ∃ L, FrameEnd st o t L mc ms ∧ ∀ q ∈ L, free q.base) (bytes := bytes) (maxL := maxL) (ret := ret)
    (E := fun a st o t L k n => k = mc ∧ n = ms ∧ ∀ q ∈ L, free q.base) hM hfr hlo ?_ ?_ (fun _ _ _ _ _ _ _ _ _ => trivial) ?_ ?_
  · intro m meth c A a X hp
    exact ⟨atoms_intro fun w hw => hws w hw _ _ X.warmed, hws _ hcw _ _ X.warmed, word_at X.warmed (Or.inl (by first | rfl | simp [Cond.onTables, Cond.keeps, Cond.steady])) hini, by rw [show (headSpec ws rm).room.cells = mc from hrc]; exact hp.1, by rw [show (headSpec ws rm).room.slots = ms from hrs]; exact hp.2.1⟩
  · intro m meth c A a g mk X hp
    exact hbl _ _ _ _ hp.2.2
  · intro a st o t ⟨hq, L, hF, hL⟩
    exact ⟨L, mc, ms, hF, rfl, rfl, hL⟩
  · intro m meth c A a g mk v t L k n X hp hq hF ⟨e1, e2, hL⟩
    subst e1; subst e2
    exact ⟨g, mk, t, L, rfl, rfl, hq.1, rfl, hL, rfl, rfl⟩
variable {cc : ByteArray} {nL : Nat} {Ts : List Jvm.Cond} {H : Heap} {As rest : List Value} {g : JFrame}
theorem hp_run (S : CallFix p m c cc nL s args Ts own) (hM : Met l y ws rm Pc Qc mc ms free) (cw : hp_W R s args own index y bytes maxL ret hs ws rm mc ms n) (hp : PreS s H Pc As)
    (hg : g.method = m) (hn : As.length = n) (hsize : g.locals.size = nL) (hstack : g.stack = As.reverse ++ rest) (hW : 2 * g.monitorRoom + (rest.map fun v => v.category).sum ≤ 8) (hdg : decode cc g.pc = .ok (.invokestatic index, 3)) (hf : cells + mc ≤ R.cells ∧ slots + ms ≤ R.slots) :
    va_Run p l e R s m args below meth c H locs cells slots mc ms g rest (Qc As.toArray) free := by
  have hK : Back l R p e below s args y 3 8 (PreOf R mc ms Pc) (PostOf Qc mc ms free) := hp_back cw hM hp.1
  obtain ⟨-, -, -, hcode, hini, hy, hlen, hl, hstt⟩ := cw
  obtain ⟨hx, hb, hml, ho, -⟩ := S
  intro T hT X
  obtain ⟨mk, methM, cM, hnamed, hmethM, -, -, -, -, -, -, hsigM⟩ := Cond.codeWith_spec hcode
  have hstatic : methM.isStatic = true := Cond.static_spec hnamed hmethM hstt
  obtain ⟨kP, hkP, -⟩ := className_of_methodNamed hnamed
  have hinitP : kP.init = .initialized := Cond.initialized_spec (findClass_of_methodNamed hnamed) hkP hini
  obtain ⟨vm₁, X₁, hstep₁⟩ := X.invokestatic hx ho hl hnamed hmethM hstatic hkP hinitP hy (g := g) hg (argsL := As) (rest := rest) (by rw [hn]; exact hlen _ hsigM) hstack (by rw [hb]; exact hdg)
  obtain ⟨v, ⟨U', l2, c2, s2⟩, X', ⟨g', mk', t, L, e1, e2, hq, h1, hL, h2, h3⟩, hsteps⟩ := hK m meth c ⟨T.setVm vm₁, locs, cells, slots⟩ { g with stack := rest } (.invokestatic index) mk As.toArray X₁ hg (hsize.trans hml.symm) (by rw [hb]; exact hdg) hW (X₁.named hnamed) ⟨hf.1, hf.2, hp.2 (T.setVm vm₁) hT X₁.warmed⟩
  dsimp only [Pt.U, Pt.locs, Pt.cells, Pt.slots] at X' e1 e2 h1 h2 h3 hsteps
  subst h1; subst h2; subst h3
  exact ⟨v, (T.setVm vm₁).calling g' mk' As.toArray, t, U', L, hT, X', hL, e1, e2, hq, fun target h => hstep₁ _ fun acts => by rw [doInvoke_state]; exact hsteps.trans h⟩
end HSS
section HSL
variable {p : Program} {l : Launch} {e : Env} {R : Room} {s : State} {m : MethodId} {args : Array Value} {below : List Frame} {meth : Method} {c : Code} {H0 : Heap} {A : Nat → Prop} {cells slots : Nat} {Q : State → Prop} {D : va_G} {G : Nat → ClassId} {ad : Nat → Nat} {nL : Nat} {cc : ByteArray} {own : String} {Ts : List Jvm.Cond}
/-- a helper's call: a cell may come -/
theorem am_callSH {y : MethodName} {ws : List Jvm.Cond} {rm : Room} {P : am_P} {f : am_Fr} {g : am_Fm} {bytes : ByteArray} {maxL n idx pc : Nat} {ret : Option FieldType} {hs : List (Nat × Nat × Nat × Nat)}
    (hS0 : CallFix p m c cc nL s args Ts own) (hK : va_K D vw_cl (am_ty G) s) (hN : ∀ w ∈ vw_N, va_Nw w s) (hA : ∀ q, H0.size ≤ q → A q) (hcR : cells + 1 ≤ R.cells ∧ slots + 6 ≤ R.slots)
    (hok : hs_ok s) (hkeep : ∀ H locs, va_S A H0 H locs → ∀ (q : Addr) (cell : Cell), s.heap[q]? = some cell → cell.vm.isStatics = true → H[q]? = some cell)
    (hM : am_MH l y ws rm P f g) (cw : hp_W R s args own idx y bytes maxL ret hs ws rm 1 6 n) (hdg : decode cc pc = .ok (.invokestatic idx, 3))
    {ls : am_L} {st : List am_V} {M : am_M} (h1 : n ≤ st.length) (h2 : st.length ≤ n + 4) (hpre : P (st.take n).reverse M)
    (hret : am_A p l e R s m args below meth c H0 A (cells + 1) (slots + 6) Q D vw_cl G ad vw_S nL (pc + 3) ls ((f (st.take n).reverse M).toList ++ st.drop n) (g (st.take n).reverse M)) :
    am_A p l e R s m args below meth c H0 A cells slots Q D vw_cl G ad vw_S nL pc ls st M := by
  intro H locs lsA hP hD hS hH
  obtain ⟨es, el⟩ := am_stk h1
  generalize hav : (st.take n).reverse = av at *
  have hpr := am_pre (av := av) vw_N_ok hK hN hP hD
  have hps : PreS s H (fun a U => va_Pc (av.map (am_cv ad)) (am_B D vw_cl G ad vw_S vw_N H.size M) a U ∧ hs_ok U) (av.map (am_cv ad)) :=
    ⟨hs_blind hpr.1, fun U hU hW => ⟨hpr.2 U hU hW, hs_ok_mv hW (by rw [hU]; exact hkeep H locs hS) hok⟩⟩
  have hstk : (st.map (am_cv ad)) = (av.map (am_cv ad)).reverse ++ (st.drop n).map (am_cv ad) := by
    conv => lhs; rw [es]
    simp
  have hwt : ((st.drop n).map (am_cv ad) |>.map fun v => v.category).sum ≤ 8 := am_wt ad _ 4 (by simp; omega)
  have hlen : (av.map (am_cv ad)).length = n := by simpa using el
  have hr := hp_run (e := e) (below := below) (meth := meth) (locs := locs) hS0 (hM D G ad H.size M av hpre) cw hps (g := F0 m pc lsA (st.map (am_cv ad))) rfl hlen hH.1 hstk (lv_room hwt) hdg hcR
  refine am_backE (kk := fun r M' => r = f av M ∧ M' = g av M) hA hD hS hH hr (fun r M' h => h) ?_
  rintro r M' ⟨rfl, rfl⟩
  exact hret
/-- more cells and slots may be meant -/
theorem am_widen {k n pc : Nat} {ls : am_L} {st : List am_V} {M : am_M} (h1 : cells ≤ k) (h2 : slots ≤ n) (h : am_A p l e R s m args below meth c H0 A k n Q D vw_cl G ad vw_S nL pc ls st M) : am_A p l e R s m args below meth c H0 A cells slots Q D vw_cl G ad vw_S nL pc ls st M :=
  fun H locs lsA hP hD hS hH => W.widen h1 h2 (h H locs lsA hP hD hS hH)
/-- less known of the locals -/
theorem am_less {pc : Nat} {ls ls' : am_L} {st : List am_V} {M : am_M} (hl : ls'.length = ls.length) (hs : ∀ (i : Nat) (v : am_V), ls'[i]? = some (some v) → ls[i]? = some (some v)) (h : am_A p l e R s m args below meth c H0 A cells slots Q D vw_cl G ad vw_S nL pc ls' st M) : am_A p l e R s m args below meth c H0 A cells slots Q D vw_cl G ad vw_S nL pc ls st M :=
  fun H locs lsA hP hD hS hH => h H locs lsA hP hD hS ⟨hH.1, hH.2.1, hl.trans hH.2.2.1, fun i v hv => hH.2.2.2 i v (hs i v hv)⟩
end HSL
/-- the classes and the arrays of the law's start -/
theorem lw_K {s : State} {args : Array Value} {Ts : List Jvm.Cond} (hts : ∀ w ∈ Ts, w.before args s = true) (hW : ∀ w ∈ vw_W, w ∈ Ts) : ∃ (D : va_G) (G : Nat → ClassId), va_K D vw_cl (am_ty G) s := by
  have h : ∀ c : Nat, ∃ (cC : ClassId) (iS : Nat → Nat), ∀ q : vw_C, vw_cl[c]? = some q → u_Kn s q.1 q.2.1 q.2.2 cC iS := by
    intro c
    match c with
    | 0 =>
      obtain ⟨cC, iS, h⟩ := u_known (n := 10) hts (fun w h => hW w (u_SD w h)) (hts _ (hW _ (vw_t 24 (by decide +kernel) (by decide +kernel))))
      exact ⟨cC, iS, fun q hq => by cases hq; exact h⟩
    | 1 =>
      obtain ⟨cC, iS, h⟩ := u_known (n := 7) hts (fun w h => hW w (u_TS w h)) (hts _ (hW _ (vw_t 32 (by decide +kernel) (by decide +kernel))))
      exact ⟨cC, iS, fun q hq => by cases hq; exact h⟩
    | 2 =>
      obtain ⟨cC, iS, h⟩ := u_known (n := 3) hts (fun w h => hW w (u_RB w h)) (hts _ (hW _ (vw_t 75 (by decide +kernel) (by decide +kernel))))
      exact ⟨cC, iS, fun q hq => by cases hq; exact h⟩
    | 3 =>
      obtain ⟨cC, iS, h⟩ := u_known (n := 4) hts (fun w h => hW w (u_JL w h)) (hts _ (hW _ (vw_t 101 (by decide +kernel) (by decide +kernel))))
      exact ⟨cC, iS, fun q hq => by cases hq; exact h⟩
    | 4 =>
      obtain ⟨cC, iS, h⟩ := u_known (n := 4) hts (fun w h => hW w (u_EL w h)) (hts _ (hW _ (vw_t 127 (by decide +kernel) (by decide +kernel))))
      exact ⟨cC, iS, fun q hq => by cases hq; exact h⟩
    | 5 =>
      obtain ⟨cC, iS, h⟩ := u_known (n := 5) hts (fun w h => hW w (u_LO w h)) (hts _ (hW _ (vw_t 157 (by decide +kernel) (by decide +kernel))))
      exact ⟨cC, iS, fun q hq => by cases hq; exact h⟩
    | 6 =>
      obtain ⟨cC, iS, h⟩ := u_known (n := 4) hts (fun w h => hW w (u_SM w h)) (hts _ (hW _ (vw_t 151 (by decide +kernel) (by decide +kernel))))
      exact ⟨cC, iS, fun q hq => by cases hq; exact h⟩
    | 7 =>
      obtain ⟨cC, iS, h⟩ := u_known (n := 5) hts (fun w h => hW w (u_BU w h)) (hts _ (hW _ (vw_t 226 (by decide +kernel) (by decide +kernel))))
      exact ⟨cC, iS, fun q hq => by cases hq; exact h⟩
    | 8 =>
      obtain ⟨cC, iS, h⟩ := u_known (n := 5) hts (fun w h => hW w (u_QU w h)) (hts _ (hW _ (vw_t 200 (by decide +kernel) (by decide +kernel))))
      exact ⟨cC, iS, fun q hq => by cases hq; exact h⟩
    | 9 =>
      obtain ⟨cC, iS, h⟩ := u_known (n := 7) hts (fun w h => hW w (u_CO w h)) (hts _ (hW _ (vw_t 192 (by decide +kernel) (by decide +kernel))))
      exact ⟨cC, iS, fun q hq => by cases hq; exact h⟩
    | 10 =>
      obtain ⟨cC, iS, h⟩ := u_known (n := 6) hts (fun w h => hW w (u_RF w h)) (hts _ (hW _ (vw_t 281 (by decide +kernel) (by decide +kernel))))
      exact ⟨cC, iS, fun q hq => by cases hq; exact h⟩
    | 11 =>
      obtain ⟨cC, iS, h⟩ := u_known (n := 46) hts (fun w h => hW w (u_MO w h)) (hts _ (hW _ (vw_t 798 (by decide +kernel) (by decide +kernel))))
      exact ⟨cC, iS, fun q hq => by cases hq; exact h⟩
    | n + 12 => exact ⟨0, fun _ => 0, fun q h => by simp [vw_cl] at h⟩
  have harr : ∀ ty : FieldType, Jvm.Cond.arrayClass ty ∈ vw_W → ∃ cA : ClassId, ArrOfT s cA ty ∧ s.vm.findClass ("[" ++ ty.toString) = some cA := by
    intro ty hw
    obtain ⟨cA, kA, comp, h1, h2, h3⟩ := Cond.arrayClass_spec (hts _ (hW _ hw))
    exact ⟨cA, fun n z => ⟨fun k h => (by cases h), kA, h2, comp, h3⟩, h1⟩
  obtain ⟨g0, a0, b0⟩ := harr .int (vw_t 73 (by decide +kernel) (by decide +kernel))
  obtain ⟨g1, a1, b1⟩ := harr .boolean (vw_t 125 (by decide +kernel) (by decide +kernel))
  obtain ⟨g2, a2, b2⟩ := harr .long (vw_t 1099 (by decide +kernel) (by decide +kernel))
  refine ⟨(fun c => (h c).choose, fun c => (h c).choose_spec.choose), fun k => [g0, g1, g2].getD k 0, fun c q hq => (h c).choose_spec.choose_spec q hq, fun k q hk => ?_⟩
  match k, hk with
  | 0, hk => cases hk; exact ⟨a0, b0⟩
  | 1, hk => cases hk; exact ⟨a1, b1⟩
  | 2, hk => cases hk; exact ⟨a2, b2⟩
  | n + 3, hk => simp [am_ty] at hk
