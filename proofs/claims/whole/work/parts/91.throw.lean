/-! what is thrown -/
section TH
variable {p : Program} {l : Launch} {e : Env} {R : Room} {s : State} {m : MethodId} {args : Array Value} {below : List Frame} {meth : Method} {c : Code} {T : State} {locs : List Loc} {cells slots : Nat}
/-- the walk, as if it had begun with the heap and the tables of now -/
def th_s (s T : State) : State := ({ s with heap := T.heap, slotsUsed := T.slotsUsed } : State).setVm T.vm
theorem th_base (X : Stand p l e R s m args below meth c T locs cells slots) (h1 : cells ≤ R.cells) (h2 : slots ≤ R.slots) : Stand p l e { R with cells := R.cells - cells, slots := R.slots - slots } (th_s s T) m args below meth c T [] 0 0 := by
  have hal := X.warmed.alike
  have hfr : (th_s s T).frames = s.frames := rfl
  have hme : (th_s s T).me = s.me := rfl
  have hT : T = { (th_s s T).setFrames T.frames with heap := T.heap, slotsUsed := T.slotsUsed } := by
    have h1 := X.same.1
    have h2 : T = (T.setVm s.vm).setVm T.vm := rfl
    rw [h1] at h2
    exact h2
  have hmeth : (th_s s T).vm.method? m = some meth := by
    show T.vm.method? m = some meth
    rw [hal.method?]; exact X.method
  refine ⟨X.admits, X.cas, X.clock, X.frames, ?_, ?_, hmeth, X.code, X.here, X.tail, State.WarmedH.refl _, X.limits, X.bytes, ?_⟩
  · have hr := X.room
    have hz := X.heapSize
    have hu := X.used
    have hb := X.book
    have hl : (th_s s T).localsInUse = s.localsInUse := by
      rw [State.localsInUse_invoking X.frames X.method X.code, State.localsInUse_invoking (s := th_s s T) X.frames hmeth X.code]
    simp only [State.hasRoom, Bool.and_eq_true, decide_eq_true_eq] at hr ⊢
    rw [hl]
    obtain ⟨⟨⟨⟨r1, r2⟩, r3⟩, r4⟩, r5⟩ := hr
    refine ⟨⟨⟨⟨r1, r2⟩, ?_⟩, ?_⟩, hb⟩
    · show T.heap.size + (R.cells - cells) ≤ _
      omega
    · show T.slotsUsed + (R.slots - slots) ≤ _
      omega
  · have hh := X.hears
    have hm : ∀ q, (th_s s T).vm.method? q = s.vm.method? q := fun q => by show T.vm.method? q = _; rw [hal.method?]
    have hc : ∀ q, (th_s s T).code? q = s.code? q := fun q => State.code?_setVm (s := ({ s with heap := T.heap, slotsUsed := T.slotsUsed } : State)) hal q
    cases below with
    | nil => unfold State.hears at hh ⊢; rw [hm]; exact hh
    | cons f r =>
      cases f
      case java g =>
        show (((th_s s T).code? g.method).bind fun c => (decode c.code g.pc).toOption).isSome = true
        rw [hc]
        exact hh
      all_goals first | exact hh | (show Option.any (fun x => x.sig.returnType.isNone) ((th_s s T).vm.method? m) = true; rw [hm]; exact hh)
  · refine ⟨hT, Nat.le_refl _, Nat.le_refl _, ?_, ?_, fun a c' hc => ⟨c', hc, rfl, rfl, fun _ _ => rfl⟩⟩
    · show T.slotsUsed = T.slotsUsed + ((T.heap.toList.drop T.heap.size).map (·.slots.size)).sum
      rw [List.drop_of_length_le (by simp)]
      simp
    · show ((T.heap.toList.drop T.heap.size).map (·.slots.size)).sum ≤ 0
      rw [List.drop_of_length_le (by simp)]
      simp
set_option maxHeartbeats 1000000 in
/-- a new exception with a text is made and thrown, its class's constructor calling the next one by any entry; no traces -/
theorem th_ctor (X : Stand p l e R s m args below meth c T locs cells slots) (hexec : p.tables.exec = Jvm.exec) (htr : e.platform.stackTraces = false) {own cls : String} {names : List String} {ic ix : Nat} {rx : ByteArray}
    (x0 : decode rx 0 = .ok (.aload_n 0, 1)) (x1 : decode rx 1 = .ok (.aload_n 1, 1)) (x2 : decode rx 2 = .ok (.invokespecial ix, 3)) (x5 : decode rx 5 = .ok (.return_, 1))
    (hown : s.vm.findClass own = some m.cls) (hcls : Jvm.Bundle.fit cls = true) (hnames : ∀ n ∈ names, Jvm.Bundle.fit n = true) (h : ∀ a ∈ Jvm.Bundle.ownAtomsX own ic cls ix rx names, a.before args s = true)
    (hlocs : ∀ x ∈ locs, ∀ cell, s.heap[x.base]? = some cell → cell.vm.isStatics = false)
    {a : Addr} {cX : ClassId} {kX : Class} (hfX : s.vm.findClass cls = some cX) (hkX : s.vm.classes[cX]? = some kX) (hcell : T.heap[a]? = some (freshCell cX kX)) (hnew : s.heap.size ≤ a) {msg : Value} (hmsg : msg.isRef = true)
    {g : JFrame} (hg : g.method = m) (hsize : g.locals.size = c.maxLocals) (hlocked : g.locked = none) (hentered : g.entered = []) {rest : List Value} (hstack : g.stack = msg :: .ref a :: .ref a :: rest)
    (hd6 : decode c.code g.pc = .ok (.invokespecial ic, 3)) (hd9 : decode c.code (g.pc + 3) = .ok (.athrow, 1)) (hout : ∀ x ∈ c.exceptionTable.toList, covers x (g.pc + 3) = false)
    (hRf : names.length + 3 < R.frames) (hRl : 2 * g.monitorRoom + ((Value.ref a :: rest).map fun v => v.category).sum + (13 * (names.length + 1) + 42) ≤ R.locals) (hlocks : meth.locks = false) :
    ∃ U : State, Steps p.tables e below (T.setTop g) U ∧ U.status = .running ∧ Ended U below (.threw a) ∧ s.WarmedH U.vm ∧ s.sameButNew ({ U with vm := s.vm } : State) locs cells slots ∧ ∃ ce, U.heap[a]? = some ce ∧ ce.cls = cX ∧ ce.vm = .none := by
  have howns : e.platform.frameOwnsMonitors = true := by rw [X.admits.platform]
  have hfin : e.platform.finalization = false := by rw [X.admits.platform]
  have hpl : e.platform.magicAccessors = ({} : Platform).magicAccessors := by rw [X.admits.platform]
  have w : ∀ x, x ∈ Jvm.Bundle.ownAtomsX own ic cls ix rx names → x.holds args s none s [] = true := fun x hx => h x hx
  obtain ⟨C, Z0, L, -, Y⟩ := ThrowableC.of_atoms (args := args) howns hfin hpl (fun x hx => h x (by simp [Jvm.Bundle.ownAtomsX, hx]))
  obtain ⟨Z, K, LZ, LK, hnZ⟩ := Init0T.ofS_atoms (args := args) hpl L Y (fun x hx => h x (by simp [Jvm.Bundle.ownAtomsX, hx]))
  obtain ⟨P1, Ps, hlen, L1, hL, hP1, hlink1, hlink⟩ := Jvm.Bundle.chainSX (args := args) hpl hnZ x0 x1 x2 x5 names cls hcls hnames (fun x hx => h x (by simp [Jvm.Bundle.ownAtomsX, hx]))
  have hf : s.vm.findClass cls = some P1.m.cls := findClass_of_methodNamed hP1
  cases Option.some.inj (hfX.symm.trans hf)
  obtain ⟨c1, k1, hc1, hk, hord, -, -, hn6⟩ := Cond.instantiable_spec (w (.instantiable cls 6) (by simp [Jvm.Bundle.ownAtomsX]))
  cases Option.some.inj (hc1.symm.trans hf)
  cases Option.some.inj (hkX.symm.trans hk)
  have sel : ∀ (y : MethodName) (id : MethodId), (Jvm.Cond.selects cls y y).holds args s none s [] = true → s.methodNamed? y = some id → (y.cls ≠ "java/lang/invoke/MethodHandle" ∧ y.cls ≠ "java/lang/invoke/VarHandle") → selectMethod e.platform s.vm P1.m.cls id = .method id := by
    intro y id h1 h2 h3
    obtain ⟨c2, r2, m2, q1, q2, q3, q4, -⟩ := Cond.selects_spec h1
    cases Option.some.inj (q1.symm.trans hf)
    cases Option.some.inj (q2.symm.trans (State.methodFound?_of_named h2 h3))
    cases Option.some.inj (q3.symm.trans h2)
    rw [Launch.admits_selectMethod X.admits]; exact q4
  have hs0 := sel Jvm.Bundle.tFill0 C.fill0 (w (.selects cls Jvm.Bundle.tFill0 Jvm.Bundle.tFill0) (by simp [Jvm.Bundle.ownAtomsX])) Y.fill0 (by decide)
  have hs1 := sel Jvm.Bundle.tFill C.fill (w (.selects cls Jvm.Bundle.tFill Jvm.Bundle.tFill) (by simp [Jvm.Bundle.ownAtomsX])) Y.fill (by decide)
  obtain ⟨cS0, hcS0, hiss⟩ := Y.statics
  obtain ⟨u0, hu0⟩ := Cond.staticRefV Y.unassigned L.unassignedStatic L.statics hcS0 hiss (w (.isRef (.static Jvm.Bundle.tN "UNASSIGNED_STACK" Jvm.Bundle.steD)) (by simp [Jvm.Bundle.ownAtomsX]))
  obtain ⟨se, hse⟩ := Cond.staticRefV Y.sentinel L.sentinelStatic L.statics hcS0 hiss (w (.isRef (.static Jvm.Bundle.tN "SUPPRESSED_SENTINEL" Jvm.Bundle.listD)) (by simp [Jvm.Bundle.ownAtomsX]))
  obtain ⟨ci, ii, fB, b1, b2, b3, hsB, -, hnB, htB, hffB⟩ := Cond.ownField (t := .object "java/lang/Object") Y.found L.cls (by decide +kernel) (w (.fieldLink Jvm.Bundle.tN 198 Jvm.Bundle.tN "backtrace" "Ljava/lang/Object;") (by simp [Jvm.Bundle.ownAtomsX])) (w (.lays Jvm.Bundle.tN Jvm.Bundle.tN "backtrace" "Ljava/lang/Object;") (by simp [Jvm.Bundle.ownAtomsX])) e.platform hpl
  obtain ⟨cS, hcS', heS, -, hkeep⟩ := X.same.2.2.2.2.2 C.aS cS0 hcS0
  have hcS : T.heap[C.aS]? = some cS := hcS'
  have hno : ∀ i, (⟨C.aS, i⟩ : Loc) ∉ locs := fun i hm => by
    have := hlocs _ hm cS0 hcS0
    rw [hiss] at this; cases this
  have hkn : cS.vm ≠ .unknown := by
    rw [heS]; intro hu
    rw [show cS0.vm = .unknown from hu] at hiss
    cases hiss
  have hne : C.aS ≠ a := Nat.ne_of_lt (Nat.lt_of_lt_of_le (Array.getElem?_eq_some_iff.mp hcS0).1 hnew)
  obtain ⟨iM, hffM⟩ := Y.msg
  obtain ⟨tC, dC, hdC, hnC⟩ := Cond.laysAt hf hk Y.cause (w (.lays cls Jvm.Bundle.tN "cause" "Ljava/lang/Throwable;") (by simp [Jvm.Bundle.ownAtomsX]))
  obtain ⟨tS, dS, hdS, hnS⟩ := Cond.laysAt hf hk Y.stack (w (.lays cls Jvm.Bundle.tN "stackTrace" Jvm.Bundle.steD) (by simp [Jvm.Bundle.ownAtomsX]))
  obtain ⟨tP, dP, hdP, hnP⟩ := Cond.laysAt hf hk Y.supp (w (.lays cls Jvm.Bundle.tN "suppressedExceptions" Jvm.Bundle.listD) (by simp [Jvm.Bundle.ownAtomsX]))
  obtain ⟨tM, dM, hdM, hnM⟩ := Cond.laysAt hf hk hffM (w (.lays cls Jvm.Bundle.tN "detailMessage" "Ljava/lang/String;") (by simp [Jvm.Bundle.ownAtomsX]))
  obtain ⟨tB, dB, hdB, hnB2⟩ := Cond.laysAt hf hk hffB (w (.lays cls Jvm.Bundle.tN "backtrace" "Ljava/lang/Object;") (by simp [Jvm.Bundle.ownAtomsX]))
  have bC := Cond.laysApart hdB hdC hnB2 hnC (by rw [hnB, Y.causeName]; decide)
  have bS := Cond.laysApart hdB hdS hnB2 hnS (by rw [hnB, Y.stackName]; decide)
  have bP := Cond.laysApart hdB hdP hnB2 hnP (by rw [hnB, Y.suppName]; decide)
  have hskip : SkipFacts C e.platform s (fun u => u) u0 ((preparedCellV C.toThrowableT (freshCell P1.m.cls kX) a u0 se).withEntry T.cur) :=
    ⟨{ ci198 := ci, i198 := ii, fBack := fB }, ⟨b1, b2, b3, hsB⟩, by
      have q := fresh_default (c := P1.m.cls) tB
      rw [htB] at q
      simpa [preparedCellV, Cell.setSlot, Cell.withEntry, Array.getElem?_setIfInBounds, bC, bS, bP, bC.symm, bS.symm, bP.symm, defaultValue] using q, fun _ _ => rfl⟩
  obtain ⟨tm, mC, cdC, kC, vm₁, hn1, -, -, -, -, -, -, -, hW₁, st1⟩ := Steps.initColdS (tb := p.tables) (e := e) (below := below) (s := s) (U := T) X.here hexec X.warmed hpl hown (t := Jvm.Bundle.initS cls) rfl rfl (Jvm.Bundle.fit_spec hcls).2
    (w (.methodLink own ic (Jvm.Bundle.initS cls)) (by simp [Jvm.Bundle.ownAtomsX])) (h (.instanceMethod (Jvm.Bundle.initS cls)) (by cases names <;> simp [Jvm.Bundle.ownAtomsX, Jvm.Bundle.chainSAtomsX, Jvm.Bundle.passSAtoms])) (bytes := rx) (maxL := 2) (h (.code (Jvm.Bundle.initS cls) rx 2 none) (by cases names <;> simp [Jvm.Bundle.ownAtomsX, Jvm.Bundle.chainSAtomsX, Jvm.Bundle.passSAtoms]))
    (f := g) hg (a := a) (msg := msg) (rest := .ref a :: rest) hstack hd6
  cases Option.some.inj (hn1.symm.trans hP1)
  have X₁ := X.noted hW₁
  obtain ⟨vm₂, X₂, st2⟩ := X₁.ctorMessageOffV hexec (g := { g with stack := .ref a :: rest }) hg hsize C L Z LZ K LK (P1 :: Ps)
    (fun P hP => by rcases List.mem_cons.mp hP with rfl | hP; exact L1; exact hL P hP) ⟨hlink1, hlink⟩ (u0 := u0) (sen := se) (self := a) hmsg (cell := freshCell P1.m.cls kX) (cellS := cS)
    hcell (fun _ => by simp) (by simp) rfl rfl hs0 hs1 hcS hne hkn (by rw [hkeep _ (hno _)]; exact hu0) (by rw [hkeep _ (hno _)]; exact hse)
    (Takes.of_laid hk hord tC (by rw [Y.causeType]; rfl)) (Takes.of_laid hk hord tS (by rw [Y.stackType]; exact fits_refV_array _ u0)) (Takes.of_laid hk hord tP (by rw [Y.suppType]; exact fits_refV_object _ se))
    (Takes.of_laid hk hord tM (by rw [Y.msgType]; exact fits_refV_object _ ⟨msg, hmsg⟩)) Y.objLocals hskip htr [] hd6
    (by simp only [List.length_cons, hlen]; omega) (by simp only [List.length_cons, hlen]; exact hRl)
  obtain ⟨hwalk, hrun, hend, hWU, hsame⟩ := X₂.athrowLeaves hexec (g := { g with stack := .ref a :: rest, pc := g.pc + 3 }) hg hlocked hentered hout (a := a) (rest := rest) rfl hd9
  have hlt : a < ((T.setVm vm₁).setVm vm₂).heap.size := (Array.getElem?_eq_some_iff.mp hcell).1
  have hU := heapAt_setCell_self (s := (T.setVm vm₁).setVm vm₂) (plainBareV C.toThrowableT (freshCell P1.m.cls kX) a u0 se msg) hlt
  refine ⟨_, st1 _ (fun acts => ?_), hrun, hend, hWU, hsame.weaken (fun y hy hy2 => ?_) (Nat.le_refl _) (Nat.le_refl _), _, hU, rfl, rfl⟩
  · rw [doInvoke_state]
    exact st2 _ hwalk
  · rcases List.mem_append.mp hy with h1 | h1
    · exact h1
    · have hb : y.base = a := by
        simp only [List.mem_cons, List.not_mem_nil, or_false] at h1
        rcases h1 with rfl | rfl | rfl | rfl | rfl <;> rfl
      rw [hb] at hy2
      exact absurd hy2 (Nat.not_lt.mpr hnew)
def th_jx (C : String) : Nat := if C = "java/util/NoSuchElementException" then 13 else 7
def th_rx (C : String) : ByteArray := if C = "java/util/NoSuchElementException" then ⟨#[0x2a, 0x2b, 0xb7, 0x00, 0x0d, 0xb1]⟩ else ⟨#[0x2a, 0x2b, 0xb7, 0x00, 0x07, 0xb1]⟩
theorem th_rx_ok (C : String) : decode (th_rx C) 0 = .ok (.aload_n 0, 1) ∧ decode (th_rx C) 1 = .ok (.aload_n 1, 1) ∧ decode (th_rx C) 2 = .ok (.invokespecial (th_jx C), 3) ∧ decode (th_rx C) 5 = .ok (.return_, 1) := by
  unfold th_rx th_jx
  split
  · exact ⟨by decide +kernel, by decide +kernel, by decide +kernel, by decide +kernel⟩
  · exact ⟨by decide +kernel, by decide +kernel, by decide +kernel, by decide +kernel⟩
/-- the words that a throw stands on -/
def th_w (C : String) (ix ic is : Nat) (text : String) : List Jvm.Cond := Jvm.Bundle.ownAtomsX "ServerDesk" ic C (th_jx C) (th_rx C) ["java/lang/RuntimeException", "java/lang/Exception"] ++ [.classLink "ServerDesk" ix C, .initialized C, .stringRef "ServerDesk" is text]
set_option maxHeartbeats 1000000 in
theorem th_throw (X : Stand p l e R s m args below meth c T locs cells slots) (hexec : p.tables.exec = Jvm.exec) (htr : e.platform.stackTraces = false) {cc : ByteArray} (hb : c.code = cc) (hlk : meth.locks = false) (hml : c.exceptionTable.isEmpty = true)
    {C : String} {ix ic is : Nat} {text : String} (hC : Jvm.Bundle.fit C = true) (hown : s.vm.findClass "ServerDesk" = some m.cls) (hT : ∀ w ∈ th_w C ix ic is text, w.before args (th_s s T) = true)
    {pc : Nat} {ls : Array Slot} (hsz : ls.size = c.maxLocals) (d0 : decode cc pc = .ok (.new ix, 3)) (d3 : decode cc (pc + 3) = .ok (.dup, 1)) (d4 : decode cc (pc + 4) = .ok (.ldc is, 2)) (d6 : decode cc (pc + 6) = .ok (.invokespecial ic, 3)) (d9 : decode cc (pc + 9) = .ok (.athrow, 1))
    (hcells : cells + 1 ≤ R.cells) (hslots : slots + 6 ≤ R.slots) (hfr : 5 < R.frames) (hlo : 82 ≤ R.locals) :
    ∃ U : State, Steps p.tables e below (T.setTop (F0 m pc ls [])) U ∧ U.status = .running ∧ Ended U below (.threw T.heap.size) ∧ s.WarmedH U.vm ∧ s.sameButNew ({ U with vm := s.vm } : State) locs (cells + 1) (slots + 6) ∧ (∀ q, q < T.heap.size → U.heap[q]? = T.heap[q]?) ∧ ∃ ce, U.heap[T.heap.size]? = some ce ∧ s.vm.findClass C = some ce.cls ∧ ce.vm = .none := by
  have X0 := th_base X (by omega) (by omega)
  have hal := X.warmed.alike
  have hown0 : (th_s s T).vm.findClass "ServerDesk" = some m.cls := by show T.vm.findClass _ = _; rw [hal.findClass]; exact hown
  have hpre : ∀ w ∈ th_w C ix ic is text, w.before args (th_s s T) = true := hT
  obtain ⟨vm₁, cX, kX, hfX, hkX, -, -, X₁, st1⟩ := X0.newCold hexec (own := "ServerDesk") (C := C) (index := ix) (n := 6) hown0 (hpre _ (by simp [th_w])) (hpre (.instantiable C 6) (by simp [th_w, Jvm.Bundle.ownAtomsX])) (hpre (.initialized C) (by simp [th_w]))
    (g := F0 m pc ls []) rfl (by rw [hb]; exact d0) (by show 0 + 1 ≤ R.cells - cells; omega) (by show 0 + 6 ≤ R.slots - slots; omega)
  generalize hT1 : (T.setVm vm₁).pushCell { cls := cX, slots := kX.instanceTypes.map defaultValue, vm := .none } = T1 at X₁ st1
  have hcellA : T1.heap[T.heap.size]? = some (freshCell cX kX) := by rw [← hT1]; exact State.heap_pushCell_size _ _
  have hconst := hpre (.stringRef "ServerDesk" is text) (by simp [th_w])
  obtain ⟨-, -, -, sa, -, -, -, -, -, hev⟩ := Cond.stringRef_spec hown0 hconst
  obtain ⟨x0, x1, x2, x5⟩ := th_rx_ok C
  obtain ⟨U, hsteps, hrun, hend, hW, hsame, ce, hce, K1, K2⟩ := th_ctor X₁ hexec htr (own := "ServerDesk") (cls := C) (names := ["java/lang/RuntimeException", "java/lang/Exception"]) (ic := ic) x0 x1 x2 x5 hown0 hC (by decide +kernel)
    (fun y hy => hpre y (by simp [th_w, hy])) (fun y hy => by cases hy) hfX hkX hcellA (Nat.le_refl _) (msg := .ref sa) rfl
    (g := F0 m (pc + 6) ls [.ref sa, .ref T.heap.size, .ref T.heap.size]) rfl hsz rfl rfl (rest := []) rfl
    (by rw [hb]; exact d6) (by rw [hb]; exact d9) (covers_of_empty hml _) (by show 2 + 3 < R.frames; omega) (by
        show 2 * 0 + ([Value.ref T.heap.size].map fun v => v.category).sum + (13 * (2 + 1) + 42) ≤ R.locals
        simp [Value.category]
        omega) (hlocks := hlk)
  have hWs : s.WarmedH U.vm := State.WarmedH.trans X.warmed hW
  obtain ⟨e2, q2, q3, q4, q5, q6⟩ := hsame
  have keep : ∀ q, q < T.heap.size → U.heap[q]? = T.heap[q]? := fun q hq => by
    have hcq : (th_s s T).heap[q]? = some T.heap[q] := Array.getElem?_eq_getElem hq
    exact (State.sameButNew.old_cell ⟨e2, q2, q3, q4, q5, q6⟩ hcq).trans (Array.getElem?_eq_getElem hq).symm
  have hTf : T = { (th_s s T).setFrames T.frames with heap := T.heap, slotsUsed := T.slotsUsed } := by
    have h1 := X.same.1
    have h2 : T = (T.setVm s.vm).setVm T.vm := rfl
    rw [h1] at h2
    exact h2
  have hB : T.sameButNew ({ U with vm := T.vm } : State) [] 1 6 := by
    refine ⟨?_, q2, q3, q4, q5, q6⟩
    have e3 : ({ U with vm := T.vm } : State) = { (th_s s T).setFrames U.frames with heap := U.heap, slotsUsed := U.slotsUsed } := e2
    have e4 : (T.setFrames U.frames) = { (th_s s T).setFrames U.frames with heap := T.heap, slotsUsed := T.slotsUsed } := by
      have h5 := congrArg (fun Z : State => Z.setFrames U.frames) hTf
      exact h5.trans (congrArg (fun Z : State => ({ Z with heap := T.heap, slotsUsed := T.slotsUsed } : State)) (State.setFrames_setFrames (th_s s T) T.frames U.frames))
    show ({ U with vm := T.vm } : State) = { T.setFrames U.frames with heap := U.heap, slotsUsed := U.slotsUsed }
    rw [e4]
    exact e3
  refine ⟨U, ?_, hrun, hend, hWs, ?_, keep, ce, hce, ?_, K2⟩
  · refine st1 _ ?_
    show Steps p.tables e below (T1.setTop (F0 m (pc + 3) ls [.ref T.heap.size])) _
    jvm_step X₁.here [X₁.here.top, hexec, hb, d3, Value.category]
    exact X₁.ldcString hexec (own := "ServerDesk") (text := text) (index := is) (a := sa) hown0 hconst hev (g := F0 m (pc + 4) ls [.ref T.heap.size, .ref T.heap.size]) rfl (by rw [hb]; exact d4) _ hsteps
  · have h6 := X.same.trans (hB.setVm s.vm)
    rw [List.append_nil] at h6
    exact h6
  · have q : (th_s s T).vm.findClass C = some ce.cls := by rw [K1]; exact hfX
    rw [show (th_s s T).vm = T.vm from rfl, hal.findClass] at q
    exact q
end TH
def th_k : Jvm.Cond → Bool
  | .laysStatic .. => true
  | .stringRef .. => true
  | .isRef (.static ..) => true
  | c => c.onTables && c.keepsFace
theorem th_mv {s U : State} {a' : Array Value} (hW : s.WarmedH U.vm) (hS : ∀ (q : Addr) (cell : Cell), s.heap[q]? = some cell → cell.vm.isStatics = true → U.heap[q]? = some cell) (w : Jvm.Cond) (hk : th_k w = true) (h : w.before #[] s = true) : w.before a' U = true := by
  have hU : U.setVm U.vm = U := rfl
  have gen : (w.onTables && w.keepsFace) = true → w.before a' U = true := fun g => by
    rw [Bool.and_eq_true] at g
    have h1 := Cond.before_shiftedFace (State.Shifted.of_warmed hW) w g.2 h
    rw [← hU, ← Cond.onTables_vm (A := #[]) (A' := a') (U := s) (U' := U) U.vm w g.1]
    exact h1
  unfold th_k at hk
  split at hk
  · rename_i C f d
    have h1 := Cond.before_shiftedFace (State.Shifted.of_warmed hW) (.laysStatic C f d) rfl h
    simp only [Cond.before, Cond.holds, Cond.value] at h1 ⊢
    rw [show (s.setVm U.vm).vm.findClass C = U.vm.findClass C from rfl, show (s.setVm U.vm).fieldFound? C f d = U.fieldFound? C f d from rfl] at h1
    cases hf : U.vm.findClass C with
    | none => simp [hf] at h1
    | some c =>
      cases hg : U.fieldFound? C f d with
      | none => simp [hf, hg] at h1
      | some q =>
        obtain ⟨c', k, i, fd⟩ := q
        simp only [hf, hg] at h1 ⊢
        cases hs : k.statics with
        | none => simp [hs] at h1
        | some a =>
          simp only [hs, Option.bind_some] at h1 ⊢
          cases hc : s.heap[a]? with
          | none => rw [show (s.setVm U.vm).heap[a]? = s.heap[a]? from rfl, hc] at h1; simp at h1
          | some cell =>
            rw [show (s.setVm U.vm).heap[a]? = s.heap[a]? from rfl, hc] at h1
            have hi : cell.vm.isStatics = true := by
              simp only [Option.map_some, beq_iff_eq, Option.some.injEq, Bool.and_eq_true] at h1
              exact h1.1.1.1.2
            rw [hS a cell hc hi]
            exact h1
  · rename_i C i t
    have h1 := Cond.stringRef_warmed hW h
    exact h1
  · rename_i C f d
    have h1 := Cond.before_shiftedFace (State.Shifted.of_warmed hW) (.isRef (.static C f d)) rfl h
    simp only [Cond.before, Cond.holds, Cond.value, Term.eval] at h1 ⊢
    have e1 : (s.setVm U.vm).fieldNamed? C f d true = U.fieldNamed? C f d true := rfl
    rw [e1] at h1
    cases hf : U.fieldNamed? C f d true with
    | none => simp [hf] at h1
    | some q =>
      obtain ⟨c, k, sl⟩ := q
      simp only [hf] at h1 ⊢
      cases hs : k.statics with
      | none => simp [hs] at h1
      | some a =>
        cases hc : s.heap[a]? with
        | none => simp [hs, show (s.setVm U.vm).heap[a]? = s.heap[a]? from rfl, hc] at h1
        | some cell =>
          by_cases hi : cell.vm.isStatics = true
          · simp only [hs, show (s.setVm U.vm).heap[a]? = s.heap[a]? from rfl, hc, hS a cell hc hi, Option.bind_eq_bind, Option.bind_some] at h1 ⊢
            exact h1
          · simp [hs, show (s.setVm U.vm).heap[a]? = s.heap[a]? from rfl, hc, hi] at h1
  · exact gen hk
/-- all blocks of the class that throw: class, its entry, the constructor's, the text's, the text -/
def th_bl : List (String × Nat × Nat × Nat × String) := [("java/lang/IllegalArgumentException", 80, 84, 82, "a number of the task is out of its range"), ("java/lang/IllegalStateException", 90, 94, 92, "it has started or there are five tasks"), ("java/lang/UnsupportedOperationException", 99, 103, 101, "the hyperperiod would be above 2000"), ("java/lang/IllegalArgumentException", 80, 84, 115, "a number of the rule is out of its range"), ("java/lang/IllegalStateException", 90, 94, 117, "it has started"), ("java/lang/IllegalStateException", 90, 94, 130, "it has started or the rule is not admitted"), ("java/lang/IllegalArgumentException", 80, 84, 136, "not 1 to 100 ticks"), ("java/lang/IllegalStateException", 90, 94, 138, "it has not started or the moment would be above 2000"), ("java/lang/IllegalArgumentException", 80, 84, 143, "not a cost of 1 to 30"), ("java/lang/IllegalStateException", 90, 94, 146, "it has not started or there were 40 jobs"), ("java/lang/IllegalArgumentException", 80, 84, 152, "a number of the hard job is out of its range"), ("java/lang/IllegalStateException", 90, 94, 154, "not started, 40 jobs or another rule than 3"), ("java/lang/IllegalArgumentException", 80, 84, 177, "no such task or number of ticks"), ("java/lang/IllegalStateException", 90, 94, 180, "it has not started or 200 were told"), ("java/util/NoSuchElementException", 190, 194, 192, "no such job"), ("java/lang/IllegalStateException", 90, 94, 198, "it has not started"), ("java/lang/IndexOutOfBoundsException", 203, 207, 205, "there was no such tick"), ("java/lang/IllegalArgumentException", 80, 84, 208, "not 0 <= from <= to <= now"), ("java/lang/IllegalArgumentException", 80, 84, 210, "no such rule"), ("java/lang/UnsupportedOperationException", 99, 103, 212, "the rule is not admitted so"), ("java/lang/IllegalArgumentException", 80, 84, 243, "no such what")]
def th_ws (b : String × Nat × Nat × Nat × String) : List Jvm.Cond := th_w b.1 b.2.1 b.2.2.1 b.2.2.2.1 b.2.2.2.2
def th_ok (U : State) : Prop := ∀ b ∈ th_bl, ∀ w ∈ th_ws b, w.before #[] U = true
theorem th_kall : ∀ b ∈ th_bl, ∀ w ∈ th_ws b, th_k w = true := by
  have h : th_bl.all (fun b => (th_ws b).all th_k) = true := by decide +kernel
  intro b hb w hw
  exact List.all_eq_true.mp (List.all_eq_true.mp h b hb) w hw
theorem th_fit : ∀ b ∈ th_bl, Jvm.Bundle.fit b.1 = true := by
  have h : th_bl.all (fun b => Jvm.Bundle.fit b.1) = true := by decide +kernel
  exact fun b hb => List.all_eq_true.mp h b hb
theorem th_ok_mv {s U : State} (hW : s.WarmedH U.vm) (hS : ∀ (q : Addr) (cell : Cell), s.heap[q]? = some cell → cell.vm.isStatics = true → U.heap[q]? = some cell) (h : th_ok s) : th_ok U := fun b hb w hw => th_mv hW hS w (th_kall b hb w hw) (h b hb w hw)
/-- a world's cells are no statics -/
theorem am_w_ns {D : va_G} {cl : List vw_C} {G : Nat → ClassId} {ad : Nat → Nat} {M : am_M} {Sg : List am_S} {H : Heap} (hP : va_P D cl (am_w G ad M Sg) H) {q : Nat} {e : va_E} {k : Nat} (hk : (am_w G ad M Sg)[k]? = some (q, e)) {cell : Cell} (hc : H[q]? = some cell) : cell.vm.isStatics = false := by
  have h := hP k (q, e) hk
  cases e with
  | inl a =>
    have h1 : H[q]? = some (vp_cell a.1 a.2) := h
    rw [hc] at h1
    cases h1
    obtain ⟨c, n, f⟩ := a
    unfold vp_cell
    split <;> rfl
  | inr o =>
    obtain ⟨r, h0, cell', h1, h2, h3, h4⟩ := h
    have h1' : H[q]? = some cell' := h1
    rw [hc] at h1'
    cases h1'
    rw [h3]; rfl
theorem th_keep {D : va_G} {cl : List vw_C} {G : Nat → ClassId} {ad : Nat → Nat} {M : am_M} {Sg : List am_S} {H0 H : Heap} {locs : List Loc} (hP : va_P D cl (am_w G ad M Sg) H0) (hS : va_S (va_A (am_w G ad M Sg) H0.size) H0 H locs) : ∀ (q : Addr) (cell : Cell), H0[q]? = some cell → cell.vm.isStatics = true → H[q]? = some cell := by
  intro q cell hc hi
  have hlt : q < H0.size := (Array.getElem?_eq_some_iff.mp hc).1
  rw [hS.2.1 q hlt, hc]
  rintro (⟨k, e, hk⟩ | h)
  · rw [am_w_ns hP hk hc] at hi; cases hi
  · exact absurd h (Nat.not_le.mpr hlt)
/-- a goal that may be weakened -/
theorem W_mono {p : Program} {l : Launch} {e : Env} {R : Room} {s : State} {m : MethodId} {args : Array Value} {below : List Frame} {meth : Method} {c : Code} {H : Heap} {locs : List Loc} {cells slots : Nat} {Q Q' : State → Prop} {g : JFrame} (h : ∀ t, Q t → Q' t) (k : W p l e R s m args below meth c H locs cells slots Q g) : W p l e R s m args below meth c H locs cells slots Q' g := by
  intro T hT X
  obtain ⟨t, a, b⟩ := k T hT X
  exact ⟨t, a, h t b⟩
/-- a method that returns or throws -/
def MQE (below : List Frame) (Qc : Array Value → State → Outcome → State → Prop) (a : Array Value) (s : State) (mc ms : Nat) (free : Addr → Prop) : State → Prop := fun t =>
  ∃ o, t.status = .running ∧ Ended t below o ∧ Qc a s o t ∧ ∃ L, (s.WarmedH t.vm ∧ s.sameButNew ({ t with vm := s.vm } : State) L mc ms) ∧ ∀ q ∈ L, free q.base
def MetE (l : Launch) (y : MethodName) (ws : List Cond) (rm : Room) (Pc : Array Value → State → Prop) (Qc : Array Value → State → Outcome → State → Prop) (mc ms : Nat) (free : Addr → Prop) : Prop :=
  MetFree l y (headSpec ws rm) Pc (fun _ _ _ _ _ => True) (fun a st o t => Qc a st o t ∧ ∃ L, (st.WarmedH t.vm ∧ st.sameButNew ({ t with vm := st.vm } : State) L mc ms) ∧ ∀ q ∈ L, free q.base)
theorem MetE_ofW {l : Launch} {y : MethodName} {ws ws' : List Jvm.Cond} {rm : Room} {Pc : Array Value → State → Prop} {Qc : Array Value → State → Outcome → State → Prop} {mc ms : Nat} {free : Addr → Prop} {cc : ByteArray} {maxL : Nat} {ret : Option FieldType}
    (hy : plainFor y = true) (hw : ws = Cond.code y cc maxL ret :: ws')
    (body : ∀ p e s m args below meth c s₁, BodyLoose p l y (headSpec ws rm) cc maxL ret e s m args below meth c s₁ → c.maxLocals = maxL → Pc args s →
      W p l e (headSpec ws rm).room s m args below meth c s.heap [] 0 0 (MQE below Qc args s mc ms free) (entryFrame m args maxL)) : MetE l y ws rm Pc Qc mc ms free := by
  refine MetFree.of_bodyRF (code := cc) (maxLocals := maxL) (ret := ret) hy ?_ ?_
  · intro args s m h hn
    obtain ⟨meth, c, h1, h2, h3, h4, h5, h6, -, -⟩ := Cond.code_spec hn (atoms_spec (ws := ws) h _ (by rw [hw]; exact List.mem_cons_self))
    exact ⟨meth, c, h1, h2, h3, h4, h5, h6⟩
  · intro p e s m args below meth c s₁ B hml hP _ hst
    have hh0 : s₁.heap = s.heap := by rw [B.state]; rfl
    obtain ⟨t, a1, o, b1, b2, b3⟩ := body p e s m args below meth c s₁ B hml hP s₁ hh0 (Stand.of_body B)
    exact ⟨t, o, hst.trans a1, b1, b2, ⟨b3.1, b3.2⟩⟩
theorem MQ_MQE {below : List Frame} {Qc : Array Value → State → Outcome → State → Prop} {a : Array Value} {s : State} {free : Addr → Prop} {mc ms : Nat} (t : State) (h : MQ below Qc a s 0 0 free t) : MQE below Qc a s mc ms free t := by
  obtain ⟨o, h1, h2, h3, L, ⟨-, h4, h5⟩, h6⟩ := h
  exact ⟨o, h1, h2, h3, L, ⟨h4, h5.mono (Nat.zero_le _) (Nat.zero_le _)⟩, h6⟩
/-- how it ends: cd its number of what is thrown, tc the class of that -/
def am_QE (D : va_G) (G : Nat → ClassId) (ad : Nat → Nat) (f : Option am_V) (M M' : am_M) (cd : Int) (tc : Int → String) (A : Nat → Prop) : Array Value → State → Outcome → State → Prop := fun _ st oc t =>
  va_F A st t ∧ ((cd = 0 ∧ oc = .returned (f.map (am_cv ad)) ∧ va_P D vw_cl (am_w G ad M' vw_S) t.heap) ∨ (cd ≠ 0 ∧ ∃ x : Addr, oc = .threw x ∧ va_P D vw_cl (am_w G ad M vw_S) t.heap ∧ st.heap.size ≤ x ∧ ∃ ce, t.heap[x]? = some ce ∧ st.vm.findClass (tc cd) = some ce.cls ∧ ce.vm = .none))
def am_ME (l : Launch) (y : MethodName) (ws : List Jvm.Cond) (rm : Room) (P : am_P) (f : am_Fr) (g : am_Fm) (cd : List am_V → am_M → Int) (tc : Int → String) : Prop :=
  ∀ (D : va_G) (G : Nat → ClassId) (ad : Nat → Nat) (sz : Nat) (M : am_M) (av : List am_V), P av M → MetE l y ws rm (fun a U => va_Pc (av.map (am_cv ad)) (am_B D vw_cl G ad vw_S vw_N sz M) a U ∧ th_ok U) (am_QE D G ad (f av M) M (g av M) (cd av M) tc (va_A (am_w G ad M vw_S) sz)) 1 6 (va_A (am_w G ad M vw_S) sz)
section AMWE
variable {p : Program} {l : Launch} {e : Env} {R : Room} {s : State} {m : MethodId} {args : Array Value} {below : List Frame} {meth : Method} {c : Code} {H0 : Heap} {A : Nat → Prop} {cells slots : Nat} {Q : State → Prop} {D : va_G} {cl : List vw_C} {G : Nat → ClassId} {ad : Nat → Nat} {Sg : List am_S} {nL : Nat} {cc : ByteArray} {own : String} {Ts : List Jvm.Cond}
/-- Floyd's rule with ways out -/
theorem am_flE {Sc : Option (Nat × (Nat → Int))} {Fd : Nat → Option (Nat × Nat × Nat)} {Ct : am_T} {Zr : am_Z} {I : Nat → Option (Instr × Nat)} {sp : Nat → Bool}
    (hx : p.tables.exec = Jvm.exec) (hb : c.code = cc) (hown : s.vm.findClass own = some m.cls) (hts : ∀ w ∈ Ts, w.before args s = true) (hK : va_K D cl (am_ty G) s)
    (hSz : ∀ (id e n : Nat), Sg[id]? = some (.inl (e, n)) → n < 2147483648) (hF : ∀ idx ci j q, Fd idx = some (ci, j, q) → am_FOK cl own args s Ts idx ci j q)
    (hC : ∀ pc q ct, Ct pc = some (q, ct) → am_C p l e R s m args below meth c H0 A cells slots Q D cl G ad Sg nL pc q ct) (hE : am_E p l e R s m args below meth c H0 A cells slots Q D cl G ad Sg cc Zr)
    (hX : ∀ L xs, Sc = some (L, xs) → L < 2147483648 ∧ ∃ ys : Nat → Int32, va_X (ad am_scr) L ys s H0 ∧ ad am_scr < H0.size ∧ ¬ A (ad am_scr) ∧ ∀ j, xs j = (ys j).toInt)
    (hI : ∀ pc i n, I pc = some (i, n) → decode cc pc = .ok (i, n)) (Ex : am_K) (hEx : ∀ pc ls st M, Ex pc ls st M → am_A p l e R s m args below meth c H0 A cells slots Q D cl G ad Sg nL pc ls st M) (Inv : Nat → am_K)
    (hV : ∀ μ pc ls st M, Inv μ pc ls st M → ∃ n, am_wp Sg Sc Fd Ct Zr I sp (fun pc' ls' st' M' => (∃ μ', μ' < μ ∧ Inv μ' pc' ls' st' M') ∨ Ex pc' ls' st' M') n pc ls st M) :
    ∀ (μ pc : Nat) (ls : am_L) (st : List am_V) (M : am_M), Inv μ pc ls st M → am_A p l e R s m args below meth c H0 A cells slots Q D cl G ad Sg nL pc ls st M := by
  intro μ
  induction μ using Nat.strongRecOn with
  | ind μ ih =>
    intro pc ls st M h
    obtain ⟨n, hn⟩ := hV μ pc ls st M h
    refine am_wp_ok hx hb hown hts hK hSz hF hC hE hX hI (fun pc' ls' st' M' h => ?_) n pc ls st M hn
    rcases h with ⟨μ', h1, h2⟩ | h
    · exact ih μ' h1 pc' ls' st' M' h2
    · exact hEx pc' ls' st' M' h
end AMWE
/-- the way out at a block that throws -/
def th_Ex (th : Nat → Option (Int × (String × Nat × Nat × Nat × String))) (cd : Int) (M : am_M) : am_K := fun pc _ st M' => ∃ b, th pc = some (cd, b) ∧ st = [] ∧ M' = M
def th_D (cc : ByteArray) (th : Nat → Option (Int × (String × Nat × Nat × Nat × String))) (tc : Int → String) : Prop := ∀ pc k b, th pc = some (k, b) → k ≠ 0 ∧ b ∈ th_bl ∧ b.1 = tc k ∧ decode cc pc = .ok (.new b.2.1, 3) ∧ decode cc (pc + 3) = .ok (.dup, 1) ∧ decode cc (pc + 4) = .ok (.ldc b.2.2.2.1, 2) ∧ decode cc (pc + 6) = .ok (.invokespecial b.2.2.1, 3) ∧ decode cc (pc + 9) = .ok (.athrow, 1)
set_option maxHeartbeats 2000000 in
/-- a contract out of pure conditions, of a method that may throw -/
theorem am_mkE {l : Launch} {y : MethodName} {rm : Room} {P : am_P} {f : am_Fr} {g : am_Fm} {cd : List am_V → am_M → Int} {tc : Int → String} {th : Nat → Option (Int × (String × Nat × Nat × Nat × String))} {cc : ByteArray} {maxL : Nat} {ret : Option FieldType} {Fd : Nat → Option (Nat × Nat × Nat)} {Ct : am_T} {I : Nat → Option (Instr × Nat)} (sp : Nat → Bool)
    (hfl : l.flags = flags0) (hcl : y.cls = "ServerDesk") (hrm : 5 < rm.frames ∧ 82 ≤ rm.locals ∧ 1 ≤ rm.cells ∧ 6 ≤ rm.slots) (hth : th_D cc th tc)
    (hI : ∀ pc i n, I pc = some (i, n) → decode cc pc = .ok (i, n))
    (hF : ∀ (args : Array Value) (s : State) {Ts : List Jvm.Cond}, (∀ w ∈ vw_W, w ∈ Ts) → (∀ w ∈ Ts, w.before args s = true) → (∀ w ∈ vw_N, va_Nw w s) → ∀ idx ci j q, Fd idx = some (ci, j, q) → am_FOK vw_cl y.cls args s Ts idx ci j q)
    (hC : am_CC cc maxL (Jvm.Cond.code y cc maxL ret :: vw_W) y.cls l rm Ct)
    (hy : plainFor y = true) (hret : ret = none ∨ ret = some .int ∨ ret = some .boolean)
    (hL : ∀ av M, P av M → av.length ≤ maxL ∧ av.all am_c1 = true) (n : Nat) (Inv : List am_V → am_M → Nat → am_K)
    (h0 : ∀ av M, P av M → ∃ μ, Inv av M μ 0 (am_l0 av maxL) [] M)
    (hV : ∀ av M, P av M → ∀ μ pc ls st M', Inv av M μ pc ls st M' → am_wp vw_S none Fd Ct (fun r M'' => (cd av M = 0 ∧ am_po f g av M r M'') ∧ am_rt ret r) I sp (fun pc' ls' st' M'' => (∃ μ', μ' < μ ∧ Inv av M μ' pc' ls' st' M'') ∨ th_Ex th (cd av M) M pc' ls' st' M'') n pc ls st M') :
    am_ME l y (Jvm.Cond.code y cc maxL ret :: vw_W) rm P f g cd tc := by
  intro D G ad sz M av hpre
  obtain ⟨hlen, hall⟩ := hL av M hpre
  obtain ⟨μ, h0⟩ := h0 av M hpre
  have hV := hV av M hpre
  refine MetE_ofW (cc := cc) (maxL := maxL) (ret := ret) hy rfl ?_
  intro p e s m args below meth c s₁ B hml hv
  obtain ⟨⟨rfl, hsz, hP, hK, hD0, hN⟩, hok⟩ := hv
  have hx := B.exec
  have hb := B.bytes
  have hr := B.returns
  have hts := atoms_spec (ws := Jvm.Cond.code y cc maxL ret :: vw_W) B.pre
  have hown : s.vm.findClass y.cls = some m.cls := findClass_of_methodNamed B.named
  have hlocks := B.notSynchronized
  have hnoH := B.noHandlers (hts _ List.mem_cons_self)
  subst hsz
  have hD := hD0.self (sz := s.heap.size)
  have hS : va_S (va_A (am_w G ad M vw_S) s.heap.size) s.heap s.heap [] := va_S.rf
  have hA : ∀ q : Nat, s.heap.size ≤ q → va_A (am_w G ad M vw_S) s.heap.size q := fun q h => Or.inr h
  have hl := lv_entry (av.map (am_cv ad)) (n := maxL) (by rw [am_sl_len ad av hall]; exact hlen)
  rw [lg_entry_eq]
  generalize (lg_sl (av.map (am_cv ad)) ++ List.replicate (maxL - (lg_sl (av.map (am_cv ad))).length) Slot.unset).toArray = lsA at hl ⊢
  have hH := am_H_entry hall hlen hl
  have hE : am_E p l e (headSpec (Jvm.Cond.code y cc maxL ret :: vw_W) rm).room s m (av.map (am_cv ad)).toArray below meth c s.heap (va_A (am_w G ad M vw_S) s.heap.size) 0 0 (MQE below (am_QE D G ad (f av M) M (g av M) (cd av M) tc (va_A (am_w G ad M vw_S) s.heap.size)) (av.map (am_cv ad)).toArray s 1 6 (va_A (am_w G ad M vw_S) s.heap.size)) D vw_cl G ad vw_S cc (fun r M'' => (cd av M = 0 ∧ am_po f g av M r M'') ∧ am_rt ret r) := by
    intro r M' H locs lsB pc ⟨⟨hc0, hpo1, hpo2⟩, hrt⟩ hP' hD' hS'
    refine ⟨fun x hxr hdg => W_mono (MQ_MQE (mc := 1) (ms := 6)) ?_, fun hn hdg => W_mono (MQ_MQE (mc := 1) (ms := 6)) ?_⟩
    · subst hxr
      have hq : ∀ t : State, t.heap = H → s.WarmedH t.vm → am_QE D G ad (f av M) M (g av M) (cd av M) tc (va_A (am_w G ad M vw_S) s.heap.size) (av.map (am_cv ad)).toArray s (.returned (some (.int (Int32.ofInt x)))) t := fun t ht hW => ⟨hS'.F ht, Or.inl ⟨hc0, by rw [← hpo1]; rfl, by rw [ht, ← hpo2]; exact hP'⟩⟩
      rcases hret with rfl | rfl | rfl
      · exact hrt.elim
      · exact W.iret hx hb hr hq hS'.2.2 hdg
      · exact W.zret hx hb hr (am_z01 hrt).1 hq hS'.2.2 hdg
    · subst hn
      have hq : ∀ t : State, t.heap = H → s.WarmedH t.vm → am_QE D G ad (f av M) M (g av M) (cd av M) tc (va_A (am_w G ad M vw_S) s.heap.size) (av.map (am_cv ad)).toArray s (.returned none) t := fun t ht hW => ⟨hS'.F ht, Or.inl ⟨hc0, by rw [← hpo1]; rfl, by rw [ht, ← hpo2]; exact hP'⟩⟩
      rcases hret with rfl | rfl | rfl
      · exact W.vret hx hb hr hq hS'.2.2 hdg
      · exact hrt.elim
      · exact hrt.elim
  have hEx : ∀ pc ls st M', th_Ex th (cd av M) M pc ls st M' → am_A p l e (headSpec (Jvm.Cond.code y cc maxL ret :: vw_W) rm).room s m (av.map (am_cv ad)).toArray below meth c s.heap (va_A (am_w G ad M vw_S) s.heap.size) 0 0 (MQE below (am_QE D G ad (f av M) M (g av M) (cd av M) tc (va_A (am_w G ad M vw_S) s.heap.size)) (av.map (am_cv ad)).toArray s 1 6 (va_A (am_w G ad M vw_S) s.heap.size)) D vw_cl G ad vw_S maxL pc ls st M' := by
    rintro pc ls st M' ⟨b, hb1, rfl, rfl⟩
    obtain ⟨t1, t2, t3, t4, t5, t6, t7, t8⟩ := hth pc _ b hb1
    intro H locs lsB hP' hD' hS' hH' T hT X
    subst hT
    have hW := X.warmed
    have hkeep := th_keep hP hS'
    have hwords : ∀ w ∈ th_ws b, w.before (av.map (am_cv ad)).toArray (th_s s T) = true := fun w hw => th_mv (s := s) (U := th_s s T) hW hkeep w (th_kall b t2 w hw) (hok b t2 w hw)
    obtain ⟨U, hsteps, hrun, hend, hWU, hsame, hold, ce, hce, hcls, hvm⟩ := th_throw X hx (Launch.traces_off hfl X.admits) hb hlocks hnoH (th_fit b t2) (by rw [← hcl]; exact hown) hwords (ls := lsB) (by rw [hH'.1, hml]) t4 t5 t6 t7 t8 (by show 0 + 1 ≤ rm.cells; omega) (by show 0 + 6 ≤ rm.slots; omega) hrm.1 hrm.2.1
    refine ⟨U, hsteps, .threw T.heap.size, hrun, hend, ⟨⟨?_, fun q h1 h2 => ?_⟩, Or.inr ⟨t1, T.heap.size, rfl, ?_, hS'.1, ce, hce, by rw [← t3]; exact hcls, hvm⟩⟩, locs, ⟨hWU, hsame⟩, hS'.2.2⟩
    · exact hsame.2.1
    · rw [hold q (Nat.lt_of_lt_of_le h1 hS'.1)]
      exact hS'.2.1 q h1 h2
    · exact hP'.kept (fun k x hx' => hold x.1 ((hP' k x hx').lt))
  exact am_flE hx hb hown hts hK vw_Sz (hF _ s am_vW hts hN) (hC p e s m _ below meth c s.heap (va_A (am_w G ad M vw_S) s.heap.size) D G ad _ ⟨hx, hb, hml, hown, hts⟩ hK hN hA) hE (fun L xs h => by cases h) hI (th_Ex th (cd av M) M) hEx (Inv av M) (fun μ pc ls st M' hi => ⟨n, hV μ pc ls st M' hi⟩) μ 0 _ [] M h0 s.heap [] lsA hP hD hS hH
