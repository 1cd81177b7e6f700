/-! contracts of methods that answer by a function of the memory -/
abbrev am_P : Type := List am_V → am_M → Prop
abbrev am_Fr : Type := List am_V → am_M → Option am_V
abbrev am_Fm : Type := List am_V → am_M → am_M
def am_po (f : am_Fr) (g : am_Fm) : List am_V → am_M → am_Z := fun av M r M' => r = f av M ∧ M' = g av M
/-- what every method of the system stands on -/
def am_MF (l : Launch) (y : MethodName) (ws : List Jvm.Cond) (rm : Room) (P : am_P) (f : am_Fr) (g : am_Fm) : Prop := am_Met l y ws rm vw_cl vw_S vw_N P (am_po f g)
theorem am_V_iff {Sg : List am_S} {ci : Nat} {P : am_P} {f : am_Fr} {g : am_Fm} {av : List am_V} {M : am_M} {kk : am_Z} : am_ctV Sg ci P (am_po f g) av M kk ↔ am_isO Sg ci av ∧ P av M ∧ kk (f av M) (g av M) := by
  unfold am_ctV am_po
  constructor
  · rintro ⟨h1, h2, h3⟩
    exact ⟨h1, h2, h3 _ _ ⟨rfl, rfl⟩⟩
  · rintro ⟨h1, h2, h3⟩
    exact ⟨h1, h2, fun r M' ⟨e1, e2⟩ => by rw [e1, e2]; exact h3⟩
theorem am_S_iff {P : am_P} {f : am_Fr} {g : am_Fm} {av : List am_V} {M : am_M} {kk : am_Z} : am_ctS P (am_po f g) av M kk ↔ P av M ∧ kk (f av M) (g av M) := by
  unfold am_ctS am_po
  constructor
  · rintro ⟨h2, h3⟩
    exact ⟨h2, h3 _ _ ⟨rfl, rfl⟩⟩
  · rintro ⟨h2, h3⟩
    exact ⟨h2, fun r M' ⟨e1, e2⟩ => by rw [e1, e2]; exact h3⟩
/-- the locals with which a method begins -/
def am_l0 (av : List am_V) (n : Nat) : am_L := av.map some ++ List.replicate (n - av.length) none
abbrev am_CC (cc : ByteArray) (maxL : Nat) (ws : List Jvm.Cond) (own : String) (l : Launch) (rm : Room) (Ct : am_T) : Prop :=
  ∀ (p : Program) (e : Env) (s : State) (m : MethodId) (args : Array Value) (below : List Frame) (meth : Method) (c : Code) (H0 : Heap) (A : Nat → Prop) (D : va_G) (G : Nat → ClassId) (ad : Nat → Nat) (Q : State → Prop), CallFix p m c cc maxL s args ws own → va_K D vw_cl (am_ty G) s → (∀ w ∈ vw_N, va_Nw w s) → (∀ q, H0.size ≤ q → A q) → ∀ pc q ct, Ct pc = some (q, ct) → am_C p l e rm s m args below meth c H0 A 0 0 Q D vw_cl G ad vw_S maxL pc q ct
def am_none : am_T := fun _ => none
theorem am_CC0 {cc : ByteArray} {maxL : Nat} {ws : List Jvm.Cond} {own : String} {l : Launch} {rm : Room} : am_CC cc maxL ws own l rm am_none := by
  intro p e s m args below meth c H0 A D G ad Q _ _ _ _ pc q ct h
  cases h
theorem am_vW {y : MethodName} {b : ByteArray} {n : Nat} {r : Option FieldType} : ∀ w ∈ vw_W, w ∈ (Jvm.Cond.code y b n r :: vw_W) := fun _ h => List.mem_cons_of_mem _ h
theorem am_ofW {l : Launch} {y : MethodName} {ws ws' : List Jvm.Cond} {rm : Room} {Pc : Array Value → State → Prop} {Qc : Array Value → State → Outcome → State → Prop} {mc ms : Nat} {free : Addr → Prop} {cc : ByteArray} {maxL : Nat} {ret : Option FieldType}
    (hy : plainFor y = true) (hw : ws = Cond.code y cc maxL ret :: ws')
    (body : ∀ p e s m args below meth c s₁, BodyLoose p l y (headSpec ws rm) cc maxL ret e s m args below meth c s₁ → c.maxLocals = maxL → Pc args s →
      W p l e (headSpec ws rm).room s m args below meth c s.heap [] 0 0 (MQ below Qc args s mc ms free) (entryFrame m args maxL)) : Met l y ws rm Pc Qc mc ms free := by
  refine MetFree.of_bodyRF (code := cc) (maxLocals := maxL) (ret := ret) hy ?_ ?_
  · intro args s m h hn
    obtain ⟨meth, c, h1, h2, h3, h4, h5, h6, -, -⟩ := Cond.code_spec hn (atoms_spec (ws := ws) h _ (by rw [hw]; exact List.mem_cons_self))
    exact ⟨meth, c, h1, h2, h3, h4, h5, h6⟩
  · intro p e s m args below meth c s₁ B hml hP _ hst
    have hh0 : s₁.heap = s.heap := by rw [B.state]; rfl
    obtain ⟨t, a1, o, b1, b2, b3⟩ := body p e s m args below meth c s₁ B hml hP s₁ hh0 (Stand.of_body B)
    exact ⟨t, o, hst.trans a1, b1, b2, ⟨b3.1, b3.2⟩⟩
set_option maxHeartbeats 2000000 in
/-- a contract out of pure conditions -/
theorem am_mkF {l : Launch} {y : MethodName} {ws ws' : List Jvm.Cond} {rm : Room} {cl : List vw_C} {Sg : List am_S} {nw : List Jvm.Cond} {Pre : List am_V → am_M → Prop} {Post : List am_V → am_M → am_Z} {cc : ByteArray} {maxL : Nat} {ret : Option FieldType} {Fd : Nat → Option (Nat × Nat × Nat)} {Ct : am_T} {I : Nat → Option (Instr × Nat)} {sp : Nat → Bool}
    (hy : plainFor y = true) (hw : ws = Cond.code y cc maxL ret :: ws') (hret : ret = none ∨ ret = some .int ∨ ret = some .boolean)
    (hSz : ∀ (id e n : Nat), Sg[id]? = some (.inl (e, n)) → n < 2147483648)
    (hF : ∀ (args : Array Value) (s : State), (∀ w ∈ ws, w.before args s = true) → (∀ w ∈ nw, va_Nw w s) → ∀ idx ci j q, Fd idx = some (ci, j, q) → am_FOK cl y.cls args s ws idx ci j q)
    (hC : ∀ (p : Program) (e : Env) (s : State) (m : MethodId) (args : Array Value) (below : List Frame) (meth : Method) (c : Code) (H0 : Heap) (A : Nat → Prop) (D : va_G) (G : Nat → ClassId) (ad : Nat → Nat) (Q : State → Prop), CallFix p m c cc maxL s args ws y.cls → va_K D cl (am_ty G) s → (∀ w ∈ nw, va_Nw w s) → (∀ q, H0.size ≤ q → A q) → ∀ pc q ct, Ct pc = some (q, ct) → am_C p l e rm s m args below meth c H0 A 0 0 Q D cl G ad Sg maxL pc q ct)
    (hI : ∀ pc i n, I pc = some (i, n) → decode cc pc = .ok (i, n))
    (hL : ∀ av M, Pre av M → av.length ≤ maxL ∧ av.all am_c1 = true)
    (hV : ∀ av M, Pre av M → ∃ Inv : Nat → am_K, (∃ μ, Inv μ 0 (av.map some ++ List.replicate (maxL - av.length) none) [] M) ∧ ∀ μ pc ls st M', Inv μ pc ls st M' → ∃ n, am_wp Sg none Fd Ct (fun r M'' => Post av M r M'' ∧ am_rt ret r) I sp (fun pc' ls' st' M'' => ∃ μ', μ' < μ ∧ Inv μ' pc' ls' st' M'') n pc ls st M') :
    am_Met l y ws rm cl Sg nw Pre Post := by
  intro D G ad sz M av hpre
  obtain ⟨hlen, hall⟩ := hL av M hpre
  obtain ⟨Inv, ⟨μ, h0⟩, hV⟩ := hV av M hpre
  refine am_ofW (cc := cc) (maxL := maxL) (ret := ret) hy hw ?_
  intro p e s m args below meth c s₁ B hml hv
  obtain ⟨rfl, hsz, hP, hK, hD0, hN⟩ := hv
  have hx := B.exec
  have hb := B.bytes
  have hr := B.returns
  have hts := atoms_spec (ws := ws) B.pre
  have hown : s.vm.findClass y.cls = some m.cls := findClass_of_methodNamed B.named
  have hlocks := B.notSynchronized
  subst hsz
  have hD := hD0.self (sz := s.heap.size)
  have hS : va_S (va_A (am_w G ad M Sg) s.heap.size) s.heap s.heap [] := va_S.rf
  have hA : ∀ q : Nat, s.heap.size ≤ q → va_A (am_w G ad M Sg) s.heap.size q := fun q h => Or.inr h
  generalize hAe : va_A (am_w G ad M Sg) s.heap.size = A at *
  have hl := lv_entry (av.map (am_cv ad)) (n := maxL) (by rw [am_sl_len ad av hall]; exact hlen)
  rw [lg_entry_eq]
  generalize (lg_sl (av.map (am_cv ad)) ++ List.replicate (maxL - (lg_sl (av.map (am_cv ad))).length) Slot.unset).toArray = lsA at hl ⊢
  have hH := am_H_entry hall hlen hl
  have hE : am_E p l e (headSpec ws rm).room s m (av.map (am_cv ad)).toArray below meth c s.heap A 0 0 (MQ below (am_Q D cl G ad Sg (Post av M) A) (av.map (am_cv ad)).toArray s 0 0 A) D cl G ad Sg cc (fun r M'' => Post av M r M'' ∧ am_rt ret r) := by
    intro r M' H locs lsB pc ⟨hpo, hrt⟩ hP' hD' hS'
    refine ⟨fun x hxr hdg => ?_, fun hn hdg => ?_⟩
    · subst hxr
      have hq : ∀ t : State, t.heap = H → s.WarmedH t.vm → am_Q D cl G ad Sg (Post av M) A (av.map (am_cv ad)).toArray s (.returned (some (.int (Int32.ofInt x)))) t := fun t ht hW => ⟨⟨some (.inl x), M', rfl, hpo, by rw [ht]; exact hP'⟩, hS'.F ht⟩
      rcases hret with rfl | rfl | rfl
      · exact hrt.elim
      · exact W.iret hx hb hr hq hS'.2.2 hdg
      · exact W.zret hx hb hr (am_z01 hrt).1 hq hS'.2.2 hdg
    · subst hn
      have hq : ∀ t : State, t.heap = H → s.WarmedH t.vm → am_Q D cl G ad Sg (Post av M) A (av.map (am_cv ad)).toArray s (.returned none) t := fun t ht hW => ⟨⟨none, M', rfl, hpo, by rw [ht]; exact hP'⟩, hS'.F ht⟩
      rcases hret with rfl | rfl | rfl
      · exact W.vret hx hb hr hq hS'.2.2 hdg
      · exact hrt.elim
      · exact hrt.elim
  exact am_fl hx hb hown hts hK hSz (hF _ s hts hN) (hC p e s m _ below meth c s.heap A D G ad _ ⟨hx, hb, hml, hown, hts⟩ hK hN hA) hE (fun L xs h => by cases h) hI Inv hV μ 0 _ [] M h0 s.heap [] lsA hP hD hS hH
/-- without a loop -/
theorem am_mk0 {l : Launch} {y : MethodName} {rm : Room} {P : am_P} {f : am_Fr} {g : am_Fm} {cc : ByteArray} {maxL : Nat} {ret : Option FieldType} {Fd : Nat → Option (Nat × Nat × Nat)} {Ct : am_T} {I : Nat → Option (Instr × Nat)}
    (hI : ∀ pc i n, I pc = some (i, n) → decode cc pc = .ok (i, n))
    (hF : ∀ (args : Array Value) (s : State) {Ts : List Jvm.Cond}, (∀ w ∈ vw_W, w ∈ Ts) → (∀ w ∈ Ts, w.before args s = true) → (∀ w ∈ vw_N, va_Nw w s) → ∀ idx ci j q, Fd idx = some (ci, j, q) → am_FOK vw_cl y.cls args s Ts idx ci j q)
    (hC : am_CC cc maxL (Jvm.Cond.code y cc maxL ret :: vw_W) y.cls l rm Ct)
    (hy : plainFor y = true) (hret : ret = none ∨ ret = some .int ∨ ret = some .boolean)
    (hL : ∀ av M, P av M → av.length ≤ maxL ∧ av.all am_c1 = true) (n : Nat)
    (hV : ∀ av M (Z : am_K), P av M → am_wp vw_S none Fd Ct (fun r M'' => am_po f g av M r M'' ∧ am_rt ret r) I (fun _ => false) Z n 0 (am_l0 av maxL) [] M) :
    am_MF l y (Jvm.Cond.code y cc maxL ret :: vw_W) rm P f g := by
  refine am_mkF (cc := cc) (maxL := maxL) (ret := ret) (Fd := Fd) (Ct := Ct) (I := I) (sp := fun _ => false) hy rfl hret vw_Sz (fun args s h1 h2 => hF args s am_vW h1 h2) hC hI hL (fun av M h => ?_)
  refine ⟨fun μ pc ls st M' => pc = 0 ∧ ls = am_l0 av maxL ∧ st = [] ∧ M' = M, ⟨0, rfl, rfl, rfl, rfl⟩, ?_⟩
  rintro μ pc ls st M' ⟨rfl, rfl, rfl, rfl⟩
  exact ⟨n, hV av M' _ h⟩
/-- with loops: an invariant with a measure at the stops -/
theorem am_mkL {l : Launch} {y : MethodName} {rm : Room} {P : am_P} {f : am_Fr} {g : am_Fm} {cc : ByteArray} {maxL : Nat} {ret : Option FieldType} {Fd : Nat → Option (Nat × Nat × Nat)} {Ct : am_T} {I : Nat → Option (Instr × Nat)} (sp : Nat → Bool)
    (hI : ∀ pc i n, I pc = some (i, n) → decode cc pc = .ok (i, n))
    (hF : ∀ (args : Array Value) (s : State) {Ts : List Jvm.Cond}, (∀ w ∈ vw_W, w ∈ Ts) → (∀ w ∈ Ts, w.before args s = true) → (∀ w ∈ vw_N, va_Nw w s) → ∀ idx ci j q, Fd idx = some (ci, j, q) → am_FOK vw_cl y.cls args s Ts idx ci j q)
    (hC : am_CC cc maxL (Jvm.Cond.code y cc maxL ret :: vw_W) y.cls l rm Ct)
    (hy : plainFor y = true) (hret : ret = none ∨ ret = some .int ∨ ret = some .boolean)
    (hL : ∀ av M, P av M → av.length ≤ maxL ∧ av.all am_c1 = true) (n : Nat) (Inv : List am_V → am_M → Nat → am_K)
    (h0 : ∀ av M, P av M → ∃ μ, Inv av M μ 0 (am_l0 av maxL) [] M)
    (hV : ∀ av M, P av M → ∀ μ pc ls st M', Inv av M μ pc ls st M' → am_wp vw_S none Fd Ct (fun r M'' => am_po f g av M r M'' ∧ am_rt ret r) I sp (fun pc' ls' st' M'' => ∃ μ', μ' < μ ∧ Inv av M μ' pc' ls' st' M'') n pc ls st M') :
    am_MF l y (Jvm.Cond.code y cc maxL ret :: vw_W) rm P f g :=
  am_mkF (cc := cc) (maxL := maxL) (ret := ret) (Fd := Fd) (Ct := Ct) (I := I) (sp := sp) hy rfl hret vw_Sz (fun args s h1 h2 => hF args s am_vW h1 h2) hC hI hL (fun av M h => ⟨Inv av M, h0 av M h, fun μ pc ls st M' hi => ⟨n, hV av M h μ pc ls st M' hi⟩⟩)
def fd_none : Nat → Option (Nat × Nat × Nat) := fun _ => none
theorem fd_none_ok {own : String} (args : Array Value) (s : State) {Ts : List Jvm.Cond} (_ : ∀ w ∈ vw_W, w ∈ Ts) (_ : ∀ w ∈ Ts, w.before args s = true) (_ : ∀ w ∈ vw_N, va_Nw w s) : ∀ idx ci j q, fd_none idx = some (ci, j, q) → am_FOK vw_cl own args s Ts idx ci j q := by
  intro idx ci j q h
  cases h
theorem xs_fin {f : am_Fr} {g : am_Fm} {av : List am_V} {M M' : am_M} {r : Option am_V} {ret : Option FieldType} (h1 : f av M = r) (h2 : g av M = M') (h3 : am_rt ret r) : am_po f g av M r M' ∧ am_rt ret r := ⟨⟨h1.symm, h2.symm⟩, h3⟩
