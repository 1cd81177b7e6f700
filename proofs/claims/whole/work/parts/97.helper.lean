/-! the law's helpers: a call within a try, its answer laid into the long cell, or the number of what it threw -/
def am_MH (l : Launch) (y : MethodName) (ws : List Jvm.Cond) (rm : Room) (P : am_P) (f : am_Fr) (g : am_Fm) : Prop :=
  ∀ (D : va_G) (G : Nat → ClassId) (ad : Nat → Nat) (sz : Nat) (M : am_M) (av : List am_V), P av M → Met l y ws rm (fun a U => va_Pc (av.map (am_cv ad)) (am_B D vw_cl G ad vw_S vw_N sz M) a U ∧ hs_ok U) (am_Q D vw_cl G ad vw_S (am_po f g av M) (va_A (am_w G ad M vw_S) sz)) 1 6 (va_A (am_w G ad M vw_S) sz)
abbrev hp_Z (f : am_Fr) (g : am_Fm) (av : List am_V) (M : am_M) : am_Z := fun r M'' => am_po f g av M r M'' ∧ am_rt (some .int) r
/-- the second half of a helper -/
abbrev hp_q (f : am_Fr) (g : am_Fm) (av : List am_V) (M : am_M) (I : Nat → Option (Instr × Nat)) (sq : Nat → Bool) : am_K := am_zq vw_S none fd_none am_none (hp_Z f g av M) I sq sq (fun _ _ _ _ => False) 20 8
def hp_C (P' : am_P) (f' : am_Fr) (g' : am_Fm) (cd : List am_V → am_M → Int) (tc : Int → String) (f : am_Fr) (g : am_Fm) (av : List am_V) (M : am_M) (I : Nat → Option (Instr × Nat)) (sq : Nat → Bool) (hl : List hs_T) (n pcc : Nat) (pc : Nat) (ls : am_L) (st : List am_V) (M' : am_M) : Prop :=
  pc = pcc ∧ M' = M ∧ (n + 1 ≤ st.length ∧ st.length ≤ n + 1 + 4) ∧ am_isO vw_S 0 (st.take (n + 1)).reverse ∧ P' (st.take (n + 1)).reverse M ∧
  (cd (st.take (n + 1)).reverse M = 0 → am_nx vw_S none fd_none am_none (hp_Z f g av M) I sq (hp_q f g av M I sq) 20 (pcc + 3) ls ((f' (st.take (n + 1)).reverse M).toList ++ st.drop (n + 1)) (g' (st.take (n + 1)).reverse M)) ∧
  (cd (st.take (n + 1)).reverse M ≠ 0 → ∃ l1 q l2, hl = l1 ++ q :: l2 ∧ tc (cd (st.take (n + 1)).reverse M) = q.2.2.1 ∧ ls[q.2.2.2.1]? = some none ∧ am_wp vw_S none fd_none am_none (hp_Z f g av M) I sq (hp_q f g av M I sq) 20 q.2.2.2.2 ls [] M)
set_option maxHeartbeats 2000000 in
theorem am_mkH {l : Launch} {y y' : MethodName} {rm rm' : Room} {P P' : am_P} {f f' : am_Fr} {g g' : am_Fm} {cd : List am_V → am_M → Int} {tc : Int → String} {cc bytes : ByteArray} {maxL maxL' n idx pcc E : Nat} {ret' : Option FieldType} {ws' : List Jvm.Cond} {hs : List (Nat × Nat × Nat × Nat)} {hl : List hs_T} {I : Nat → Option (Instr × Nat)} (sq : Nat → Bool)
    (hhs : hs = hl.map (fun q => (0, E, q.1, q.2.1))) (hcl : y.cls = "ServerDeskLaw") (hI : ∀ pc i n, I pc = some (i, n) → decode cc pc = .ok (i, n)) (hM : am_ME l y' ws' rm' P' f' g' cd tc)
    (hcw : ∀ (s : State) (args : Array Value) {Ts : List Jvm.Cond}, (∀ w ∈ vw_W, w ∈ Ts) → (∀ w ∈ Ts, w.before args s = true) → CallW rm s args "ServerDeskLaw" "ServerDesk" idx y' bytes maxL' ret' ws' rm' 1 6 n)
    (hdg : decode cc pcc = .ok (.invokevirtual idx, 3)) (hE : pcc < E) (hno : hl.Pairwise (fun q r => Jvm.Cond.not (.castable r.2.2.1 q.2.2.1) ∈ hs_no))
    (hla : ∀ q ∈ hl, q.2.1 ≠ 0 ∧ Cond.classLink "ServerDeskLaw" q.2.1 q.2.2.1 ∈ vw_W ∧ hs_D cc q) (hrm : 1 ≤ rm.cells ∧ 6 ≤ rm.slots) (hy : plainFor y = true)
    (hL : ∀ av M, P av M → av.length ≤ maxL ∧ av.all am_c1 = true)
    (hV : ∀ av M, P av M → am_wp vw_S none fd_none am_none (fun _ _ => False) I (fun pc => pc == pcc) (hp_C P' f' g' cd tc f g av M I sq hl n pcc) 20 0 (am_l0 av maxL) [] M) :
    am_MH l y (Jvm.Cond.codeWith y cc maxL (some .int) hs :: vw_W) rm P f g := by
  intro D G ad sz M av hpre
  obtain ⟨hlen, hall⟩ := hL av M hpre
  have hV := hV av M hpre
  refine MetFree.of_bodyRF (code := cc) (maxLocals := maxL) (ret := some .int) hy ?_ ?_
  · intro args s m h hn
    obtain ⟨m', meth, c, q1, h1, h2, h3, h4, -, h5, h6, -⟩ := Cond.codeWith_spec (atoms_spec (ws := Jvm.Cond.codeWith y cc maxL (some .int) hs :: vw_W) h _ List.mem_cons_self)
    cases hn.symm.trans q1
    exact ⟨meth, c, h1, h2, h3, h4, h5, h6⟩
  · intro p e s m args below meth c s₁ B hml hv _ hst
    have hh0 : s₁.heap = s.heap := by rw [B.state]; rfl
    obtain ⟨⟨rfl, hsz, hP, hK, hD0, hN⟩, hok⟩ := hv
    have hx := B.exec
    have hb := B.bytes
    have hr := B.returns
    have hts := atoms_spec (ws := Jvm.Cond.codeWith y cc maxL (some .int) hs :: vw_W) B.pre
    have hown : s.vm.findClass "ServerDeskLaw" = some m.cls := by rw [← hcl]; exact findClass_of_methodNamed B.named
    have hlocks := B.notSynchronized
    subst hsz
    have hvW : ∀ w ∈ vw_W, w ∈ (Jvm.Cond.codeWith y cc maxL (some .int) hs :: vw_W) := fun _ h => List.mem_cons_of_mem _ h
    have htab : c.exceptionTable.toList = hl.map (hs_e E) := by
      obtain ⟨m', meth', c', q1, h1, h2, -, -, ht, -⟩ := Cond.codeWith_spec (hts _ List.mem_cons_self)
      cases B.named.symm.trans q1
      cases B.method.symm.trans h1
      have hc := (Stand.of_body B).code
      cases hc.symm.trans h2
      rw [← table_eq c.exceptionTable.toList, ht, hhs]
      simp only [tableOf, List.map_map]
      rfl
    have hD := hD0.self (sz := s.heap.size)
    have hS : va_S (va_A (am_w G ad M vw_S) s.heap.size) s.heap s.heap [] := va_S.rf
    have hA : ∀ q : Nat, s.heap.size ≤ q → va_A (am_w G ad M vw_S) s.heap.size q := fun q h => Or.inr h
    have key : W p l e (headSpec (Jvm.Cond.codeWith y cc maxL (some .int) hs :: vw_W) rm).room s m (av.map (am_cv ad)).toArray below meth c s.heap [] 0 0 (MQ below (am_Q D vw_cl G ad vw_S (am_po f g av M) (va_A (am_w G ad M vw_S) s.heap.size)) (av.map (am_cv ad)).toArray s 1 6 (va_A (am_w G ad M vw_S) s.heap.size)) (entryFrame m (av.map (am_cv ad)).toArray maxL) := by
      have hl' := lv_entry (av.map (am_cv ad)) (n := maxL) (by rw [am_sl_len ad av hall]; exact hlen)
      rw [lg_entry_eq]
      generalize (lg_sl (av.map (am_cv ad)) ++ List.replicate (maxL - (lg_sl (av.map (am_cv ad))).length) Slot.unset).toArray = lsA at hl' ⊢
      have hH := am_H_entry hall hlen hl'
      have hE2 : am_E p l e (headSpec (Jvm.Cond.codeWith y cc maxL (some .int) hs :: vw_W) rm).room s m (av.map (am_cv ad)).toArray below meth c s.heap (va_A (am_w G ad M vw_S) s.heap.size) (0 + 1) (0 + 6) (MQ below (am_Q D vw_cl G ad vw_S (am_po f g av M) (va_A (am_w G ad M vw_S) s.heap.size)) (av.map (am_cv ad)).toArray s 1 6 (va_A (am_w G ad M vw_S) s.heap.size)) D vw_cl G ad vw_S cc (hp_Z f g av M) := by
        intro r M' H locs lsB pc ⟨hpo, hrt⟩ hP' hD' hS'
        refine ⟨fun x hxr hdg => ?_, fun hn hdg => ?_⟩
        · subst hxr
          exact W.iret hx hb hr (fun t ht hW => ⟨⟨_, _, rfl, hpo, by rw [ht]; exact hP'⟩, hS'.F ht⟩) hS'.2.2 hdg
        · subst hn
          exact hrt.elim
      have hF0 : ∀ idx ci j q, fd_none idx = some (ci, j, q) → am_FOK vw_cl "ServerDeskLaw" (av.map (am_cv ad)).toArray s (Jvm.Cond.codeWith y cc maxL (some .int) hs :: vw_W) idx ci j q := fun idx ci j q h => by cases h
      have hz := am_zq_ok (p := p) (l := l) (e := e) (R := (headSpec (Jvm.Cond.codeWith y cc maxL (some .int) hs :: vw_W) rm).room) (m := m) (below := below) (meth := meth) (c := c) (H0 := s.heap) (A := va_A (am_w G ad M vw_S) s.heap.size) (Sc := none) (Ct := am_none) (sp := sq) (sq := sq) (Z := fun _ _ _ _ => False) (fu := 20) (nL := maxL) hx hb hown hts hK vw_Sz hF0 (fun pc q ct h => by cases h) hE2 (fun L xs h => by cases h) hI (fun _ _ _ _ h => h.elim) 8
      have hwp := am_wp_ok (p := p) (l := l) (e := e) (R := (headSpec (Jvm.Cond.codeWith y cc maxL (some .int) hs :: vw_W) rm).room) (m := m) (below := below) (meth := meth) (c := c) (H0 := s.heap) (A := va_A (am_w G ad M vw_S) s.heap.size) (Sc := none) (Ct := am_none) (sp := sq) (nL := maxL) hx hb hown hts hK vw_Sz hF0 (fun pc q ct h => by cases h) hE2 (fun L xs h => by cases h) hI hz
      refine am_wp_ok (p := p) (l := l) (e := e) (R := (headSpec (Jvm.Cond.codeWith y cc maxL (some .int) hs :: vw_W) rm).room) (m := m) (below := below) (meth := meth) (c := c) (H0 := s.heap) (A := va_A (am_w G ad M vw_S) s.heap.size) (cells := 0) (slots := 0) (Sc := none) (Ct := am_none) (nL := maxL) hx hb hown hts hK vw_Sz hF0 (fun pc q ct h => by cases h) (fun r M H locs lsA pc h => h.elim) (fun L xs h => by cases h) hI ?_ 20 0 _ [] M hV s.heap [] lsA hP hD hS hH
      rintro pc ls st M' ⟨rfl, rfl, ⟨h1, h2⟩, ho, hpre', hret, hthr⟩
      refine am_callVE (ci := 0) (pc := pc) ⟨hx, hb, hml, hown, hts⟩ hK hN hA ⟨by show 0 + 1 ≤ rm.cells; omega, by show 0 + 6 ≤ rm.slots; omega⟩ hok (fun H locs hS => th_keep hP hS) hM (hcw s _ hvW hts) rfl hdg htab hE hno (fun q hq => ⟨(hla q hq).1, hts _ (hvW _ (hla q hq).2.1), (hla q hq).2.2⟩) h1 h2 ho hpre' (fun h0 => ?_) (fun h0 => ?_)
      · have h3 := hret h0
        unfold am_nx at h3
        split at h3
        · exact hz _ _ _ _ h3
        · exact hwp 20 _ _ _ _ h3
      · obtain ⟨l1, q, l2, g1, g2, g3, g4⟩ := hthr h0
        exact ⟨l1, q, l2, g1, g2, g3, hwp 20 _ _ _ _ g4⟩
    obtain ⟨t, a1, o, b1, b2, b3⟩ := key s₁ hh0 (Stand.of_body B)
    exact ⟨t, o, hst.trans a1, b1, b2, ⟨b3.1, b3.2⟩⟩
def hp_v (o : Option am_V) : Int := match o with
  | some (.inl x) => x
  | _ => 0
section HP
variable {Sg : List am_S} {Sc : Option (Nat × (Nat → Int))} {Fd : Nat → Option (Nat × Nat × Nat)} {Ct : am_T} {Zr : am_Z} {I : Nat → Option (Instr × Nat)} {sp : Nat → Bool} {Z : am_K} {n pc : Nat} {ls : am_L} {rest : List am_V} {M : am_M}
theorem hp_r1 {v : Int} {o : Option am_V} (e : o = some (.inl v)) (h : am_nx Sg Sc Fd Ct Zr I sp Z n pc ls (.inl v :: rest) M) : am_nx Sg Sc Fd Ct Zr I sp Z n pc ls (o.toList ++ rest) M := by
  subst e
  exact h
theorem hp_r0 {o : Option am_V} (e : o = none) (h : am_nx Sg Sc Fd Ct Zr I sp Z n pc ls rest M) : am_nx Sg Sc Fd Ct Zr I sp Z n pc ls (o.toList ++ rest) M := by
  subst e
  exact h
end HP
