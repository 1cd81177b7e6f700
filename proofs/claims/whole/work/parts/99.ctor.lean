/-! objects that come to be: the steps of a constructor, over a list of cells that grows -/
def ct_A (p : Program) (l : Launch) (e : Env) (R : Room) (s : State) (m : MethodId) (args : Array Value) (below : List Frame) (meth : Method) (c : Code) (A : Nat → Prop) (Q : State → Prop) (D : va_G) (nL : Nat) (pc : Nat) (lv : List (Nat × Value)) (st : List Value) (ws : va_W) (cells slots : Nat) : Prop :=
  ∀ (H : Heap) (locs : List Loc) (lsA : Array Slot), va_P D vw_cl ws H → va_D A ws → va_S A s.heap H locs → lv_has lsA nL lv → W p l e R s m args below meth c H locs cells slots Q (F0 m pc lsA st)
/-- what stands all through a constructor -/
def ct_F (p : Program) (s : State) (m : MethodId) (args : Array Value) (c : Code) (A : Nat → Prop) (D : va_G) (G : Nat → ClassId) (nL : Nat) (cc : ByteArray) (own : String) (Ts : List Jvm.Cond) : Prop :=
  CallFix p m c cc nL s args Ts own ∧ (∀ w ∈ vw_W, w ∈ Ts) ∧ va_K D vw_cl (am_ty G) s ∧ (∀ w ∈ vw_N, va_Nw w s) ∧ ∀ q, s.heap.size ≤ q → A q
section CT
variable {p : Program} {l : Launch} {e : Env} {R : Room} {s : State} {m : MethodId} {args : Array Value} {below : List Frame} {meth : Method} {c : Code} {A : Nat → Prop} {Q : State → Prop} {D : va_G} {G : Nat → ClassId} {nL : Nat} {cc : ByteArray} {own : String} {Ts : List Jvm.Cond} {pc : Nat} {lv : List (Nat × Value)} {st : List Value} {ws : va_W} {cells slots : Nat}
theorem ct_w (F : ct_F p s m args c A D G nL cc own Ts) {w : Jvm.Cond} (h : w ∈ vw_W) : w.before args s = true := F.1.2.2.2.2 w (F.2.1 w h)
theorem ct_aload (F : ct_F p s m args c A D G nL cc own Ts) {k : Fin 4} {a : Nat} (i : Nat) (hd : decode cc pc = .ok (.aload_n k, 1)) (hv : lv[i]? = some ((k : Nat), .ref a)) (K : ct_A p l e R s m args below meth c A Q D nL (pc + 1) lv (.ref a :: st) ws cells slots) : ct_A p l e R s m args below meth c A Q D nL pc lv st ws cells slots :=
  fun H locs lsA hP hD hS hl => lv_aload_n F.1.1 F.1.2.1 hd rfl (lv_at hl i hv) (K H locs lsA hP hD hS hl)
theorem ct_iconst (F : ct_F p s m args c A D G nL cc own Ts) {n : Int} (hd : decode cc pc = .ok (.iconst n, 1)) (K : ct_A p l e R s m args below meth c A Q D nL (pc + 1) lv (.int (Int32.ofInt n) :: st) ws cells slots) : ct_A p l e R s m args below meth c A Q D nL pc lv st ws cells slots :=
  fun H locs lsA hP hD hS hl => lv_iconst F.1.1 F.1.2.1 hd rfl (K H locs lsA hP hD hS hl)
theorem ct_bipush (F : ct_F p s m args c A D G nL cc own Ts) {n : Int} (hd : decode cc pc = .ok (.bipush n, 2)) (h : -128 ≤ n ∧ n < 128) (K : ct_A p l e R s m args below meth c A Q D nL (pc + 2) lv (.int (Int32.ofInt n) :: st) ws cells slots) : ct_A p l e R s m args below meth c A Q D nL pc lv st ws cells slots :=
  fun H locs lsA hP hD hS hl => lv_bipush F.1.1 F.1.2.1 hd (am_bp h) (K H locs lsA hP hD hS hl)
theorem ct_sipush (F : ct_F p s m args c A D G nL cc own Ts) {n : Int} (hd : decode cc pc = .ok (.sipush n, 3)) (h : -32768 ≤ n ∧ n < 32768) (K : ct_A p l e R s m args below meth c A Q D nL (pc + 3) lv (.int (Int32.ofInt n) :: st) ws cells slots) : ct_A p l e R s m args below meth c A Q D nL pc lv st ws cells slots :=
  fun H locs lsA hP hD hS hl => lv_sipush F.1.1 F.1.2.1 hd (am_sp h) (K H locs lsA hP hD hS hl)
theorem ct_dup (F : ct_F p s m args c A D G nL cc own Ts) {a : Nat} (hd : decode cc pc = .ok (.dup, 1)) (K : ct_A p l e R s m args below meth c A Q D nL (pc + 1) lv (.ref a :: .ref a :: st) ws cells slots) : ct_A p l e R s m args below meth c A Q D nL pc lv (.ref a :: st) ws cells slots :=
  fun H locs lsA hP hD hS hl => lv_dup F.1.1 F.1.2.1 hd rfl (K H locs lsA hP hD hS hl)
theorem ct_obj (F : ct_F p s m args c A D G nL cc own Ts) {idx a : Nat} (hlink : Jvm.Cond.methodLink own idx Lib.objectInit ∈ vw_W) (hinst : Jvm.Cond.instanceMethod Lib.objectInit ∈ vw_W) (hcode : Jvm.Cond.code Lib.objectInit ⟨#[0xb1]⟩ 1 none ∈ vw_W) (hd : decode cc pc = .ok (.invokespecial idx, 3)) (hR : 1 ≤ R.frames ∧ 12 ≤ R.locals)
    (K : ct_A p l e R s m args below meth c A Q D nL (pc + 3) lv [] ws cells slots) : ct_A p l e R s m args below meth c A Q D nL pc lv [.ref a] ws cells slots :=
  fun H locs lsA hP hD hS hl => W.objInit F.1.1 F.1.2.1 F.1.2.2.2.1 (ct_w F hlink) (ct_w F hinst) (ct_w F hcode) rfl (by rw [F.1.2.2.1]; exact hl.1) rfl hd hR.1 (by show 2 * 0 + 0 + 12 ≤ _; omega) (K H locs lsA hP hD hS hl)
theorem ct_new (F : ct_F p s m args c A D G nL cc own Ts) {C : String} {T : u_T} {N : Nat} (ci : Nat) {index : Nat} {fs : List Value} (hc : vw_cl[ci]? = some (C, T, N)) (hin : ∀ w ∈ u_ws C T N, w ∈ vw_W) (ty : Nat → FieldType) (hty : ∀ k, k < N → parseFieldDescriptor (T k).2.2.1 = some (ty k)) (h1 : Jvm.Cond.classLink own index C ∈ vw_W) (h2 : Jvm.Cond.instantiable C N ∈ vw_W) (h3 : Jvm.Cond.initialized C ∈ vw_W) (hfs : ∀ j, j < N → defaultValue (ty j) = vp_V fs j) (hd : decode cc pc = .ok (.new index, 3)) (hcR : cells + 1 ≤ R.cells ∧ slots + N ≤ R.slots)
    (K : ∀ q : Nat, ct_A p l e R s m args below meth c A Q D nL (pc + 3) lv (.ref q :: st) (ws ++ [(q, .inr (ci, fs))]) (cells + 1) (slots + N)) : ct_A p l e R s m args below meth c A Q D nL pc lv st ws cells slots :=
  fun H locs lsA hP hD hS hl => va_new (ci := ci) (fs := fs) F.1.1 F.1.2.1 F.1.2.2.2.2 (fun w h => F.2.1 w (hin w h)) ty hty F.1.2.2.2.1 (ct_w F h1) (ct_w F h2) (ct_w F h3) F.2.2.1 hP hD hS F.2.2.2.2 hc hfs hcR.1 hcR.2 hd (fun q H hP hD hS => K q H locs lsA hP hD hS hl)
theorem ct_newa (F : ct_F p s m args c A D G nL cc own Ts) {atype : ArrayType} (t : Nat) {ty : FieldType} {n : Int} {N : Nat} {a0 : vp_A} (harr : Jvm.Cond.arrayClass (newarray.typeOf atype) ∈ vw_W) (hty : newarray.typeOf atype = ty) (ht : (am_ty G)[t]? = some (G t, ty)) (hRA : ∀ cA, va_RA s cA ty → va_RA s (G t) ty → cA = G t) (ha : ∀ cA : ClassId, vp_cell cA a0 = arrV cA N (fun _ => defaultValue ty)) (hn : ¬ Int32.ofInt n < 0) (hN : (Int32.ofInt n).toNatClampNeg = N) (hby : N * componentBytes ty ≤ 536870912) (hcR : cells + 1 ≤ R.cells ∧ slots + N ≤ R.slots) (hd : decode cc pc = .ok (.newarray atype, 2))
    (K : ∀ q : Nat, ct_A p l e R s m args below meth c A Q D nL (pc + 2) lv (.ref q :: st) (ws ++ [(q, .inl (G t, a0))]) (cells + 1) (slots + N)) : ct_A p l e R s m args below meth c A Q D nL pc lv (.int (Int32.ofInt n) :: st) ws cells slots := by
  intro H locs lsA hP hD hS hl
  refine va_newa F.1.1 F.1.2.1 (ct_w F harr) hty F.2.2.1 hP hD hS F.2.2.2.2 ha hn hN hby hcR.1 hcR.2 hd (fun q cA H1 hK1 hP1 hD1 hS1 => ?_)
  have e1 : (am_ty G ++ [(cA, ty)])[(am_ty G).length]? = some (cA, ty) := by simp
  obtain rfl := hRA cA (hK1.2 _ _ e1).2 (F.2.2.1.2 t _ ht).2
  exact K q H1 locs lsA hP1 hD1 hS1 hl
theorem ct_putF (F : ct_F p s m args c A D G nL cc own Ts) {C : String} {T : u_T} {N ci index a : Nat} {fs : List Value} {v : Value} (q0 k : Nat) {ws2 : va_W} (hc : vw_cl[ci]? = some (C, T, N)) (hin : ∀ w ∈ u_ws C T N, w ∈ vw_W) (ty : Nat → FieldType) (hty : ∀ k, k < N → parseFieldDescriptor (T k).2.2.1 = some (ty k)) (hnm : ∀ a, a < N → ∀ b, b < N → a ≠ b → (T a).2.1 ≠ (T b).2.1) (he : ws[q0]? = some (a, .inr (ci, fs))) (hk : k < N) (hT : (T k).1 = C ∧ C = own) (hlink : Jvm.Cond.fieldLink own index C (T k).2.1 (T k).2.2.1 ∈ vw_W) (hfin : (T k).2.2.2 = true) (hin2 : meth.name = "<init>") (hn : narrow (ty k) v = v) (hfit : fits (ty k) v = true) (hl0 : k < fs.length) (hd : decode cc pc = .ok (.putfield index, 3)) (hw : ws.set q0 (a, .inr (ci, fs.set k v)) = ws2)
    (K : ct_A p l e R s m args below meth c A Q D nL (pc + 3) lv st ws2 cells slots) : ct_A p l e R s m args below meth c A Q D nL pc lv (v :: .ref a :: st) ws cells slots := by
  subst hw
  intro H locs lsA hP hD hS hl
  exact va_putF (D := D) (ci := ci) (v := v) (ty := ty k) F.1.1 F.1.2.1 F.1.2.2.2.2 (fun w h => F.2.1 w (hin w h)) ty hty hnm F.1.2.2.2.1 F.2.2.1 hP hD hS q0 he hc k hk (ct_w F hlink) (fun x h => by rw [hT.1] at h; exact h) hfin hin2 (hT.1.trans hT.2) (hty k hk) hn hfit hl0 hd (fun H locs hP hD hS => K H locs lsA hP hD hS hl)
theorem ct_put (F : ct_F p s m args c A D G nL cc own Ts) {C : String} {T : u_T} {N ci index a : Nat} {fs : List Value} {v : Value} (q0 k : Nat) {ws2 : va_W} (hc : vw_cl[ci]? = some (C, T, N)) (hin : ∀ w ∈ u_ws C T N, w ∈ vw_W) (ty : Nat → FieldType) (hty : ∀ k, k < N → parseFieldDescriptor (T k).2.2.1 = some (ty k)) (hnm : ∀ a, a < N → ∀ b, b < N → a ≠ b → (T a).2.1 ≠ (T b).2.1) (he : ws[q0]? = some (a, .inr (ci, fs))) (hk : k < N) (hT : (T k).1 = C ∧ C = own) (hlink : Jvm.Cond.fieldLink own index C (T k).2.1 (T k).2.2.1 ∈ vw_W) (hfin : (T k).2.2.2 = false) (hn : narrow (ty k) v = v) (hfit : fits (ty k) v = true) (hl0 : k < fs.length) (hd : decode cc pc = .ok (.putfield index, 3)) (hw : ws.set q0 (a, .inr (ci, fs.set k v)) = ws2)
    (K : ct_A p l e R s m args below meth c A Q D nL (pc + 3) lv st ws2 cells slots) : ct_A p l e R s m args below meth c A Q D nL pc lv (v :: .ref a :: st) ws cells slots := by
  subst hw
  intro H locs lsA hP hD hS hl
  exact va_put (D := D) (ci := ci) (v := v) (ty := ty k) F.1.1 F.1.2.1 F.1.2.2.2.2 (fun w h => F.2.1 w (hin w h)) ty hty hnm F.1.2.2.2.1 F.2.2.1 hP hD hS q0 he hc k hk (ct_w F hlink) (fun x h => by rw [hT.1] at h; exact h) hfin (hty k hk) hn hfit hl0 hd (fun H locs hP hD hS => K H locs lsA hP hD hS hl)
theorem ct_get (F : ct_F p s m args c A D G nL cc own Ts) {C : String} {T : u_T} {N ci index a : Nat} {fs : List Value} {v : Value} (q0 k : Nat) (hc : vw_cl[ci]? = some (C, T, N)) (hin : ∀ w ∈ u_ws C T N, w ∈ vw_W) (he : ws[q0]? = some (a, .inr (ci, fs))) (hk : k < N) (hT : (T k).1 = C) (hlink : Jvm.Cond.fieldLink own index C (T k).2.1 (T k).2.2.1 ∈ vw_W) (hv : fs[k]? = some v) (hd : decode cc pc = .ok (.getfield index, 3))
    (K : ct_A p l e R s m args below meth c A Q D nL (pc + 3) lv (v :: st) ws cells slots) : ct_A p l e R s m args below meth c A Q D nL pc lv (.ref a :: st) ws cells slots :=
  fun H locs lsA hP hD hS hl => va_get (D := D) (ci := ci) F.1.1 F.1.2.1 F.1.2.2.2.2 (fun w h => F.2.1 w (hin w h)) F.1.2.2.2.1 F.2.2.1 hP q0 he hc k hk (ct_w F hlink) (fun x h => by rw [hT] at h; exact h) hv hd (K H locs lsA hP hD hS hl)
theorem ct_iastore (F : ct_F p s m args c A D G nL cc own Ts) {a n : Nat} {f : Nat → Int32} {j x : Int} (q0 : Nat) {ws2 : va_W} (he : ws[q0]? = some (a, .inl (G 0, n, .inl f))) (hin : vp_in (Int32.ofInt j) n) (hd : decode cc pc = .ok (.iastore, 1)) (hw : ws.set q0 (a, .inl (G 0, n, .inl (upd f (Int32.ofInt j).toNatClampNeg (Int32.ofInt x)))) = ws2)
    (K : ct_A p l e R s m args below meth c A Q D nL (pc + 1) lv st ws2 cells slots) : ct_A p l e R s m args below meth c A Q D nL pc lv (.int (Int32.ofInt x) :: .int (Int32.ofInt j) :: .ref a :: st) ws cells slots := by
  subst hw
  intro H locs lsA hP hD hS hl
  exact va_iast F.1.1 F.1.2.1 F.2.2.1 hP hD hS q0 0 he rfl hin hd (fun H locs hP hD hS => K H locs lsA hP hD hS hl)
/-- how a constructor ends -/
def ct_Q (D : va_G) (b : (Nat → Nat) → va_W) (A : Nat → Prop) : Array Value → State → Outcome → State → Prop := va_Qv (fun _ : Nat → Nat => True) (fun u t => va_P D vw_cl (b u) t.heap ∧ va_D A (b u)) A
theorem ct_ret {b : (Nat → Nat) → va_W} (F : ct_F p s m args c A D G nL cc own Ts) (hr : meth.sig.returnType = none) (hlocks : meth.locks = false) (u : Nat → Nat) (hw : ws = b u) (hd : decode cc pc = .ok (.return_, 1)) : ct_A p l e R s m args below meth c A (MQ below (ct_Q D b A) args s cells slots A) D nL pc lv [] ws cells slots := by
  subst hw
  intro H locs lsA hP hD hS hl
  exact W.vret F.1.1 F.1.2.1 hr (fun t ht hW => ⟨⟨u, rfl, trivial, by rw [ht]; exact hP, hD⟩, hS.F ht⟩) hS.2.2 hd
/-- a constructor's contract: the object h0 alone, as it is born; then the list b u -/
def ct_M (l : Launch) (y : MethodName) (ws : List Jvm.Cond) (rm : Room) (ci : Nat) (fs : List Value) (as : List Value) (D : va_G) (G : Nat → ClassId) (b : Nat → (Nat → Nat) → va_W) (mc ms : Nat) : Prop :=
  ∀ h0 sz : Nat, Met l y ws rm (va_Pc (.ref h0 :: as) (fun U => U.heap.size = sz ∧ va_P D vw_cl [(h0, .inr (ci, fs))] U.heap ∧ va_K D vw_cl (am_ty G) U ∧ ∀ w ∈ vw_N, va_Nw w U)) (ct_Q D (b h0) (va_A [(h0, .inr (ci, fs))] sz)) mc ms (va_A [(h0, .inr (ci, fs))] sz)
theorem ct_D1 {h0 ci : Nat} {fs : List Value} {A : Nat → Prop} (h : A h0) : va_D A [(h0, .inr (ci, fs))] := by
  refine ⟨fun i j a b hi hj _ => ?_, fun k q hk => ?_⟩
  · have h1 := (List.getElem?_eq_some_iff.mp hi).1
    have h2 := (List.getElem?_eq_some_iff.mp hj).1
    simp at h1 h2
    omega
  · have h1 := (List.getElem?_eq_some_iff.mp hk).1
    simp at h1
    subst h1
    cases hk
    exact h
set_option maxHeartbeats 1000000 in
theorem ct_mk {y : MethodName} {rm : Room} {ci : Nat} {fs as : List Value} {b : Nat → (Nat → Nat) → va_W} {mc ms maxL : Nat} (hy : plainFor y = true) (hy1 : y.name = "<init>") (hlen : (lg_sl (.ref 0 :: as)).length ≤ maxL)
    (hV : ∀ (p : Program) (e : Env) (s : State) (m : MethodId) (below : List Frame) (meth : Method) (c : Code) (h0 : Nat), ct_F p s m (Value.ref h0 :: as).toArray c (va_A [(h0, .inr (ci, fs))] s.heap.size) D G maxL cc y.cls (Jvm.Cond.code y cc maxL none :: vw_W) → meth.name = "<init>" → meth.sig.returnType = none → meth.locks = false →
      ct_A p l e rm s m (Value.ref h0 :: as).toArray below meth c (va_A [(h0, .inr (ci, fs))] s.heap.size) (MQ below (ct_Q D (b h0) (va_A [(h0, .inr (ci, fs))] s.heap.size)) (Value.ref h0 :: as).toArray s mc ms (va_A [(h0, .inr (ci, fs))] s.heap.size)) D maxL 0 (lv_args 0 (.ref h0 :: as)) [] [(h0, .inr (ci, fs))] 0 0) :
    ct_M l y (Jvm.Cond.code y cc maxL none :: vw_W) rm ci fs as D G b mc ms := by
  intro h0 sz
  refine am_ofW (cc := cc) (maxL := maxL) (ret := none) hy rfl ?_
  intro p e s m args below meth c s₁ B hml hv
  obtain ⟨rfl, hsz, hP, hK, hN⟩ := hv
  subst hsz
  have hts := atoms_spec (ws := Jvm.Cond.code y cc maxL none :: vw_W) B.pre
  have hl := lv_entry (Value.ref h0 :: as) (n := maxL) (by have e1 : (lg_sl (Value.ref h0 :: as)).length = (lg_sl (.ref 0 :: as)).length := rfl; rw [e1]; exact hlen)
  rw [lg_entry_eq]
  have F : ct_F p s m (Value.ref h0 :: as).toArray c (va_A [(h0, .inr (ci, fs))] s.heap.size) D G maxL cc y.cls (Jvm.Cond.code y cc maxL none :: vw_W) := ⟨⟨B.exec, B.bytes, hml, findClass_of_methodNamed B.named, hts⟩, fun _ h => List.mem_cons_of_mem _ h, hK, hN, fun q h => Or.inr h⟩
  exact hV p e s m below meth c h0 F (by rw [(name_of_methodNamed B.named B.method).1]; exact hy1) B.returns B.notSynchronized s.heap [] _ hP (ct_D1 (Or.inl ⟨0, _, rfl⟩)) va_S.rf hl
/-- a constructor is called: its object's cell goes, its list comes -/
theorem ct_call (F : ct_F p s m args c A D G nL cc own Ts) {y : MethodName} {wy : List Jvm.Cond} {rm : Room} {ci mc ms n idx q maxL : Nat} {bytes : ByteArray} {fs as rest : List Value} {b : Nat → (Nat → Nat) → va_W} (hM : ct_M l y wy rm ci fs as D G b mc ms) (cw : (CallB R s args own idx y bytes maxL none wy rm mc ms n ∧ y.name = "<init>" ∧ (Cond.instanceMethod y).before args s = true) ∨ ∃ host, va_CN R s args own idx y host bytes maxL none wy rm mc ms n ∧ y.name = "<init>" ∧ (Cond.instanceMethod y).before args s = true) (i0 : Nat) (isR : List Nat) {wr : va_W}
    (hC : [i0].map (fun i => ws[i]?) = [(q, .inr (ci, fs))].map some) (hR : isR.map (fun i => ws[i]?) = wr.map some) (hnd : va_nd isR = true) (hdis : ∀ i ∈ isR, i ∉ [i0]) (hn : as.length = n) (hwt : (rest.map fun v => v.category).sum ≤ 8) (hd : decode cc pc = .ok (.invokespecial idx, 3)) (hcR : cells + mc ≤ R.cells ∧ slots + ms ≤ R.slots)
    (K : ∀ u : Nat → Nat, ct_A p l e R s m args below meth c A Q D nL (pc + 3) lv rest (wr ++ b q u) (cells + mc) (slots + ms)) : ct_A p l e R s m args below meth c A Q D nL pc lv (as.reverse ++ .ref q :: rest) ws cells slots := by
  intro H locs lsA hP hD hS hl
  have hPc := hP.sub (ws' := [(q, .inr (ci, fs))]) [i0] (by
    have h := hC
    simp only [List.map_cons, List.map_nil, List.cons.injEq, and_true] at h
    simp [h])
  have hFc := va_free (wc := [(q, .inr (ci, fs))]) hD hS F.2.2.2.2 [i0] hC
  have hpr : PreS s H (va_Pc (.ref q :: as) (fun U => U.heap.size = H.size ∧ va_P D vw_cl [(q, .inr (ci, fs))] U.heap ∧ va_K D vw_cl (am_ty G) U ∧ ∀ w ∈ vw_N, va_Nw w U)) (.ref q :: as) := by
    refine ⟨fun a U g mk z => ?_, fun U hU hW => ⟨rfl, by rw [hU], by rw [hU]; exact hPc, va_K.moved hW.alike F.2.2.1, am_nw_warm vw_N_ok hW F.2.2.2.1⟩⟩
    obtain ⟨q0, q1, qP, qK, qN⟩ := z
    exact ⟨q0, q1, qP, va_K.moved (u := U) (U := U.calling g mk a) (Vm.Alike.refl U.vm) qK, am_nw_same vw_N_ok (s := U) (U := U.calling g mk a) rfl qN⟩
  have hrun : va_Run p l e R s m args below meth c H locs cells slots mc ms (F0 m pc lsA (as.reverse ++ .ref q :: rest)) rest (ct_Q D (b q) (va_A [(q, .inr (ci, fs))] H.size) (Value.ref q :: as).toArray) (va_A [(q, .inr (ci, fs))] H.size) := by
    rcases cw with cw | ⟨host, cw⟩
    · exact va_runI (As := as) (rest := rest) F.1 (hM q H.size) cw hpr rfl hn hl.1 rfl (lv_room hwt) hd hcR
    · exact va_runIN (As := as) (rest := rest) F.1 (hM q H.size) cw hpr rfl hn hl.1 rfl (lv_room hwt) hd hcR
  refine va_callv hrun hS (fun q _ h => hFc q h) hFc (fun u t H1 locs1 ht hvm _ hB hz1 hk1 hS1 => ?_)
  · obtain ⟨hP1, hD1⟩ := hB
    rw [ht] at hP1
    obtain ⟨hP, hD⟩ := va_join hP hD [i0] isR hC hR hnd hdis hk1 hFc hP1 hD1
    exact K u H1 locs1 lsA hP hD hS1 hl
end CT
theorem ct_RA0 {s : State} {G : Nat → ClassId} : ∀ cA, va_RA s cA .int → va_RA s (G 0) .int → cA = G 0 := fun _ h1 h2 => Option.some.inj (h1.symm.trans h2)
theorem ct_RA1 {s : State} {G : Nat → ClassId} : ∀ cA, va_RA s cA .boolean → va_RA s (G 1) .boolean → cA = G 1 := fun _ h1 h2 => Option.some.inj (h1.symm.trans h2)
theorem ct_RA2 {s : State} {G : Nat → ClassId} : ∀ cA, va_RA s cA .long → va_RA s (G 2) .long → cA = G 2 := fun _ h1 h2 => Option.some.inj (h1.symm.trans h2)
