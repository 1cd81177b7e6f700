/-! contracts of methods that answer by a function of the memory -/
abbrev am_P : Type := List am_V → am_M → Prop
abbrev am_Fr : Type := List am_V → am_M → Option am_V
abbrev am_Fm : Type := List am_V → am_M → am_M
def am_po (f : am_Fr) (g : am_Fm) : List am_V → am_M → am_Z := fun av M r M' => r = f av M ∧ M' = g av M
/-- what every method of the system stands on -/
def am_MF (l : Launch) (y : MethodName) (ws : List Jvm.Cond) (rm : Room) (P : am_P) (f : am_Fr) (g : am_Fm) : Prop := am_Met l y ws rm vw_cl vw_S vw_N P (am_po f g)
theorem am_V_iff {Sg : List am_S} {ci : Nat} {P : am_P} {f : am_Fr} {g : am_Fm} {av : List am_V} {M : am_M} {kk : am_Z} : am_ctV Sg ci P (am_po f g) av M kk ↔ am_isO Sg ci av ∧ P av M ∧ kk (f av M) (g av M) := by
  unfold am_ctV am_po
  constructor
  · rintro ⟨h1, h2, h3⟩
    exact ⟨h1, h2, h3 _ _ ⟨rfl, rfl⟩⟩
  · rintro ⟨h1, h2, h3⟩
    exact ⟨h1, h2, fun r M' ⟨e1, e2⟩ => by rw [e1, e2]; exact h3⟩
theorem am_S_iff {P : am_P} {f : am_Fr} {g : am_Fm} {av : List am_V} {M : am_M} {kk : am_Z} : am_ctS P (am_po f g) av M kk ↔ P av M ∧ kk (f av M) (g av M) := by
  unfold am_ctS am_po
  constructor
  · rintro ⟨h2, h3⟩
    exact ⟨h2, h3 _ _ ⟨rfl, rfl⟩⟩
  · rintro ⟨h2, h3⟩
    exact ⟨h2, fun r M' ⟨e1, e2⟩ => by rw [e1, e2]; exact h3⟩
/-- the locals with which a method begins -/
def am_l0 (av : List am_V) (n : Nat) : am_L := av.map some ++ List.replicate (n - av.length) none
abbrev am_CC (cc : ByteArray) (maxL : Nat) (ws : List Jvm.Cond) (own : String) (l : Launch) (rm : Room) (Ct : am_T) : Prop :=
  ∀ (p : Program) (e : Env) (s : State) (m : MethodId) (args : Array Value) (below : List Frame) (meth : Method) (c : Code) (H0 : Heap) (A : Nat → Prop) (D : va_G) (G : Nat → ClassId) (ad : Nat → Nat) (Q : State → Prop), CallFix p m c cc maxL s args ws own → va_K D vw_cl (am_ty G) s → (∀ w ∈ vw_N, va_Nw w s) → (∀ q, H0.size ≤ q → A q) → ∀ pc q ct, Ct pc = some (q, ct) → am_C p l e rm s m args below meth c H0 A 0 0 Q D vw_cl G ad vw_S maxL pc q ct
def am_none : am_T := fun _ => none
theorem am_CC0 {cc : ByteArray} {maxL : Nat} {ws : List Jvm.Cond} {own : String} {l : Launch} {rm : Room} : am_CC cc maxL ws own l rm am_none := by
  intro p e s m args below meth c H0 A D G ad Q _ _ _ _ pc q ct h
  cases h
theorem am_vW {y : MethodName} {b : ByteArray} {n : Nat} {r : Option FieldType} : ∀ w ∈ vw_W, w ∈ (Jvm.Cond.code y b n r :: vw_W) := fun _ h => List.mem_cons_of_mem _ h
/-- without a loop -/
theorem am_mk0 {l : Launch} {y : MethodName} {rm : Room} {P : am_P} {f : am_Fr} {g : am_Fm} {cc : ByteArray} {maxL : Nat} {ret : Option FieldType} {Fd : Nat → Option (Nat × Nat × Nat)} {Ct : am_T} {I : Nat → Option (Instr × Nat)}
    (hI : ∀ pc i n, I pc = some (i, n) → decode cc pc = .ok (i, n))
    (hF : ∀ (args : Array Value) (s : State) {Ts : List Jvm.Cond}, (∀ w ∈ vw_W, w ∈ Ts) → (∀ w ∈ Ts, w.before args s = true) → (∀ w ∈ vw_N, va_Nw w s) → ∀ idx ci j q, Fd idx = some (ci, j, q) → am_FOK vw_cl y.cls args s Ts idx ci j q)
    (hC : am_CC cc maxL (Jvm.Cond.code y cc maxL ret :: vw_W) y.cls l rm Ct)
    (hy : plainName y.cls = true) (hret : ret = none ∨ ret = some .int ∨ ret = some .boolean)
    (hL : ∀ av M, P av M → av.length ≤ maxL ∧ av.all am_c1 = true) (n : Nat)
    (hV : ∀ av M (Z : am_K), P av M → am_wp vw_S none Fd Ct (fun r M'' => am_po f g av M r M'' ∧ am_rt ret r) I (fun _ => false) Z n 0 (am_l0 av maxL) [] M) :
    am_MF l y (Jvm.Cond.code y cc maxL ret :: vw_W) rm P f g := by
  refine am_mk (cc := cc) (maxL := maxL) (ret := ret) (Fd := Fd) (Ct := Ct) (I := I) (sp := fun _ => false) hy rfl hret vw_Sz (fun args s h1 h2 => hF args s am_vW h1 h2) hC hI hL (fun av M h => ?_)
  refine ⟨fun μ pc ls st M' => pc = 0 ∧ ls = am_l0 av maxL ∧ st = [] ∧ M' = M, ⟨0, rfl, rfl, rfl, rfl⟩, ?_⟩
  rintro μ pc ls st M' ⟨rfl, rfl, rfl, rfl⟩
  exact ⟨n, hV av M' _ h⟩
/-- with loops: an invariant with a measure at the stops -/
theorem am_mkL {l : Launch} {y : MethodName} {rm : Room} {P : am_P} {f : am_Fr} {g : am_Fm} {cc : ByteArray} {maxL : Nat} {ret : Option FieldType} {Fd : Nat → Option (Nat × Nat × Nat)} {Ct : am_T} {I : Nat → Option (Instr × Nat)} (sp : Nat → Bool)
    (hI : ∀ pc i n, I pc = some (i, n) → decode cc pc = .ok (i, n))
    (hF : ∀ (args : Array Value) (s : State) {Ts : List Jvm.Cond}, (∀ w ∈ vw_W, w ∈ Ts) → (∀ w ∈ Ts, w.before args s = true) → (∀ w ∈ vw_N, va_Nw w s) → ∀ idx ci j q, Fd idx = some (ci, j, q) → am_FOK vw_cl y.cls args s Ts idx ci j q)
    (hC : am_CC cc maxL (Jvm.Cond.code y cc maxL ret :: vw_W) y.cls l rm Ct)
    (hy : plainName y.cls = true) (hret : ret = none ∨ ret = some .int ∨ ret = some .boolean)
    (hL : ∀ av M, P av M → av.length ≤ maxL ∧ av.all am_c1 = true) (n : Nat) (Inv : List am_V → am_M → Nat → am_K)
    (h0 : ∀ av M, P av M → ∃ μ, Inv av M μ 0 (am_l0 av maxL) [] M)
    (hV : ∀ av M, P av M → ∀ μ pc ls st M', Inv av M μ pc ls st M' → am_wp vw_S none Fd Ct (fun r M'' => am_po f g av M r M'' ∧ am_rt ret r) I sp (fun pc' ls' st' M'' => ∃ μ', μ' < μ ∧ Inv av M μ' pc' ls' st' M'') n pc ls st M') :
    am_MF l y (Jvm.Cond.code y cc maxL ret :: vw_W) rm P f g :=
  am_mk (cc := cc) (maxL := maxL) (ret := ret) (Fd := Fd) (Ct := Ct) (I := I) (sp := sp) hy rfl hret vw_Sz (fun args s h1 h2 => hF args s am_vW h1 h2) hC hI hL (fun av M h => ⟨Inv av M, h0 av M h, fun μ pc ls st M' hi => ⟨n, hV av M h μ pc ls st M' hi⟩⟩)
def fd_none : Nat → Option (Nat × Nat × Nat) := fun _ => none
theorem fd_none_ok {own : String} (args : Array Value) (s : State) {Ts : List Jvm.Cond} (_ : ∀ w ∈ vw_W, w ∈ Ts) (_ : ∀ w ∈ Ts, w.before args s = true) (_ : ∀ w ∈ vw_N, va_Nw w s) : ∀ idx ci j q, fd_none idx = some (ci, j, q) → am_FOK vw_cl own args s Ts idx ci j q := by
  intro idx ci j q h
  cases h
