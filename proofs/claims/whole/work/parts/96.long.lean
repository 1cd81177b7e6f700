/-! long answers, and the last four bits: steps beside the abstract machine -/
/-- the int that a whole number comes to -/
def am_wr (a : Int) : Int := (Int32.ofInt a).toInt
theorem am_wr_R (a : Int) : am_R (am_wr a) := ⟨by have := Int32.le_toInt (Int32.ofInt a); unfold am_wr; omega, by have := Int32.toInt_lt (Int32.ofInt a); unfold am_wr; omega⟩
def am_sx (Sg : List am_S) (k : am_K) (pc : Nat) (ls : am_L) (st : List am_V) (M : am_M) : Instr → Prop
  | .i2l => match st with
    | .inl a :: r => k (pc + 1) ls (.inr (.inr (am_wr a)) :: r) M
    | _ => False
  | .lconst c => k (pc + 1) ls (.inr (.inr (c.val : Int)) :: st) M
  | .lastore => match st with
    | .inr (.inr x) :: .inl j :: .inr (.inl id) :: r => am_ar Sg 2 id j (fun i => k (pc + 1) ls r (am_up M id i x))
    | _ => False
  | .laload => match st with
    | .inl j :: .inr (.inl id) :: r => am_ar Sg 2 id j (fun i => k (pc + 1) ls (.inr (.inr (M id i)) :: r) M)
    | _ => False
  | .lcmp => match st with
    | .inr (.inr b) :: .inr (.inr a) :: r => am_R a ∧ am_R b ∧ k (pc + 1) ls (.inl (if a = b then 0 else if b < a then 1 else -1) :: r) M
    | _ => False
  | .iand => match st with
    | .inl b :: .inl _ :: r => b = 15 ∧ ∀ z : Int, 0 ≤ z → z ≤ 15 → k (pc + 1) ls (.inl z :: r) M
    | _ => False
  | _ => False
theorem am_L64 {a : Int} (h : am_R a) : (Int64.ofInt a).toInt = a := Int64.toInt_ofInt_of_le (by have := h.1; omega) (by have := h.2; omega)
theorem am_i2l (a : Int) : (Int32.ofInt a).toInt64 = Int64.ofInt (am_wr a) := by
  apply Int64.toInt_inj.mp
  rw [Int32.toInt_toInt64, am_L64 (am_wr_R a)]
  rfl
theorem am_and15 (x : Int32) : ∃ z : Int, 0 ≤ z ∧ z ≤ 15 ∧ x &&& Int32.ofInt 15 = Int32.ofInt z := by
  have h : (x &&& Int32.ofInt 15).toBitVec.toNat ≤ 15 := by
    rw [Int32.toBitVec_and, BitVec.toNat_and]
    exact Nat.and_le_right
  have e : (x &&& Int32.ofInt 15).toInt = ((x &&& Int32.ofInt 15).toBitVec.toNat : Int) := BitVec.toInt_eq_toNat_of_lt (by omega)
  exact ⟨(x &&& Int32.ofInt 15).toInt, by omega, by omega, (Int32.ofInt_toInt _).symm⟩
theorem am_cmp {a b : Int} (ha : am_R a) (hb : am_R b) : lg_cmp (Int64.ofInt a) (Int64.ofInt b) = Int32.ofInt (if a = b then 0 else if b < a then 1 else -1) := by
  have e1 : Int64.ofInt b < Int64.ofInt a ↔ b < a := by rw [Int64.lt_iff_toInt_lt, am_L64 ha, am_L64 hb]
  have e2 : Int64.ofInt a = Int64.ofInt b ↔ a = b := by rw [← Int64.toInt_inj, am_L64 ha, am_L64 hb]
  unfold lg_cmp
  simp only [e1, e2]
  by_cases h : a = b
  · subst h; simp
  · by_cases h2 : b < a
    · simp [h, h2]
    · simp [h, h2]
section AMS
variable {p : Program} {l : Launch} {e : Env} {R : Room} {s : State} {m : MethodId} {args : Array Value} {below : List Frame} {meth : Method} {c : Code} {H0 : Heap} {A : Nat → Prop} {cells slots : Nat} {Q : State → Prop} {D : va_G} {cl : List vw_C} {G : Nat → ClassId} {ad : Nat → Nat} {Sg : List am_S} {nL : Nat} {cc : ByteArray} {own : String} {Ts : List Jvm.Cond}
theorem am_sx_ok {k : am_K} {pc len : Nat} {ls : am_L} {st : List am_V} {M : am_M} {i : Instr} (hx : p.tables.exec = Jvm.exec) (hb : c.code = cc) (hK : va_K D cl (am_ty G) s) (hSz : ∀ (id e n : Nat), Sg[id]? = some (.inl (e, n)) → n < 2147483648) (hl : len = 1) (hdg : decode cc pc = .ok (i, len))
    (hk : ∀ pc' ls' st' M', k pc' ls' st' M' → am_A p l e R s m args below meth c H0 A cells slots Q D cl G ad Sg nL pc' ls' st' M') (h : am_sx Sg k pc ls st M i) : am_A p l e R s m args below meth c H0 A cells slots Q D cl G ad Sg nL pc ls st M := by
  subst hl
  unfold am_sx at h
  split at h
  · split at h
    · rename_i a r
      intro H locs lsA hP hD hS hH
      exact lv_i2l hx hb hdg (am_i2l a) (hk _ _ _ _ h H locs lsA hP hD hS hH)
    · exact h.elim
  · rename_i c'
    intro H locs lsA hP hD hS hH
    exact lv_lconst hx hb hdg (v := Int64.ofInt (c'.val : Int)) (by rw [Int64.ofInt_eq_ofNat]) (hk _ _ _ _ h H locs lsA hP hD hS hH)
  · split at h
    · rename_i x j id r
      intro H locs lsA hP hD hS hH
      obtain ⟨N, hs, h1, h2, h⟩ := am_ar_e h
      have hN := hSz _ _ _ hs
      refine va_last hx hb hK hP hD hS id 2 (am_w_at hs) rfl (am_in h1 h2 hN) hdg ?_
      have e1 : (am_w G ad M Sg).set id (ad id, .inl (G 2, N, .inr (.inl (vp_updL (fun j => Int64.ofInt (M id j)) (Int32.ofInt j).toNatClampNeg (Int64.ofInt x))))) = am_w G ad (am_up M id j.toNat x) Sg := by
        rw [← am_w_set (M' := am_up M id j.toNat x) hs (fun a b ha => am_up_k M x ha)]
        congr 1
        show _ = (ad id, Sum.inl (G 2, N, Sum.inr (Sum.inl (fun b => Int64.ofInt (am_up M id j.toNat x id b)))))
        congr 6
        funext b
        rw [am_clamp h1 (by omega)]
        by_cases hb : b = j.toNat
        · subst hb; simp [vp_updL, am_up]
        · simp [vp_updL, am_up, hb]
      intro H1 locs1 p1 d1 s1
      rw [e1] at p1 d1
      exact hk _ _ _ _ h H1 locs1 lsA p1 d1 s1 hH
    · exact h.elim
  · split at h
    · rename_i j id r
      intro H locs lsA hP hD hS hH
      obtain ⟨N, hs, h1, h2, h⟩ := am_ar_e h
      have hN := hSz _ _ _ hs
      refine va_lald hx hb hK hP id 2 (am_w_at hs) rfl (am_in h1 h2 hN) hdg ?_
      rw [am_clamp h1 (by omega)]
      exact hk _ _ _ _ h H locs lsA hP hD hS hH
    · exact h.elim
  · split at h
    · rename_i b a r
      intro H locs lsA hP hD hS hH
      refine W.lcmp hx hb hdg ?_
      rw [am_cmp h.1 h.2.1]
      exact hk _ _ _ _ h.2.2 H locs lsA hP hD hS hH
    · exact h.elim
  · split at h
    · rename_i b a r
      obtain ⟨rfl, h⟩ := h
      intro H locs lsA hP hD hS hH
      refine lv_iand hx hb hdg ?_
      obtain ⟨z, h1, h2, h3⟩ := am_and15 (Int32.ofInt a)
      rw [h3]
      exact hk _ _ _ _ (h z h1 h2) H locs lsA hP hD hS hH
    · exact h.elim
  · exact h.elim
/-- stops at which such a step stands; so many of them -/
def am_zq (Sg : List am_S) (Sc : Option (Nat × (Nat → Int))) (Fd : Nat → Option (Nat × Nat × Nat)) (Ct : am_T) (Zr : am_Z) (I : Nat → Option (Instr × Nat)) (sp sq : Nat → Bool) (Z : am_K) (fu : Nat) : Nat → am_K
  | 0 => fun _ _ _ _ => False
  | n + 1 => fun pc ls st M => if sq pc = true then (match I pc with
    | some (i, len) => len = 1 ∧ am_sx Sg (am_nx Sg Sc Fd Ct Zr I sp (am_zq Sg Sc Fd Ct Zr I sp sq Z fu n) fu) pc ls st M i
    | none => False) else Z pc ls st M
theorem am_zq_ok {Sc : Option (Nat × (Nat → Int))} {Fd : Nat → Option (Nat × Nat × Nat)} {Ct : am_T} {Zr : am_Z} {I : Nat → Option (Instr × Nat)} {sp sq : Nat → Bool} {Z : am_K} {fu : Nat}
    (hx : p.tables.exec = Jvm.exec) (hb : c.code = cc) (hown : s.vm.findClass own = some m.cls) (hts : ∀ w ∈ Ts, w.before args s = true) (hK : va_K D cl (am_ty G) s)
    (hSz : ∀ (id e n : Nat), Sg[id]? = some (.inl (e, n)) → n < 2147483648) (hF : ∀ idx ci j q, Fd idx = some (ci, j, q) → am_FOK cl own args s Ts idx ci j q)
    (hC : ∀ pc q ct, Ct pc = some (q, ct) → am_C p l e R s m args below meth c H0 A cells slots Q D cl G ad Sg nL pc q ct) (hE : am_E p l e R s m args below meth c H0 A cells slots Q D cl G ad Sg cc Zr)
    (hX : ∀ L xs, Sc = some (L, xs) → L < 2147483648 ∧ ∃ ys : Nat → Int32, va_X (ad am_scr) L ys s H0 ∧ ad am_scr < H0.size ∧ ¬ A (ad am_scr) ∧ ∀ j, xs j = (ys j).toInt)
    (hI : ∀ pc i n, I pc = some (i, n) → decode cc pc = .ok (i, n))
    (hZ : ∀ pc' ls' st' M', Z pc' ls' st' M' → am_A p l e R s m args below meth c H0 A cells slots Q D cl G ad Sg nL pc' ls' st' M') :
    ∀ (n pc : Nat) (ls : am_L) (st : List am_V) (M : am_M), am_zq Sg Sc Fd Ct Zr I sp sq Z fu n pc ls st M → am_A p l e R s m args below meth c H0 A cells slots Q D cl G ad Sg nL pc ls st M
  | 0, pc, ls, st, M, h => h.elim
  | n + 1, pc, ls, st, M, h => by
    unfold am_zq at h
    split at h
    · split at h
      · rename_i i len hi
        refine am_sx_ok hx hb hK hSz h.1 (hI _ _ _ hi) (fun pc' ls' st' M' hk => ?_) h.2
        unfold am_nx at hk
        split at hk
        · exact am_zq_ok hx hb hown hts hK hSz hF hC hE hX hI hZ n pc' ls' st' M' hk
        · exact am_wp_ok hx hb hown hts hK hSz hF hC hE hX hI (am_zq_ok hx hb hown hts hK hSz hF hC hE hX hI hZ n) fu pc' ls' st' M' hk
      · exact h.elim
    · exact hZ _ _ _ _ h
end AMS
section XQ
variable {Sg : List am_S} {Sc : Option (Nat × (Nat → Int))} {Fd : Nat → Option (Nat × Nat × Nat)} {Ct : am_T} {Zr : am_Z} {I : Nat → Option (Instr × Nat)} {sp sq : Nat → Bool} {Z : am_K} {n fu pc q : Nat} {ls : am_L} {st : List am_V} {M : am_M}
theorem xq_s {i : Instr} (hs : sq pc = true) (hi : I pc = some (i, 1)) (h : am_sx Sg (am_nx Sg Sc Fd Ct Zr I sp (am_zq Sg Sc Fd Ct Zr I sp sq Z fu n) fu) pc ls st M i) : am_zq Sg Sc Fd Ct Zr I sp sq Z fu (n + 1) pc ls st M := by
  unfold am_zq
  rw [if_pos hs, hi]
  exact ⟨rfl, h⟩
theorem xq_z (hs : sq pc = false) (h : Z pc ls st M) : am_zq Sg Sc Fd Ct Zr I sp sq Z fu (n + 1) pc ls st M := by
  unfold am_zq
  rw [if_neg (by rw [hs]; decide)]
  exact h
theorem xq_i2l {a : Int} (hs : sq pc = true) (hi : I pc = some (.i2l, 1)) (h : am_nx Sg Sc Fd Ct Zr I sp (am_zq Sg Sc Fd Ct Zr I sp sq Z fu n) fu (pc + 1) ls (.inr (.inr (am_wr a)) :: st) M) : am_zq Sg Sc Fd Ct Zr I sp sq Z fu (n + 1) pc ls (.inl a :: st) M := xq_s hs hi h
theorem xq_lconst {a : Fin 2} (hs : sq pc = true) (hi : I pc = some (.lconst a, 1)) (h : am_nx Sg Sc Fd Ct Zr I sp (am_zq Sg Sc Fd Ct Zr I sp sq Z fu n) fu (pc + 1) ls (.inr (.inr (a.val : Int)) :: st) M) : am_zq Sg Sc Fd Ct Zr I sp sq Z fu (n + 1) pc ls st M := xq_s hs hi h
theorem xq_lcmp {a b : Int} (hs : sq pc = true) (hi : I pc = some (.lcmp, 1)) (hR : am_R a ∧ am_R b) (h : am_nx Sg Sc Fd Ct Zr I sp (am_zq Sg Sc Fd Ct Zr I sp sq Z fu n) fu (pc + 1) ls (.inl (if a = b then 0 else if b < a then 1 else -1) :: st) M) : am_zq Sg Sc Fd Ct Zr I sp sq Z fu (n + 1) pc ls (.inr (.inr b) :: .inr (.inr a) :: st) M := xq_s hs hi ⟨hR.1, hR.2, h⟩
theorem xq_iand {a : Int} (hs : sq pc = true) (hi : I pc = some (.iand, 1)) (h : ∀ z : Int, 0 ≤ z → z ≤ 15 → am_nx Sg Sc Fd Ct Zr I sp (am_zq Sg Sc Fd Ct Zr I sp sq Z fu n) fu (pc + 1) ls (.inl z :: st) M) : am_zq Sg Sc Fd Ct Zr I sp sq Z fu (n + 1) pc ls (.inl 15 :: .inl a :: st) M := xq_s hs hi ⟨rfl, h⟩
theorem xq_lastore {x j : Int} {id N : Nat} (hs : sq pc = true) (hi : I pc = some (.lastore, 1)) (hg : Sg[id]? = some (.inl (2, N))) (hj : 0 ≤ j ∧ j < N) (h : am_nx Sg Sc Fd Ct Zr I sp (am_zq Sg Sc Fd Ct Zr I sp sq Z fu n) fu (pc + 1) ls st (am_up M id j.toNat x)) : am_zq Sg Sc Fd Ct Zr I sp sq Z fu (n + 1) pc ls (.inr (.inr x) :: .inl j :: .inr (.inl id) :: st) M := xq_s hs hi (by
  simp only [am_sx, am_ar, hg]
  exact ⟨by trivial, hj.1, hj.2, h⟩)
theorem xq_laload {j : Int} {id N : Nat} (hs : sq pc = true) (hi : I pc = some (.laload, 1)) (hg : Sg[id]? = some (.inl (2, N))) (hj : 0 ≤ j ∧ j < N) (h : am_nx Sg Sc Fd Ct Zr I sp (am_zq Sg Sc Fd Ct Zr I sp sq Z fu n) fu (pc + 1) ls (.inr (.inr (M id j.toNat)) :: st) M) : am_zq Sg Sc Fd Ct Zr I sp sq Z fu (n + 1) pc ls (.inl j :: .inr (.inl id) :: st) M := xq_s hs hi (by
  simp only [am_sx, am_ar, hg]
  exact ⟨by trivial, hj.1, hj.2, h⟩)
end XQ
