/-! the law's walk as a whole, and the claim (wip/whole/p99p.py; the rows sk_ are the skeleton's) -/
def sk_P (b : Addr) (xs : List Int32) (args : Array Value) (s : State) : Prop := args = #[.ref b] ∧ s.IntsAt b xs ∧ xs.length ≤ 2560 ∧ (Jvm.Cond.and given_1 narrow_1).before args s = true
def sk_Q (_ : Array Value) (s : State) (o : Outcome) (t : State) : Prop := o = .returned (some (.int 1)) ∧ Framed s o t [] 1125 20508
def sk_Z (below : List Frame) (a : Array Value) (s : State) : State → Prop := fun t => ∃ o, t.status = .running ∧ Ended t below o ∧ sk_Q a s o t
theorem sk_ret {p : Program} {l : Launch} {e : Env} {s : State} {m : MethodId} {below : List Frame} {meth : Method} {c : Code} {b : Nat} (hx : p.tables.exec = Jvm.exec) (hb : c.code = code) (hr : meth.sig.returnType = ret) (hlocks : meth.locks = false) {pc : Nat} {H : Heap} {ls : Array Slot} (hdg : decode code pc = .ok (.ireturn, 1)) : W p l e room_1 s m #[Value.ref b] below meth c H [] 1125 20508 (sk_Z below #[Value.ref b] s) (F0 m pc ls [.int 1]) := by
  intro T hT X
  obtain ⟨fs, hret, hrun, hended, hW, hframe⟩ := X.leave (v := some (.int 1)) (hlocks := hlocks) (fun h => by rw [hr] at h; cases h)
  have hmeth' : T.vm.method? m = some meth := X.method'
  refine ⟨T.setFrames fs, ?_, .returned (some (.int 1)), hrun, hended, rfl, ⟨_, rfl⟩, hW, hframe⟩
  jvm_step X.here [X.here.top, hx, hb, hdg, hmeth', hr, ret, narrow_b1]
  (try refine ⟨rfl, ?_⟩); (try refine ⟨rfl, ?_⟩)
  first | (intro acts; rw [hret _ acts rfl rfl rfl]) | rw [hret _ _ rfl rfl rfl]
  exact Steps.refl _
def sk_At (p : Program) (s : State) (m : MethodId) (meth : Method) (c : Code) (b L : Nat) (xs : Nat → Int32) : Prop :=
  p.tables.exec = Jvm.exec ∧ c.code = code ∧ meth.sig.returnType = ret ∧ c.maxLocals = 7 ∧ s.vm.findClass "ServerDeskLaw" = some m.cls ∧ (∀ w ∈ lw_tbl, w.before #[Value.ref b] s = true) ∧ va_X b L xs s s.heap ∧ b < s.heap.size ∧ meth.locks = false ∧ (Jvm.Cond.and given_1 narrow_1).before #[Value.ref b] s = true
theorem la_keep {s : State} : ∀ H locs, va_S (fun q : Nat => s.heap.size ≤ q) s.heap H locs → ∀ (q : Addr) (cell : Cell), s.heap[q]? = some cell → cell.vm.isStatics = true → H[q]? = some cell := fun H locs hS q cell hq _ => by
  have h1 : q < s.heap.size := (Array.getElem?_eq_some_iff.mp hq).1
  exact (hS.2.1 q h1 (Nat.not_le.mpr h1)).trans hq
theorem la_adb {b q0 : Nat} {u4 : Nat → Nat} {q8 : Nat} {u12 : Nat → Nat} {q17 : Nat} : la_ad b q0 u4 q8 u12 q17 am_scr = b := if_pos rfl
theorem la_Hs {lsA : Array Slot} {b q0 : Nat} {u4 : Nat → Nat} {q8 : Nat} {u12 : Nat → Nat} {q17 : Nat} (h : lv_has lsA 7 [(4, .int (Int32.ofInt 0)), (3, .ref q17), (2, .ref q8), (1, .ref q0), (0, .ref b)]) : am_H (la_ad b q0 u4 q8 u12 q17) lsA 7 [some (.inr (.inl am_scr)), some (.inr (.inl 0)), some (.inr (.inl 50)), some (.inr (.inl 78)), some (.inl (((5 * 0 : Nat) : Int))), none, none] := by
  refine ⟨h.1, h.2.1, rfl, fun i v hv => ?_⟩
  match i, hv with
  | 0, hv => cases hv; exact ⟨rfl, lv_at h 4 rfl⟩
  | 1, hv => cases hv; exact ⟨rfl, lv_at h 3 rfl⟩
  | 2, hv => cases hv; exact ⟨rfl, lv_at h 2 rfl⟩
  | 3, hv => cases hv; exact ⟨rfl, lv_at h 1 rfl⟩
  | 4, hv => cases hv; exact ⟨rfl, lv_at h 0 rfl⟩
  | 5, hv => cases hv
  | 6, hv => cases hv
  | n + 7, hv => cases hv
theorem la_end {p : Program} {l : Launch} {e : Env} {s : State} {m : MethodId} {below : List Frame} {meth : Method} {c : Code} {b : Nat} {D : va_G} {G : Nat → ClassId} {ad : Nat → Nat} (hx : p.tables.exec = Jvm.exec) (hb : c.code = code) (hr : meth.sig.returnType = ret) (hlocks : meth.locks = false) (k : Nat) (M : am_M) (hk : k ≤ 512) : am_A p l e room_1 s m #[Value.ref b] below meth c s.heap (fun q : Nat => s.heap.size ≤ q) (79 + k) (12184 + 6 * k) (sk_Z below #[Value.ref b] s) D vw_cl G ad vw_S 7 892 [some (.inr (.inl am_scr)), some (.inr (.inl 0)), some (.inr (.inl 50)), some (.inr (.inl 78)), some (.inl (((5 * k : Nat) : Int))), none, none] [] M := by
  refine am_widen (k := 1125) (n := 20508) (by omega) (by omega) ?_
  intro H locs lsA hP hD hS hH
  exact lv_iconst (v := 1) hx hb d_LAT_892 (by decide) (va_forget (fun q hq => hS.2.2 q hq) (sk_ret hx hb hr hlocks d_LAT_893))
theorem whole_start {p : Program} {e : Env} {s : State} {m : MethodId} {below : List Frame} {meth : Method} {c : Code} (l : Launch) (hfl : l.flags = flags0) {b L : Nat} {xs : Nat → Int32} (hL : L ≤ 2560) (C0 : sk_At p s m meth c b L xs) : W p l e room_1 s m #[Value.ref b] below meth c s.heap [] 0 0 (sk_Z below #[Value.ref b] s) (entryFrame m ([Value.ref b] : List Value).toArray 7) := by
  obtain ⟨hx, hb, hr, hml, hown, hts, hX, hbl, hlk, hgv⟩ := C0
  have hW : ∀ w ∈ vw_W, w ∈ lw_tbl := fun w h => (List.mem_filter.mp h).1
  obtain ⟨D, G, hK⟩ := lw_K hts hW
  have hN := st_N hts
  have hl := lv_entry [Value.ref b] (n := 7) (Nat.le_of_ble_eq_true rfl)
  rw [lg_entry_eq]
  have F : ct_F p s m #[Value.ref b] c (fun q : Nat => s.heap.size ≤ q) D G 7 code "ServerDeskLaw" lw_tbl := ⟨⟨hx, hb, hml, hown, hts⟩, hW, hK, hN, fun q h => h⟩
  refine la_pre (b := b) F (fun q0 u4 q8 u12 q17 => ?_) s.heap [] _ (fun k q h => by simp at h) ⟨fun i j p q h => by simp at h, fun k q h => by simp at h⟩ va_S.rf hl
  intro H locs lsA hP hD hS hlv
  have F2 : la_F p s m #[Value.ref b] c (fun q : Nat => s.heap.size ≤ q) D G (la_ad b q0 u4 q8 u12 q17) L (fun j => (xs j).toInt) lw_tbl := ⟨⟨hx, hb, hml, hown, hts⟩, hW, hK, hN, fun q h => h, st_ok hts hgv, la_keep, by omega, xs, by rw [la_adb]; exact hX, by rw [la_adb]; exact hbl, by rw [la_adb]; exact Nat.not_le.mpr hbl, fun j => rfl⟩
  have hlist := la_list G b q0 u4 q8 u12 q17
  exact la_loop (ad := la_ad b q0 u4 q8 u12 q17) hfl l_all F2 hL (fun k M hk => la_end hx hb hr hlk k M hk) 512 0 M0 (by omega) (by omega) m0_I H locs lsA (va_P.sub (ws := la_w G q0 u4 q8 u12 q17) hP la_is (la_subf hlist)) (va_D.sub (ws := la_w G q0 u4 q8 u12 q17) hD la_is la_nd hlist) hS (la_Hs hlv)
