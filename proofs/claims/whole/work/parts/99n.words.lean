/-! the words of the law's start -/
def st_f (w : Jvm.Cond) : Bool := decide (w ∈ tables_1) || decide (w = .isRef (.static "java/lang/Throwable" "UNASSIGNED_STACK" "[Ljava/lang/StackTraceElement;")) || decide (w = .isRef (.static "java/lang/Throwable" "SUPPRESSED_SENTINEL" "Ljava/util/List;"))
theorem st_b0 : (th_ws th_bl[0]).all st_f = true := by decide +kernel
theorem st_b1 : (th_ws th_bl[1]).all st_f = true := by decide +kernel
theorem st_b2 : (th_ws th_bl[2]).all st_f = true := by decide +kernel
theorem st_b3 : (th_ws th_bl[3]).all st_f = true := by decide +kernel
theorem st_b4 : (th_ws th_bl[4]).all st_f = true := by decide +kernel
theorem st_b5 : (th_ws th_bl[5]).all st_f = true := by decide +kernel
theorem st_b6 : (th_ws th_bl[6]).all st_f = true := by decide +kernel
theorem st_b7 : (th_ws th_bl[7]).all st_f = true := by decide +kernel
theorem st_b8 : (th_ws th_bl[8]).all st_f = true := by decide +kernel
theorem st_b9 : (th_ws th_bl[9]).all st_f = true := by decide +kernel
theorem st_b10 : (th_ws th_bl[10]).all st_f = true := by decide +kernel
theorem st_b11 : (th_ws th_bl[11]).all st_f = true := by decide +kernel
theorem st_b12 : (th_ws th_bl[12]).all st_f = true := by decide +kernel
theorem st_b13 : (th_ws th_bl[13]).all st_f = true := by decide +kernel
theorem st_b14 : (th_ws th_bl[14]).all st_f = true := by decide +kernel
theorem st_b15 : (th_ws th_bl[15]).all st_f = true := by decide +kernel
theorem st_b16 : (th_ws th_bl[16]).all st_f = true := by decide +kernel
theorem st_b17 : (th_ws th_bl[17]).all st_f = true := by decide +kernel
theorem st_b18 : (th_ws th_bl[18]).all st_f = true := by decide +kernel
theorem st_b19 : (th_ws th_bl[19]).all st_f = true := by decide +kernel
theorem st_b20 : (th_ws th_bl[20]).all st_f = true := by decide +kernel
theorem st_all : ∀ b ∈ th_bl, (th_ws b).all st_f = true := List.forall_mem_cons.mpr ⟨st_b0, List.forall_mem_cons.mpr ⟨st_b1, List.forall_mem_cons.mpr ⟨st_b2, List.forall_mem_cons.mpr ⟨st_b3, List.forall_mem_cons.mpr ⟨st_b4, List.forall_mem_cons.mpr ⟨st_b5, List.forall_mem_cons.mpr ⟨st_b6, List.forall_mem_cons.mpr ⟨st_b7, List.forall_mem_cons.mpr ⟨st_b8, List.forall_mem_cons.mpr ⟨st_b9, List.forall_mem_cons.mpr ⟨st_b10, List.forall_mem_cons.mpr ⟨st_b11, List.forall_mem_cons.mpr ⟨st_b12, List.forall_mem_cons.mpr ⟨st_b13, List.forall_mem_cons.mpr ⟨st_b14, List.forall_mem_cons.mpr ⟨st_b15, List.forall_mem_cons.mpr ⟨st_b16, List.forall_mem_cons.mpr ⟨st_b17, List.forall_mem_cons.mpr ⟨st_b18, List.forall_mem_cons.mpr ⟨st_b19, List.forall_mem_cons.mpr ⟨st_b20, fun _ h => absurd h List.not_mem_nil⟩⟩⟩⟩⟩⟩⟩⟩⟩⟩⟩⟩⟩⟩⟩⟩⟩⟩⟩⟩⟩
theorem th_mv0 {s : State} {args : Array Value} (w : Jvm.Cond) (hk : th_k w = true) (h : w.before args s = true) : w.before #[] s = true := by
  unfold th_k at hk
  split at hk
  · exact h
  · exact h
  · exact h
  · rw [Bool.and_eq_true] at hk
    exact va_tabs hk.1 rfl h
theorem st_ok {s : State} {b : Addr} (hts : ∀ w ∈ lw_tbl, w.before #[Value.ref b] s = true) (hg : (Jvm.Cond.and given_1 narrow_1).before #[Value.ref b] s = true) : hs_ok s := by
  have hq := flat_of_before _ hg
  refine ⟨fun bl hb w hw => th_mv0 (args := #[Value.ref b]) w (th_kall bl hb w hw) ?_, fun w hw => ?_⟩
  · have h1 := List.all_eq_true.mp (st_all bl hb) w hw
    simp only [st_f, Bool.or_eq_true, decide_eq_true_eq] at h1
    rcases h1 with (h1 | rfl) | rfl
    · exact hts w (List.mem_append_right _ h1)
    · exact hq _ (by decide +kernel)
    · exact hq _ (by decide +kernel)
  · simp only [hs_no, List.mem_cons, List.not_mem_nil, or_false] at hw
    have mv : ∀ x y, (Jvm.Cond.not (.castable x y)).before #[Value.ref b] s = true → (Jvm.Cond.not (.castable x y)).before #[] s = true := fun x y h => h
    rcases hw with rfl | rfl | rfl
    · exact mv _ _ (hq _ (by decide +kernel))
    · exact mv _ _ (hq _ (by decide +kernel))
    · exact mv _ _ (hq _ (by decide +kernel))
theorem st_Nall : vw_N.all (fun w => decide (w ∈ tables_1)) = true := by decide +kernel
theorem st_N {s : State} {args : Array Value} (hts : ∀ w ∈ lw_tbl, w.before args s = true) : ∀ w ∈ vw_N, va_Nw w s := by
  intro w hw
  have h1 := List.all_eq_true.mp vw_N_ok w hw
  have h2 := hts w (List.mem_append_right _ (of_decide_eq_true (List.all_eq_true.mp st_Nall w hw)))
  cases w
  case fieldLinkNest => exact va_Nw.of rfl h2
  case methodLinkNest => exact va_Nw.of rfl h2
  all_goals exact Bool.noConfusion h1
section ST
variable {p : Program} {l : Launch} {e : Env} {R : Room} {s : State} {m : MethodId} {args : Array Value} {below : List Frame} {meth : Method} {c : Code} {A : Nat → Prop} {Q : State → Prop} {D : va_G} {G : Nat → ClassId} {nL : Nat} {cc : ByteArray} {own : String} {Ts : List Jvm.Cond} {pc : Nat} {lv : List (Nat × Value)} {st : List Value} {ws : va_W} {cells slots : Nat}
theorem ct_astore (F : ct_F p s m args c A D G nL cc own Ts) {k : Fin 4} {a : Nat} {lv2 : List (Nat × Value)} (hd : decode cc pc = .ok (.astore_n k, 1)) (hn : (k : Nat) < nL) (hl2 : ((k : Nat), Value.ref a) :: lv.filter (fun q => !(q.1 == (k : Nat)) && !(q.1 + 1 == (k : Nat) && q.2.category == 2)) = lv2) (K : ct_A p l e R s m args below meth c A Q D nL (pc + 1) lv2 st ws cells slots) : ct_A p l e R s m args below meth c A Q D nL pc lv (.ref a :: st) ws cells slots :=
  fun H locs lsA hP hD hS hl => lv_astore_n F.1.1 F.1.2.1 hd rfl hl hn hl2 (fun lsB h2 => K H locs lsB hP hD hS h2)
theorem ct_istore (F : ct_F p s m args c A D G nL cc own Ts) {i : Nat} {x : Int32} {lv2 : List (Nat × Value)} (hd : decode cc pc = .ok (.istore i, 2)) (hn : i < nL) (hl2 : (i, Value.int x) :: lv.filter (fun q => !(q.1 == i) && !(q.1 + 1 == i && q.2.category == 2)) = lv2) (K : ct_A p l e R s m args below meth c A Q D nL (pc + 2) lv2 st ws cells slots) : ct_A p l e R s m args below meth c A Q D nL pc lv (.int x :: st) ws cells slots :=
  fun H locs lsA hP hD hS hl => lv_istore F.1.1 F.1.2.1 hd hl hn hl2 (fun lsB h2 => K H locs lsB hP hD hS h2)
end ST
