section
-- ===== PART A: goes FIRST, ahead of the names: the tables' words, and 'selects' of the private methods out of them =====
/-- a private method of a class that the tables say can be made, by its rows of tables_1 -/
def lw_okq (q : MethodName × Nat) : Prop := (q.1.cls ≠ "java/lang/invoke/MethodHandle" ∧ q.1.cls ≠ "java/lang/invoke/VarHandle") ∧ Cond.instantiable q.1.cls q.2 ∈ tables_1 ∧ Cond.privateMethod q.1 ∈ tables_1 ∧ Cond.instanceMethod q.1 ∈ tables_1
theorem lw_p0 : lw_okq (⟨"java/lang/Throwable", "fillInStackTrace", "(I)Ljava/lang/Throwable;"⟩, 6) := ⟨⟨by decide +kernel, by decide +kernel⟩, List.mem_of_getElem? (i := 426) (by decide +kernel), List.mem_of_getElem? (i := 424) (by decide +kernel), List.mem_of_getElem? (i := 425) (by decide +kernel)⟩
theorem lw_p1 : lw_okq (⟨"ServerDesk$TaskSet", "isInTime", "(ILServerDesk$RuleBook;I)Z"⟩, 7) := ⟨⟨by decide +kernel, by decide +kernel⟩, List.mem_of_getElem? (i := 32) (by decide +kernel), List.mem_of_getElem? (i := 525) (by decide +kernel), List.mem_of_getElem? (i := 526) (by decide +kernel)⟩
theorem lw_p2 : lw_okq (⟨"ServerDesk$TaskSet", "demandWithin", "(II)I"⟩, 7) := ⟨⟨by decide +kernel, by decide +kernel⟩, List.mem_of_getElem? (i := 32) (by decide +kernel), List.mem_of_getElem? (i := 529) (by decide +kernel), List.mem_of_getElem? (i := 530) (by decide +kernel)⟩
theorem lw_p3 : lw_okq (⟨"ServerDesk$Budget", "placeOf", "(I)I"⟩, 5) := ⟨⟨by decide +kernel, by decide +kernel⟩, List.mem_of_getElem? (i := 226) (by decide +kernel), List.mem_of_getElem? (i := 569) (by decide +kernel), List.mem_of_getElem? (i := 570) (by decide +kernel)⟩
theorem lw_p4 : lw_okq (⟨"ServerDesk$Course", "runOne", "(I)I"⟩, 7) := ⟨⟨by decide +kernel, by decide +kernel⟩, List.mem_of_getElem? (i := 192) (by decide +kernel), List.mem_of_getElem? (i := 581) (by decide +kernel), List.mem_of_getElem? (i := 582) (by decide +kernel)⟩
theorem lw_p5 : lw_okq (⟨"ServerDesk$SlackMeter", "prepare", "(LServerDesk$Load;I)I"⟩, 4) := ⟨⟨by decide +kernel, by decide +kernel⟩, List.mem_of_getElem? (i := 151) (by decide +kernel), List.mem_of_getElem? (i := 597) (by decide +kernel), List.mem_of_getElem? (i := 598) (by decide +kernel)⟩
theorem lw_p6 : lw_okq (⟨"ServerDesk$SlackMeter", "isSettled", "(II)Z"⟩, 4) := ⟨⟨by decide +kernel, by decide +kernel⟩, List.mem_of_getElem? (i := 151) (by decide +kernel), List.mem_of_getElem? (i := 610) (by decide +kernel), List.mem_of_getElem? (i := 611) (by decide +kernel)⟩
theorem lw_p7 : lw_okq (⟨"ServerDesk", "takeIn", "(IZ)I"⟩, 10) := ⟨⟨by decide +kernel, by decide +kernel⟩, List.mem_of_getElem? (i := 24) (by decide +kernel), List.mem_of_getElem? (i := 647) (by decide +kernel), List.mem_of_getElem? (i := 648) (by decide +kernel)⟩
theorem lw_p8 : lw_okq (⟨"ServerDesk$Referee", "tellUpTo", "(II)I"⟩, 6) := ⟨⟨by decide +kernel, by decide +kernel⟩, List.mem_of_getElem? (i := 281) (by decide +kernel), List.mem_of_getElem? (i := 780) (by decide +kernel), List.mem_of_getElem? (i := 781) (by decide +kernel)⟩
theorem lw_p9 : lw_okq (⟨"ServerDesk$Referee", "sumOfTimes", "()I"⟩, 6) := ⟨⟨by decide +kernel, by decide +kernel⟩, List.mem_of_getElem? (i := 281) (by decide +kernel), List.mem_of_getElem? (i := 786) (by decide +kernel), List.mem_of_getElem? (i := 787) (by decide +kernel)⟩
theorem lw_p10 : lw_okq (⟨"ServerDeskModel", "hyperperiod", "()I"⟩, 46) := ⟨⟨by decide +kernel, by decide +kernel⟩, List.mem_of_getElem? (i := 798) (by decide +kernel), List.mem_of_getElem? (i := 954) (by decide +kernel), List.mem_of_getElem? (i := 955) (by decide +kernel)⟩
theorem lw_p11 : lw_okq (⟨"ServerDeskModel", "isAdmitted", "(I)Z"⟩, 46) := ⟨⟨by decide +kernel, by decide +kernel⟩, List.mem_of_getElem? (i := 798) (by decide +kernel), List.mem_of_getElem? (i := 965) (by decide +kernel), List.mem_of_getElem? (i := 966) (by decide +kernel)⟩
theorem lw_p12 : lw_okq (⟨"ServerDeskModel", "taken", "(II)I"⟩, 46) := ⟨⟨by decide +kernel, by decide +kernel⟩, List.mem_of_getElem? (i := 798) (by decide +kernel), List.mem_of_getElem? (i := 969) (by decide +kernel), List.mem_of_getElem? (i := 970) (by decide +kernel)⟩
theorem lw_p13 : lw_okq (⟨"ServerDeskModel", "begin", "(I)V"⟩, 46) := ⟨⟨by decide +kernel, by decide +kernel⟩, List.mem_of_getElem? (i := 798) (by decide +kernel), List.mem_of_getElem? (i := 980) (by decide +kernel), List.mem_of_getElem? (i := 981) (by decide +kernel)⟩
theorem lw_p14 : lw_okq (⟨"ServerDeskModel", "tickOne", "()I"⟩, 46) := ⟨⟨by decide +kernel, by decide +kernel⟩, List.mem_of_getElem? (i := 798) (by decide +kernel), List.mem_of_getElem? (i := 988) (by decide +kernel), List.mem_of_getElem? (i := 989) (by decide +kernel)⟩
theorem lw_p15 : lw_okq (⟨"ServerDeskModel", "comeBack", "()V"⟩, 46) := ⟨⟨by decide +kernel, by decide +kernel⟩, List.mem_of_getElem? (i := 798) (by decide +kernel), List.mem_of_getElem? (i := 992) (by decide +kernel), List.mem_of_getElem? (i := 993) (by decide +kernel)⟩
def lw_privs_1 : List (MethodName × Nat) := [(⟨"java/lang/Throwable", "fillInStackTrace", "(I)Ljava/lang/Throwable;"⟩, 6), (⟨"ServerDesk$TaskSet", "isInTime", "(ILServerDesk$RuleBook;I)Z"⟩, 7), (⟨"ServerDesk$TaskSet", "demandWithin", "(II)I"⟩, 7), (⟨"ServerDesk$Budget", "placeOf", "(I)I"⟩, 5), (⟨"ServerDesk$Course", "runOne", "(I)I"⟩, 7), (⟨"ServerDesk$SlackMeter", "prepare", "(LServerDesk$Load;I)I"⟩, 4), (⟨"ServerDesk$SlackMeter", "isSettled", "(II)Z"⟩, 4), (⟨"ServerDesk", "takeIn", "(IZ)I"⟩, 10), (⟨"ServerDesk$Referee", "tellUpTo", "(II)I"⟩, 6), (⟨"ServerDesk$Referee", "sumOfTimes", "()I"⟩, 6), (⟨"ServerDeskModel", "hyperperiod", "()I"⟩, 46), (⟨"ServerDeskModel", "isAdmitted", "(I)Z"⟩, 46), (⟨"ServerDeskModel", "taken", "(II)I"⟩, 46), (⟨"ServerDeskModel", "begin", "(I)V"⟩, 46), (⟨"ServerDeskModel", "tickOne", "()I"⟩, 46), (⟨"ServerDeskModel", "comeBack", "()V"⟩, 46)]
theorem lw_r1 : ∀ q ∈ lw_privs_1, lw_okq q := List.forall_mem_cons.mpr ⟨lw_p0, List.forall_mem_cons.mpr ⟨lw_p1, List.forall_mem_cons.mpr ⟨lw_p2, List.forall_mem_cons.mpr ⟨lw_p3, List.forall_mem_cons.mpr ⟨lw_p4, List.forall_mem_cons.mpr ⟨lw_p5, List.forall_mem_cons.mpr ⟨lw_p6, List.forall_mem_cons.mpr ⟨lw_p7, List.forall_mem_cons.mpr ⟨lw_p8, List.forall_mem_cons.mpr ⟨lw_p9, List.forall_mem_cons.mpr ⟨lw_p10, List.forall_mem_cons.mpr ⟨lw_p11, List.forall_mem_cons.mpr ⟨lw_p12, List.forall_mem_cons.mpr ⟨lw_p13, List.forall_mem_cons.mpr ⟨lw_p14, List.forall_mem_cons.mpr ⟨lw_p15, fun _ h => absurd h List.not_mem_nil⟩⟩⟩⟩⟩⟩⟩⟩⟩⟩⟩⟩⟩⟩⟩⟩
theorem lw_p16 : lw_okq (⟨"ServerDeskModel", "getReady", "()V"⟩, 46) := ⟨⟨by decide +kernel, by decide +kernel⟩, List.mem_of_getElem? (i := 798) (by decide +kernel), List.mem_of_getElem? (i := 996) (by decide +kernel), List.mem_of_getElem? (i := 997) (by decide +kernel)⟩
theorem lw_p17 : lw_okq (⟨"ServerDeskModel", "begins", "(II)Z"⟩, 46) := ⟨⟨by decide +kernel, by decide +kernel⟩, List.mem_of_getElem? (i := 798) (by decide +kernel), List.mem_of_getElem? (i := 1000) (by decide +kernel), List.mem_of_getElem? (i := 1001) (by decide +kernel)⟩
theorem lw_p18 : lw_okq (⟨"ServerDeskModel", "firstJob", "()I"⟩, 46) := ⟨⟨by decide +kernel, by decide +kernel⟩, List.mem_of_getElem? (i := 798) (by decide +kernel), List.mem_of_getElem? (i := 1004) (by decide +kernel), List.mem_of_getElem? (i := 1005) (by decide +kernel)⟩
theorem lw_p19 : lw_okq (⟨"ServerDeskModel", "readyTask", "()I"⟩, 46) := ⟨⟨by decide +kernel, by decide +kernel⟩, List.mem_of_getElem? (i := 798) (by decide +kernel), List.mem_of_getElem? (i := 1008) (by decide +kernel), List.mem_of_getElem? (i := 1009) (by decide +kernel)⟩
theorem lw_p20 : lw_okq (⟨"ServerDeskModel", "goesAhead", "()Z"⟩, 46) := ⟨⟨by decide +kernel, by decide +kernel⟩, List.mem_of_getElem? (i := 798) (by decide +kernel), List.mem_of_getElem? (i := 1012) (by decide +kernel), List.mem_of_getElem? (i := 1013) (by decide +kernel)⟩
theorem lw_p21 : lw_okq (⟨"ServerDeskModel", "slackNow", "(Z)I"⟩, 46) := ⟨⟨by decide +kernel, by decide +kernel⟩, List.mem_of_getElem? (i := 798) (by decide +kernel), List.mem_of_getElem? (i := 1016) (by decide +kernel), List.mem_of_getElem? (i := 1017) (by decide +kernel)⟩
theorem lw_p22 : lw_okq (⟨"ServerDeskModel", "slackOf", "(IZ)I"⟩, 46) := ⟨⟨by decide +kernel, by decide +kernel⟩, List.mem_of_getElem? (i := 798) (by decide +kernel), List.mem_of_getElem? (i := 1020) (by decide +kernel), List.mem_of_getElem? (i := 1021) (by decide +kernel)⟩
theorem lw_p23 : lw_okq (⟨"ServerDeskModel", "nextOf", "(IZ)I"⟩, 46) := ⟨⟨by decide +kernel, by decide +kernel⟩, List.mem_of_getElem? (i := 798) (by decide +kernel), List.mem_of_getElem? (i := 1024) (by decide +kernel), List.mem_of_getElem? (i := 1025) (by decide +kernel)⟩
theorem lw_p24 : lw_okq (⟨"ServerDeskModel", "comes", "(IIZ)I"⟩, 46) := ⟨⟨by decide +kernel, by decide +kernel⟩, List.mem_of_getElem? (i := 798) (by decide +kernel), List.mem_of_getElem? (i := 1028) (by decide +kernel), List.mem_of_getElem? (i := 1029) (by decide +kernel)⟩
theorem lw_p25 : lw_okq (⟨"ServerDeskModel", "arrive", "(IZ)I"⟩, 46) := ⟨⟨by decide +kernel, by decide +kernel⟩, List.mem_of_getElem? (i := 798) (by decide +kernel), List.mem_of_getElem? (i := 1036) (by decide +kernel), List.mem_of_getElem? (i := 1037) (by decide +kernel)⟩
theorem lw_p26 : lw_okq (⟨"ServerDeskModel", "comesIn", "()V"⟩, 46) := ⟨⟨by decide +kernel, by decide +kernel⟩, List.mem_of_getElem? (i := 798) (by decide +kernel), List.mem_of_getElem? (i := 1040) (by decide +kernel), List.mem_of_getElem? (i := 1041) (by decide +kernel)⟩
theorem lw_p27 : lw_okq (⟨"ServerDeskModel", "free", "(I)I"⟩, 46) := ⟨⟨by decide +kernel, by decide +kernel⟩, List.mem_of_getElem? (i := 798) (by decide +kernel), List.mem_of_getElem? (i := 1048) (by decide +kernel), List.mem_of_getElem? (i := 1049) (by decide +kernel)⟩
theorem lw_p28 : lw_okq (⟨"ServerDeskModel", "keep", "()V"⟩, 46) := ⟨⟨by decide +kernel, by decide +kernel⟩, List.mem_of_getElem? (i := 798) (by decide +kernel), List.mem_of_getElem? (i := 1052) (by decide +kernel), List.mem_of_getElem? (i := 1053) (by decide +kernel)⟩
theorem lw_p29 : lw_okq (⟨"ServerDeskModel", "layBack", "()V"⟩, 46) := ⟨⟨by decide +kernel, by decide +kernel⟩, List.mem_of_getElem? (i := 798) (by decide +kernel), List.mem_of_getElem? (i := 1056) (by decide +kernel), List.mem_of_getElem? (i := 1057) (by decide +kernel)⟩
theorem lw_p30 : lw_okq (⟨"ServerDeskModel", "tell", "(II)V"⟩, 46) := ⟨⟨by decide +kernel, by decide +kernel⟩, List.mem_of_getElem? (i := 798) (by decide +kernel), List.mem_of_getElem? (i := 1064) (by decide +kernel), List.mem_of_getElem? (i := 1065) (by decide +kernel)⟩
theorem lw_p31 : lw_okq (⟨"ServerDeskModel", "queued", "()I"⟩, 46) := ⟨⟨by decide +kernel, by decide +kernel⟩, List.mem_of_getElem? (i := 798) (by decide +kernel), List.mem_of_getElem? (i := 1092) (by decide +kernel), List.mem_of_getElem? (i := 1093) (by decide +kernel)⟩
def lw_privs_2 : List (MethodName × Nat) := [(⟨"ServerDeskModel", "getReady", "()V"⟩, 46), (⟨"ServerDeskModel", "begins", "(II)Z"⟩, 46), (⟨"ServerDeskModel", "firstJob", "()I"⟩, 46), (⟨"ServerDeskModel", "readyTask", "()I"⟩, 46), (⟨"ServerDeskModel", "goesAhead", "()Z"⟩, 46), (⟨"ServerDeskModel", "slackNow", "(Z)I"⟩, 46), (⟨"ServerDeskModel", "slackOf", "(IZ)I"⟩, 46), (⟨"ServerDeskModel", "nextOf", "(IZ)I"⟩, 46), (⟨"ServerDeskModel", "comes", "(IIZ)I"⟩, 46), (⟨"ServerDeskModel", "arrive", "(IZ)I"⟩, 46), (⟨"ServerDeskModel", "comesIn", "()V"⟩, 46), (⟨"ServerDeskModel", "free", "(I)I"⟩, 46), (⟨"ServerDeskModel", "keep", "()V"⟩, 46), (⟨"ServerDeskModel", "layBack", "()V"⟩, 46), (⟨"ServerDeskModel", "tell", "(II)V"⟩, 46), (⟨"ServerDeskModel", "queued", "()I"⟩, 46)]
theorem lw_r2 : ∀ q ∈ lw_privs_2, lw_okq q := List.forall_mem_cons.mpr ⟨lw_p16, List.forall_mem_cons.mpr ⟨lw_p17, List.forall_mem_cons.mpr ⟨lw_p18, List.forall_mem_cons.mpr ⟨lw_p19, List.forall_mem_cons.mpr ⟨lw_p20, List.forall_mem_cons.mpr ⟨lw_p21, List.forall_mem_cons.mpr ⟨lw_p22, List.forall_mem_cons.mpr ⟨lw_p23, List.forall_mem_cons.mpr ⟨lw_p24, List.forall_mem_cons.mpr ⟨lw_p25, List.forall_mem_cons.mpr ⟨lw_p26, List.forall_mem_cons.mpr ⟨lw_p27, List.forall_mem_cons.mpr ⟨lw_p28, List.forall_mem_cons.mpr ⟨lw_p29, List.forall_mem_cons.mpr ⟨lw_p30, List.forall_mem_cons.mpr ⟨lw_p31, fun _ h => absurd h List.not_mem_nil⟩⟩⟩⟩⟩⟩⟩⟩⟩⟩⟩⟩⟩⟩⟩⟩
def lw_privs : List (MethodName × Nat) := lw_privs_1 ++ (lw_privs_2)
def lw_tbl : List Cond := k2_sels lw_privs ++ tables_1
theorem lw_privs_ok : ∀ q ∈ lw_privs, lw_okq q := by
  show ∀ q ∈ lw_privs_1 ++ (lw_privs_2), lw_okq q
  exact List.forall_mem_append.mpr ⟨lw_r1, lw_r2⟩
end
section
/-! An abstract machine over whole numbers: a walk of bytecode without calls of the heap's own words. Cells are named by numbers; 'am_w' lays them at addresses. -/
abbrev am_V : Type := Int ⊕ (Nat ⊕ Int)
abbrev am_M : Type := Nat → Nat → Int
abbrev am_L : Type := List (Option am_V)
/-- a cell's shape: an array (0 int, 1 boolean, 2 long; its length), or an object (its class's number; its fields: none an int, some k the cell k) -/
abbrev am_S : Type := (Nat × Nat) ⊕ (Nat × List (Option Nat))
def am_cv (ad : Nat → Nat) : am_V → Value
  | .inl x => .int (Int32.ofInt x)
  | .inr (.inl k) => .ref (ad k)
  | .inr (.inr x) => .long (Int64.ofInt x)
def am_fv (ad : Nat → Nat) (f : Nat → Int) : Nat → List (Option Nat) → List Value
  | _, [] => []
  | j, none :: r => .int (Int32.ofInt (f j)) :: am_fv ad f (j + 1) r
  | j, some k :: r => .ref (ad k) :: am_fv ad f (j + 1) r
def am_c (G : Nat → ClassId) (ad : Nat → Nat) (M : am_M) (k : Nat) : am_S → Nat × va_E
  | .inl (0, n) => (ad k, .inl (G 0, n, .inl (fun j => Int32.ofInt (M k j))))
  | .inl (1, n) => (ad k, .inl (G 1, n, .inl (fun j => Int32.ofInt (M k j))))
  | .inl (_, n) => (ad k, .inl (G 2, n, .inr (.inl (fun j => Int64.ofInt (M k j)))))
  | .inr (ci, fs) => (ad k, .inr (ci, am_fv ad (M k) 0 fs))
def am_w (G : Nat → ClassId) (ad : Nat → Nat) (M : am_M) (Sg : List am_S) : va_W := Sg.mapIdx (fun k s => am_c G ad M k s)
def am_ty (G : Nat → ClassId) : List (ClassId × FieldType) := [(G 0, .int), (G 1, .boolean), (G 2, .long)]
def am_up (M : am_M) (k j : Nat) (v : Int) : am_M := fun a b => if a = k ∧ b = j then v else M a b
theorem am_up_s (M : am_M) (k j : Nat) (v : Int) : am_up M k j v k j = v := by simp [am_up]
theorem am_up_k (M : am_M) {k j a b : Nat} (v : Int) (h : a ≠ k) : am_up M k j v a b = M a b := by simp [am_up, h]
theorem am_up_j (M : am_M) {k j a b : Nat} (v : Int) (h : b ≠ j) : am_up M k j v a b = M a b := by simp [am_up, h]
def am_R (a : Int) : Prop := -2147483648 ≤ a ∧ a < 2147483648
theorem am_toInt {a : Int} (h : am_R a) : (Int32.ofInt a).toInt = a := Int32.toInt_ofInt_of_le (by have := h.1; omega) (by have := h.2; omega)
theorem am_lt {a b : Int} (ha : am_R a) (hb : am_R b) : Int32.ofInt a < Int32.ofInt b ↔ a < b := by rw [Int32.lt_iff_toInt_lt, am_toInt ha, am_toInt hb]
theorem am_le {a b : Int} (ha : am_R a) (hb : am_R b) : Int32.ofInt a ≤ Int32.ofInt b ↔ a ≤ b := by rw [Int32.le_iff_toInt_le, am_toInt ha, am_toInt hb]
theorem am_eq {a b : Int} (ha : am_R a) (hb : am_R b) : Int32.ofInt a = Int32.ofInt b ↔ a = b := by rw [← Int32.toInt_inj, am_toInt ha, am_toInt hb]
theorem am_nI (n : Nat) : Int32.ofInt (n : Int) = nI n := by simp [nI, Int32.ofInt_eq_ofNat]
theorem am_clamp {a : Int} (h : 0 ≤ a) (h2 : a < 2147483648) : (Int32.ofInt a).toNatClampNeg = a.toNat := by
  obtain ⟨n, rfl⟩ := Int.eq_ofNat_of_zero_le h
  rw [show Int32.ofInt (n : Int) = nI n from am_nI n, nI_clamp (by omega)]
  simp
theorem am_in {a : Int} {n : Nat} (h : 0 ≤ a) (h2 : a < n) (hn : n < 2147483648) : vp_in (Int32.ofInt a) n := by
  obtain ⟨m, rfl⟩ := Int.eq_ofNat_of_zero_le h
  rw [show Int32.ofInt (m : Int) = nI m from am_nI m]
  exact vp_in_nI (by omega) (by omega)
theorem am_w_at {G : Nat → ClassId} {ad : Nat → Nat} {M : am_M} {Sg : List am_S} {k : Nat} {s : am_S} (h : Sg[k]? = some s) : (am_w G ad M Sg)[k]? = some (am_c G ad M k s) := by
  simp [am_w, List.getElem?_mapIdx, h]
theorem am_fv_at (ad : Nat → Nat) (f : Nat → Int) : ∀ (fs : List (Option Nat)) (i j : Nat), (am_fv ad f i fs)[j]? = fs[j]?.map (fun q => match q with | none => .int (Int32.ofInt (f (i + j))) | some k => .ref (ad k))
  | [], i, j => by simp [am_fv]
  | none :: r, i, 0 => by simp [am_fv]
  | some k :: r, i, 0 => by simp [am_fv]
  | none :: r, i, j + 1 => by
    simp only [am_fv, List.getElem?_cons_succ]
    rw [am_fv_at ad f r (i + 1) j, show i + 1 + j = i + (j + 1) by omega]
  | some k :: r, i, j + 1 => by
    simp only [am_fv, List.getElem?_cons_succ]
    rw [am_fv_at ad f r (i + 1) j, show i + 1 + j = i + (j + 1) by omega]
theorem am_fv_len (ad : Nat → Nat) (f : Nat → Int) : ∀ (fs : List (Option Nat)) (i : Nat), (am_fv ad f i fs).length = fs.length
  | [], i => rfl
  | none :: r, i => by simp [am_fv, am_fv_len ad f r (i + 1)]
  | some k :: r, i => by simp [am_fv, am_fv_len ad f r (i + 1)]
/-- a field's store -/
theorem am_fv_set (ad : Nat → Nat) (M : am_M) (k : Nat) (fs : List (Option Nat)) (j : Nat) (v : Int) (hj : fs[j]? = some none) : (am_fv ad (M k) 0 fs).set j (.int (Int32.ofInt v)) = am_fv ad (am_up M k j v k) 0 fs := by
  have hl : j < fs.length := (List.getElem?_eq_some_iff.mp hj).1
  refine List.ext_getElem? fun i => ?_
  rw [List.getElem?_set, am_fv_len, am_fv_at, am_fv_at]
  by_cases h : j = i
  · subst h
    rw [if_pos rfl, if_pos hl, hj]
    simp [am_up]
  · simp only [if_neg h, Nat.zero_add]
    have h2 : ∀ b, am_up M k j v k b = if b = j then v else M k b := fun b => by simp [am_up]
    congr 1
    funext q
    cases q with
    | none => simp [h2, Ne.symm h]
    | some k2 => rfl
theorem am_w_set {G : Nat → ClassId} {ad : Nat → Nat} {M M' : am_M} {Sg : List am_S} {k : Nat} {s : am_S} (h : Sg[k]? = some s) (hM : ∀ a b, a ≠ k → M' a b = M a b) : (am_w G ad M Sg).set k (am_c G ad M' k s) = am_w G ad M' Sg := by
  have hl : k < Sg.length := (List.getElem?_eq_some_iff.mp h).1
  refine List.ext_getElem? fun i => ?_
  rw [List.getElem?_set]
  by_cases hi : k = i
  · subst hi
    rw [if_pos rfl, if_pos (by simp [am_w, hl]), am_w_at h]
  · rw [if_neg hi]
    simp only [am_w, List.getElem?_mapIdx]
    cases hs : Sg[i]? with
    | none => rfl
    | some t =>
      simp only [Option.map_some]
      have e : M' i = M i := funext fun b => hM i b (Ne.symm hi)
      rcases t with ⟨e0, n⟩ | ⟨ci, fs⟩
      · match e0 with
        | 0 => simp [am_c, e]
        | 1 => simp [am_c, e]
        | n2 + 2 => simp [am_c, e]
      · simp [am_c, e]
theorem am_c_fst (G : Nat → ClassId) (ad : Nat → Nat) (M : am_M) (k : Nat) (s : am_S) : (am_c G ad M k s).1 = ad k := by
  rcases s with ⟨e0, n⟩ | ⟨ci, fs⟩
  · match e0 with
    | 0 => rfl
    | 1 => rfl
    | n2 + 2 => rfl
  · rfl
theorem am_w_ad {G : Nat → ClassId} {ad : Nat → Nat} {M : am_M} {Sg : List am_S} {k : Nat} {q : Nat × va_E} (h : (am_w G ad M Sg)[k]? = some q) : q.1 = ad k ∧ k < Sg.length := by
  simp only [am_w, List.getElem?_mapIdx] at h
  cases hs : Sg[k]? with
  | none => rw [hs] at h; cases h
  | some t =>
    rw [hs] at h
    cases h
    exact ⟨am_c_fst .., (List.getElem?_eq_some_iff.mp hs).1⟩
theorem am_w_has {G : Nat → ClassId} {ad : Nat → Nat} (M : am_M) {Sg : List am_S} {k : Nat} (h : k < Sg.length) : ∃ e, (am_w G ad M Sg)[k]? = some (ad k, e) := by
  have hs : Sg[k]? = some Sg[k] := List.getElem?_eq_getElem h
  refine ⟨(am_c G ad M k Sg[k]).2, ?_⟩
  rw [am_w_at hs]
  congr 1
  exact Prod.ext (am_c_fst ..) rfl
/-- the addresses don't hang on the memory -/
theorem am_D {G : Nat → ClassId} {ad : Nat → Nat} {M M' : am_M} {Sg : List am_S} {A : Nat → Prop} (h : va_D A (am_w G ad M Sg)) : va_D A (am_w G ad M' Sg) := by
  refine ⟨fun i j p q hi hj hpq => ?_, fun k q hk => ?_⟩
  · obtain ⟨e1, l1⟩ := am_w_ad hi
    obtain ⟨e2, l2⟩ := am_w_ad hj
    obtain ⟨x1, y1⟩ := am_w_has (G := G) (ad := ad) M l1
    obtain ⟨x2, y2⟩ := am_w_has (G := G) (ad := ad) M l2
    exact h.1 i j _ _ y1 y2 (by show ad i = ad j; rw [← e1, ← e2]; exact hpq)
  · obtain ⟨e1, l1⟩ := am_w_ad hk
    obtain ⟨x1, y1⟩ := am_w_has (G := G) (ad := ad) M l1
    rw [e1]
    exact h.2 k _ y1
theorem am_A_eq (G : Nat → ClassId) (ad : Nat → Nat) (M M' : am_M) (Sg : List am_S) (sz : Nat) : va_A (am_w G ad M Sg) sz = va_A (am_w G ad M' Sg) sz := by
  have key : ∀ (M M' : am_M) (q : Nat), va_A (am_w G ad M Sg) sz q → va_A (am_w G ad M' Sg) sz q := by
    intro M M' q h
    rcases h with ⟨k, e, h⟩ | h
    · obtain ⟨e1, l1⟩ := am_w_ad h
      obtain ⟨x1, y1⟩ := am_w_has (G := G) (ad := ad) M' l1
      have e1 : q = ad k := e1
      exact Or.inl ⟨k, x1, by rw [e1]; exact y1⟩
    · exact Or.inr h
  funext q
  exact propext ⟨key M M' q, key M' M q⟩
/-! the steps of the abstract machine, and that the machine follows them -/
abbrev am_K : Type := Nat → am_L → List am_V → am_M → Prop
abbrev am_Z : Type := Option am_V → am_M → Prop
abbrev am_T : Type := Nat → Option (Nat × (List am_V → am_M → am_Z → Prop))
def am_gi (ls : am_L) (i : Nat) (f : Int → Prop) : Prop := match ls[i]? with
  | some (some (.inl x)) => f x
  | _ => False
def am_gr (ls : am_L) (i : Nat) (f : Nat → Prop) : Prop := match ls[i]? with
  | some (some (.inr (.inl x))) => f x
  | _ => False
def am_1 (st : List am_V) (f : Int → List am_V → Prop) : Prop := match st with
  | .inl a :: r => f a r
  | _ => False
def am_2 (st : List am_V) (f : Int → Int → List am_V → Prop) : Prop := match st with
  | .inl b :: .inl a :: r => f a b r
  | _ => False
def am_r (st : List am_V) (f : Nat → List am_V → Prop) : Prop := match st with
  | .inr (.inl a) :: r => f a r
  | _ => False
def am_ir (st : List am_V) (f : Int → Nat → List am_V → Prop) : Prop := match st with
  | .inl j :: .inr (.inl a) :: r => f j a r
  | _ => False
def am_iir (st : List am_V) (f : Int → Int → Nat → List am_V → Prop) : Prop := match st with
  | .inl x :: .inl j :: .inr (.inl a) :: r => f x j a r
  | _ => False
def am_cc : ClassFile.Cond → Int → Int → Prop
  | .eq, a, b => a = b
  | .ne, a, b => a ≠ b
  | .lt, a, b => a < b
  | .ge, a, b => b ≤ a
  | .gt, a, b => b < a
  | .le, a, b => a ≤ b
def am_br (k : am_K) (pc : Nat) (o : Int) (c : Prop) (ls : am_L) (r : List am_V) (M : am_M) : Prop := (c → k ((pc : Int) + o).toNat ls r M) ∧ (¬ c → k (pc + 3) ls r M)
def am_sw (a : Int) (f : Int → Prop) : Int → List Int → Prop
  | _, [] => True
  | lo, o :: r => (a = lo → f o) ∧ am_sw a f (lo + 1) r
def am_lk (a d : Int) (f : Int → Prop) : List (Int × Int) → Prop
  | [] => f d
  | q :: r => (a = q.1 → f q.2) ∧ (a ≠ q.1 → am_lk a d f r)
def am_ca (Ct : am_T) (k : am_K) (pc : Nat) (ls : am_L) (st : List am_V) (M : am_M) : Prop := match Ct pc with
  | some (q, ct) => q ≤ st.length ∧ st.length ≤ q + 4 ∧ ct (st.take q).reverse M (fun r M' => k (pc + 3) ls (r.toList ++ st.drop q) M')
  | none => False
/-- a field's read: the class's number and the field's place have to be those of the cell's shape -/
def am_gf (Sg : List am_S) (fd : Option (Nat × Nat × Nat)) (id : Nat) (M : am_M) (f : am_V → Prop) : Prop := match fd, Sg[id]? with
  | some (ci, j, _), some (.inr (ci', fs)) => ci = ci' ∧ (match fs[j]? with
    | some none => f (.inl (M id j))
    | some (some i) => f (.inr (.inl i))
    | none => False)
  | _, _ => False
def am_pf (Sg : List am_S) (fd : Option (Nat × Nat × Nat)) (id : Nat) (M : am_M) (x : Int) (f : am_M → Prop) : Prop := match fd, Sg[id]? with
  | some (ci, j, 1), some (.inr (ci', fs)) => ci = ci' ∧ fs[j]? = some none ∧ f (am_up M id j x)
  | some (ci, j, 2), some (.inr (ci', fs)) => ci = ci' ∧ fs[j]? = some none ∧ (x = 0 ∨ x = 1) ∧ f (am_up M id j x)
  | _, _ => False
/-- an array's place -/
def am_ar (Sg : List am_S) (e id : Nat) (j : Int) (f : Nat → Prop) : Prop := match Sg[id]? with
  | some (.inl (e', n)) => e' = e ∧ 0 ≤ j ∧ j < n ∧ f j.toNat
  | _ => False
def am_al (Sg : List am_S) (id : Nat) (f : Int → Prop) : Prop := match Sg[id]? with
  | some (.inl (_, n)) => f n
  | _ => False
abbrev am_scr : Nat := 100000
def am_ex (Sg : List am_S) (Sc : Option (Nat × (Nat → Int))) (Fd : Nat → Option (Nat × Nat × Nat)) (Ct : am_T) (Zr : am_Z) (k : am_K) (pc n : Nat) (ls : am_L) (st : List am_V) (M : am_M) : Instr → Prop
  | .iconst c => n = 1 ∧ k (pc + 1) ls (.inl c :: st) M
  | .bipush c => n = 2 ∧ (-128 ≤ c ∧ c < 128) ∧ k (pc + 2) ls (.inl c :: st) M
  | .sipush c => n = 3 ∧ (-32768 ≤ c ∧ c < 32768) ∧ k (pc + 3) ls (.inl c :: st) M
  | .iload_n i => n = 1 ∧ am_gi ls i.val (fun x => k (pc + 1) ls (.inl x :: st) M)
  | .iload i => n = 2 ∧ am_gi ls i (fun x => k (pc + 2) ls (.inl x :: st) M)
  | .aload_n i => n = 1 ∧ am_gr ls i.val (fun x => k (pc + 1) ls (.inr (.inl x) :: st) M)
  | .aload i => n = 2 ∧ am_gr ls i (fun x => k (pc + 2) ls (.inr (.inl x) :: st) M)
  | .istore_n i => n = 1 ∧ i.val < ls.length ∧ am_1 st (fun x r => k (pc + 1) (ls.set i.val (some (.inl x))) r M)
  | .istore i => n = 2 ∧ i < ls.length ∧ am_1 st (fun x r => k (pc + 2) (ls.set i (some (.inl x))) r M)
  | .astore_n i => n = 1 ∧ i.val < ls.length ∧ am_r st (fun x r => k (pc + 1) (ls.set i.val (some (.inr (.inl x)))) r M)
  | .astore i => n = 2 ∧ i < ls.length ∧ am_r st (fun x r => k (pc + 2) (ls.set i (some (.inr (.inl x)))) r M)
  | .iinc i d => n = 3 ∧ am_gi ls i (fun x => k (pc + 3) (ls.set i (some (.inl (x + d)))) st M)
  | .iadd => n = 1 ∧ am_2 st (fun a b r => k (pc + 1) ls (.inl (a + b) :: r) M)
  | .isub => n = 1 ∧ am_2 st (fun a b r => k (pc + 1) ls (.inl (a - b) :: r) M)
  | .imul => n = 1 ∧ am_2 st (fun a b r => k (pc + 1) ls (.inl (a * b) :: r) M)
  | .idiv => n = 1 ∧ am_2 st (fun a b r => 0 ≤ a ∧ a < 2147483648 ∧ 0 < b ∧ b < 2147483648 ∧ k (pc + 1) ls (.inl (a / b) :: r) M)
  | .irem => n = 1 ∧ am_2 st (fun a b r => 0 ≤ a ∧ a < 2147483648 ∧ 0 < b ∧ b < 2147483648 ∧ k (pc + 1) ls (.inl (a % b) :: r) M)
  | .ifCond c o => n = 3 ∧ 0 ≤ (pc : Int) + o ∧ am_1 st (fun a r => am_R a ∧ am_br k pc o (am_cc c a 0) ls r M)
  | .if_icmp c o => n = 3 ∧ 0 ≤ (pc : Int) + o ∧ am_2 st (fun a b r => am_R a ∧ am_R b ∧ am_br k pc o (am_cc c a b) ls r M)
  | .goto o => n = 3 ∧ 0 ≤ (pc : Int) + o ∧ k ((pc : Int) + o).toNat ls st M
  | .getfield idx => n = 3 ∧ am_r st (fun id r => am_gf Sg (Fd idx) id M (fun v => k (pc + 3) ls (v :: r) M))
  | .putfield idx => n = 3 ∧ am_ir st (fun x id r => am_pf Sg (Fd idx) id M x (fun M' => k (pc + 3) ls r M'))
  | .iaload => n = 1 ∧ am_ir st (fun j id r => if id = am_scr then (match Sc with
      | some (L, xs) => 0 ≤ j ∧ j < L ∧ k (pc + 1) ls (.inl (xs j.toNat) :: r) M
      | none => False) else am_ar Sg 0 id j (fun i => k (pc + 1) ls (.inl (M id i) :: r) M))
  | .iastore => n = 1 ∧ am_iir st (fun x j id r => am_ar Sg 0 id j (fun i => k (pc + 1) ls r (am_up M id i x)))
  | .baload => n = 1 ∧ am_ir st (fun j id r => am_ar Sg 1 id j (fun i => k (pc + 1) ls (.inl (M id i) :: r) M))
  | .bastore => n = 1 ∧ am_iir st (fun x j id r => (x = 0 ∨ x = 1) ∧ am_ar Sg 1 id j (fun i => k (pc + 1) ls r (am_up M id i x)))
  | .arraylength => n = 1 ∧ am_r st (fun id r => if id = am_scr then (match Sc with
      | some (L, _) => k (pc + 1) ls (.inl L :: r) M
      | none => False) else am_al Sg id (fun x => k (pc + 1) ls (.inl x :: r) M))
  | .dup => n = 1 ∧ (match st with
      | .inl a :: r => k (pc + 1) ls (.inl a :: .inl a :: r) M
      | .inr (.inl a) :: r => k (pc + 1) ls (.inr (.inl a) :: .inr (.inl a) :: r) M
      | _ => False)
  | .dup2 => n = 1 ∧ am_ir st (fun j id r => k (pc + 1) ls (.inl j :: .inr (.inl id) :: .inl j :: .inr (.inl id) :: r) M)
  | .dup_x1 => n = 1 ∧ am_ir st (fun j id r => k (pc + 1) ls (.inl j :: .inr (.inl id) :: .inl j :: r) M)
  | .pop => n = 1 ∧ (match st with
      | .inl _ :: r => k (pc + 1) ls r M
      | .inr (.inl _) :: r => k (pc + 1) ls r M
      | _ => False)
  | .tableswitch d lo hi offs => 0 ≤ (pc : Int) + d ∧ (∀ o ∈ offs.toList, 0 ≤ (pc : Int) + o) ∧ hi + 1 = lo + offs.size ∧ am_1 st (fun a r => am_R a ∧ (a < lo ∨ hi < a → k ((pc : Int) + d).toNat ls r M) ∧ am_sw a (fun o => k ((pc : Int) + o).toNat ls r M) lo offs.toList)
  | .lookupswitch d ps => 0 ≤ (pc : Int) + d ∧ (∀ o ∈ ps.toList, 0 ≤ (pc : Int) + o.2) ∧ (ps.toList.zip (ps.toList.drop 1)).all (fun (a, next) => a.1 < next.1) = true ∧ am_1 st (fun a r => am_R a ∧ am_lk a d (fun o => k ((pc : Int) + o).toNat ls r M) ps.toList)
  | .ineg => n = 1 ∧ am_1 st (fun a r => k (pc + 1) ls (.inl (-a) :: r) M)
  | .ixor => n = 1 ∧ am_2 st (fun a b r => 0 ≤ a ∧ a < 2147483648 ∧ 0 ≤ b ∧ b < 2147483648 ∧ ∀ z : Int, 0 ≤ z → z < 2147483648 → k (pc + 1) ls (.inl z :: r) M)
  | .invokevirtual _ => n = 3 ∧ am_ca Ct k pc ls st M
  | .invokestatic _ => n = 3 ∧ am_ca Ct k pc ls st M
  | .invokespecial _ => n = 3 ∧ am_ca Ct k pc ls st M
  | .ireturn => n = 1 ∧ (match st with
      | [.inl x] => Zr (some (.inl x)) M
      | _ => False)
  | .return_ => n = 1 ∧ (match st with
      | [] => Zr none M
      | _ => False)
  | _ => False
/-- the locals -/
def am_H (ad : Nat → Nat) (lsA : Array Slot) (nL : Nat) (ls : am_L) : Prop := lsA.size = nL ∧ lv_wf lsA ∧ ls.length = nL ∧ ∀ (i : Nat) (v : am_V), ls[i]? = some (some v) → (am_cv ad v).category = 1 ∧ lsA[i]? = some (.val (am_cv ad v))
def am_ll (ad : Nat → Nat) (ls : am_L) : List (Nat × Value) := (List.range ls.length).filterMap (fun i => match ls[i]? with
  | some (some v) => some (i, am_cv ad v)
  | _ => none)
theorem am_ll_mem {ad : Nat → Nat} {ls : am_L} {q : Nat × Value} : q ∈ am_ll ad ls ↔ ∃ v, ls[q.1]? = some (some v) ∧ q.2 = am_cv ad v := by
  unfold am_ll
  rw [List.mem_filterMap]
  constructor
  · rintro ⟨i, hi, h⟩
    cases hs : ls[i]? with
    | none => rw [hs] at h; cases h
    | some w =>
      cases w with
      | none => rw [hs] at h; cases h
      | some v =>
        rw [hs] at h
        cases h
        exact ⟨v, hs, rfl⟩
  · rintro ⟨v, h1, h2⟩
    refine ⟨q.1, ?_, ?_⟩
    · rw [List.mem_range]
      exact (List.getElem?_eq_some_iff.mp h1).1
    · rw [h1]
      simp only [Option.some.injEq]
      exact Prod.ext rfl h2.symm
theorem am_H.has {ad : Nat → Nat} {lsA : Array Slot} {nL : Nat} {ls : am_L} (h : am_H ad lsA nL ls) : lv_has lsA nL (am_ll ad ls) := by
  refine ⟨h.1, h.2.1, fun q hq => ?_⟩
  obtain ⟨v, h1, h2⟩ := am_ll_mem.mp hq
  rw [h2]
  exact (h.2.2.2 q.1 v h1).2
theorem am_H.set {ad : Nat → Nat} {lsA lsB : Array Slot} {nL : Nat} {ls : am_L} {i : Nat} {v : am_V} (h : am_H ad lsA nL ls) (hv : (am_cv ad v).category = 1) (hi : i < ls.length) (h2 : lv_has lsB nL ((i, am_cv ad v) :: (am_ll ad ls).filter (fun q => !(q.1 == i) && !(q.1 + 1 == i && q.2.category == 2)))) : am_H ad lsB nL (ls.set i (some v)) := by
  refine ⟨h2.1, h2.2.1, by simp [h.2.2.1], fun j w hj => ?_⟩
  rw [List.getElem?_set] at hj
  by_cases hji : i = j
  · subst hji
    rw [if_pos rfl, if_pos hi] at hj
    cases hj
    exact ⟨hv, h2.2.2 (i, am_cv ad v) List.mem_cons_self⟩
  · rw [if_neg hji] at hj
    obtain ⟨c1, -⟩ := h.2.2.2 j w hj
    refine ⟨c1, h2.2.2 (j, am_cv ad w) (List.mem_cons_of_mem _ (List.mem_filter.mpr ⟨am_ll_mem.mpr ⟨w, hj, rfl⟩, ?_⟩))⟩
    simp [Ne.symm hji, c1]
def am_FOK (cl : List vw_C) (own : String) (args : Array Value) (s : State) (Ts : List Jvm.Cond) (idx ci k q : Nat) : Prop :=
  ∃ (C : String) (T : u_T) (N : Nat) (ty : Nat → FieldType), cl[ci]? = some (C, T, N) ∧ (∀ w ∈ u_ws C T N, w ∈ Ts) ∧ (∀ j, j < N → parseFieldDescriptor (T j).2.2.1 = some (ty j)) ∧ (∀ a, a < N → ∀ b, b < N → a ≠ b → (T a).2.1 ≠ (T b).2.1) ∧ k < N ∧ (T k).1 = C ∧
    ((Cond.fieldLink own idx C (T k).2.1 (T k).2.2.1).before args s = true ∨ ∃ host, (Cond.fieldLinkNest own idx C (T k).2.1 (T k).2.2.1 host).before args s = true) ∧
    (q = 1 → (T k).2.2.2 = false ∧ parseFieldDescriptor (T k).2.2.1 = some .int) ∧ (q = 2 → (T k).2.2.2 = false ∧ parseFieldDescriptor (T k).2.2.1 = some .boolean)
section AM
variable {p : Program} {l : Launch} {e : Env} {R : Room} {s : State} {m : MethodId} {args : Array Value} {below : List Frame} {meth : Method} {c : Code} {H0 : Heap} {A : Nat → Prop} {cells slots : Nat} {Q : State → Prop} {D : va_G} {cl : List vw_C} {G : Nat → ClassId} {ad : Nat → Nat} {Sg : List am_S} {nL : Nat} {cc : ByteArray} {own : String} {Ts : List Jvm.Cond}
/-- at the abstract state the machine comes to its goal, wherever the world lies -/
def am_A (p : Program) (l : Launch) (e : Env) (R : Room) (s : State) (m : MethodId) (args : Array Value) (below : List Frame) (meth : Method) (c : Code) (H0 : Heap) (A : Nat → Prop) (cells slots : Nat) (Q : State → Prop) (D : va_G) (cl : List vw_C) (G : Nat → ClassId) (ad : Nat → Nat) (Sg : List am_S) (nL : Nat) (pc : Nat) (ls : am_L) (st : List am_V) (M : am_M) : Prop :=
  ∀ (H : Heap) (locs : List Loc) (lsA : Array Slot), va_P D cl (am_w G ad M Sg) H → va_D A (am_w G ad M Sg) → va_S A H0 H locs → am_H ad lsA nL ls → W p l e R s m args below meth c H locs cells slots Q (F0 m pc lsA (st.map (am_cv ad)))
/-- a call, as the abstract machine sees it -/
def am_C (p : Program) (l : Launch) (e : Env) (R : Room) (s : State) (m : MethodId) (args : Array Value) (below : List Frame) (meth : Method) (c : Code) (H0 : Heap) (A : Nat → Prop) (cells slots : Nat) (Q : State → Prop) (D : va_G) (cl : List vw_C) (G : Nat → ClassId) (ad : Nat → Nat) (Sg : List am_S) (nL : Nat) (pc q : Nat) (ct : List am_V → am_M → am_Z → Prop) : Prop :=
  ∀ (ls : am_L) (st : List am_V) (M : am_M) (kk : am_Z), q ≤ st.length → st.length ≤ q + 4 → ct (st.take q).reverse M kk → (∀ (r : Option am_V) (M' : am_M), kk r M' → am_A p l e R s m args below meth c H0 A cells slots Q D cl G ad Sg nL (pc + 3) ls (r.toList ++ st.drop q) M') → am_A p l e R s m args below meth c H0 A cells slots Q D cl G ad Sg nL pc ls st M
/-- the end, as the abstract machine sees it -/
def am_E (p : Program) (l : Launch) (e : Env) (R : Room) (s : State) (m : MethodId) (args : Array Value) (below : List Frame) (meth : Method) (c : Code) (H0 : Heap) (A : Nat → Prop) (cells slots : Nat) (Q : State → Prop) (D : va_G) (cl : List vw_C) (G : Nat → ClassId) (ad : Nat → Nat) (Sg : List am_S) (cc : ByteArray) (Zr : am_Z) : Prop :=
  ∀ (r : Option am_V) (M : am_M) (H : Heap) (locs : List Loc) (lsA : Array Slot) (pc : Nat), Zr r M → va_P D cl (am_w G ad M Sg) H → va_D A (am_w G ad M Sg) → va_S A H0 H locs → (∀ x, r = some (.inl x) → decode cc pc = .ok (.ireturn, 1) → W p l e R s m args below meth c H locs cells slots Q (F0 m pc lsA [.int (Int32.ofInt x)])) ∧ (r = none → decode cc pc = .ok (.return_, 1) → W p l e R s m args below meth c H locs cells slots Q (F0 m pc lsA []))
theorem am_br_ok {k : am_K} {pc : Nat} {o : Int} {cP cP' : Prop} {ls : am_L} {r : List am_V} {M : am_M} (hk : ∀ pc' ls' st' M', k pc' ls' st' M' → am_A p l e R s m args below meth c H0 A cells slots Q D cl G ad Sg nL pc' ls' st' M') (he : cP' ↔ cP) (h : am_br k pc o cP ls r M) :
    (cP' → am_A p l e R s m args below meth c H0 A cells slots Q D cl G ad Sg nL ((pc : Int) + o).toNat ls r M) ∧ (¬ cP' → am_A p l e R s m args below meth c H0 A cells slots Q D cl G ad Sg nL (pc + 3) ls r M) :=
  ⟨fun q => hk _ _ _ _ (h.1 (he.mp q)), fun q => hk _ _ _ _ (h.2 (fun z => q (he.mpr z)))⟩
theorem am_div {a b : Int} (ha : 0 ≤ a) (ha2 : a < 2147483648) (hb : 0 < b) (hb2 : b < 2147483648) : Int32.ofInt a / Int32.ofInt b = Int32.ofInt (a / b) ∧ Int32.ofInt a - Int32.ofInt a / Int32.ofInt b * Int32.ofInt b = Int32.ofInt (a % b) ∧ ¬ Int32.ofInt b = 0 := by
  obtain ⟨x, rfl⟩ := Int.eq_ofNat_of_zero_le ha
  obtain ⟨y, rfl⟩ := Int.eq_ofNat_of_zero_le (Int.le_of_lt hb)
  rw [← Int.natCast_ediv, ← Int.natCast_emod]
  simp only [am_nI]
  exact ⟨pk_div (by omega) (by omega) (by omega), pk_rem (by omega) (by omega) (by omega), nI_ne0 (by omega) (by omega)⟩
theorem am_bp {x : Int} (h : -128 ≤ x ∧ x < 128) : (Int8.ofInt x).toInt32 = Int32.ofInt x := by
  apply Int32.toInt_inj.mp
  rw [Int8.toInt_toInt32, Int8.toInt_ofInt_of_le (by omega) (by omega), am_toInt ⟨by omega, by omega⟩]
theorem am_sp {x : Int} (h : -32768 ≤ x ∧ x < 32768) : (Int16.ofInt x).toInt32 = Int32.ofInt x := by
  apply Int32.toInt_inj.mp
  rw [Int16.toInt_toInt32, Int16.toInt_ofInt_of_le (by omega) (by omega), am_toInt ⟨by omega, by omega⟩]
theorem am_z01 {x : Int} (h : x = 0 ∨ x = 1) : narrow .boolean (.int (Int32.ofInt x)) = .int (Int32.ofInt x) ∧ fits .boolean (.int (Int32.ofInt x)) = true ∧ vp_nar .boolean (Int32.ofInt x) = Int32.ofInt x := by
  rcases h with rfl | rfl
  · exact ⟨by decide, by decide, by decide⟩
  · exact ⟨by decide, by decide, by decide⟩
theorem am_sw_at {a : Int} {f : Int → Prop} : ∀ (os : List Int) (lo : Int) (o : Int), am_sw a f lo os → lo ≤ a → os[(a - lo).toNat]? = some o → f o
  | [], lo, o, _, _, h => by simp at h
  | x :: r, lo, o, hs, hl, h => by
    by_cases e : a = lo
    · subst e
      simp at h
      subst h
      exact hs.1 rfl
    · have e2 : (a - lo).toNat = (a - (lo + 1)).toNat + 1 := by omega
      rw [e2, List.getElem?_cons_succ] at h
      exact am_sw_at r (lo + 1) o hs.2 (by omega) h
theorem am_lk_at {a d : Int} {f : Int → Prop} : ∀ (ps : List (Int × Int)), am_lk a d f ps → f (Op.lookupswitch.offset ps d a) ∧ (Op.lookupswitch.offset ps d a = d ∨ ∃ q ∈ ps, Op.lookupswitch.offset ps d a = q.2)
  | [], h => ⟨h, Or.inl rfl⟩
  | q :: r, h => by
    obtain ⟨v, o⟩ := q
    rw [Op.lookupswitch.offset_cons]
    by_cases e : v = a
    · rw [if_pos e]
      exact ⟨h.1 e.symm, Or.inr ⟨(v, o), List.mem_cons_self, rfl⟩⟩
    · rw [if_neg e]
      obtain ⟨h1, h2⟩ := am_lk_at r (h.2 (fun z => e z.symm))
      refine ⟨h1, ?_⟩
      rcases h2 with h2 | ⟨q, hq, h2⟩
      · exact Or.inl h2
      · exact Or.inr ⟨q, List.mem_cons_of_mem _ hq, h2⟩
theorem am_xor {a b : Int} (ha : 0 ≤ a) (ha2 : a < 2147483648) (hb : 0 ≤ b) (hb2 : b < 2147483648) : ∃ z : Int, 0 ≤ z ∧ z < 2147483648 ∧ Int32.ofInt a ^^^ Int32.ofInt b = Int32.ofInt z := by
  obtain ⟨x, rfl⟩ := Int.eq_ofNat_of_zero_le ha
  obtain ⟨y, rfl⟩ := Int.eq_ofNat_of_zero_le hb
  refine ⟨((x ^^^ y : Nat) : Int), by omega, ?_, ?_⟩
  · have := Nat.xor_lt_two_pow (x := x) (y := y) (n := 31) (by omega) (by omega)
    omega
  · simp only [am_nI]
    apply Int32.toBitVec_inj.1
    show BitVec.ofNat 32 x ^^^ BitVec.ofNat 32 y = BitVec.ofNat 32 (x ^^^ y)
    apply BitVec.eq_of_getLsbD_eq
    intro i hi
    simp [hi]
end AM
theorem am_gi_e {ls : am_L} {i : Nat} {f : Int → Prop} (h : am_gi ls i f) : ∃ x, ls[i]? = some (some (.inl x)) ∧ f x := by
  unfold am_gi at h
  split at h
  · exact ⟨_, by assumption, h⟩
  · exact h.elim
theorem am_gr_e {ls : am_L} {i : Nat} {f : Nat → Prop} (h : am_gr ls i f) : ∃ x, ls[i]? = some (some (.inr (.inl x))) ∧ f x := by
  unfold am_gr at h
  split at h
  · exact ⟨_, by assumption, h⟩
  · exact h.elim
theorem am_1_e {st : List am_V} {f : Int → List am_V → Prop} (h : am_1 st f) : ∃ a r, st = .inl a :: r ∧ f a r := by
  unfold am_1 at h
  split at h
  · exact ⟨_, _, rfl, h⟩
  · exact h.elim
theorem am_2_e {st : List am_V} {f : Int → Int → List am_V → Prop} (h : am_2 st f) : ∃ a b r, st = .inl b :: .inl a :: r ∧ f a b r := by
  unfold am_2 at h
  split at h
  · exact ⟨_, _, _, rfl, h⟩
  · exact h.elim
theorem am_r_e {st : List am_V} {f : Nat → List am_V → Prop} (h : am_r st f) : ∃ a r, st = .inr (.inl a) :: r ∧ f a r := by
  unfold am_r at h
  split at h
  · exact ⟨_, _, rfl, h⟩
  · exact h.elim
theorem am_ir_e {st : List am_V} {f : Int → Nat → List am_V → Prop} (h : am_ir st f) : ∃ j a r, st = .inl j :: .inr (.inl a) :: r ∧ f j a r := by
  unfold am_ir at h
  split at h
  · exact ⟨_, _, _, rfl, h⟩
  · exact h.elim
theorem am_iir_e {st : List am_V} {f : Int → Int → Nat → List am_V → Prop} (h : am_iir st f) : ∃ x j a r, st = .inl x :: .inl j :: .inr (.inl a) :: r ∧ f x j a r := by
  unfold am_iir at h
  split at h
  · exact ⟨_, _, _, _, rfl, h⟩
  · exact h.elim
theorem am_ar_e {Sg : List am_S} {e id : Nat} {j : Int} {f : Nat → Prop} (h : am_ar Sg e id j f) : ∃ n : Nat, Sg[id]? = some (.inl (e, n)) ∧ 0 ≤ j ∧ j < n ∧ f j.toNat := by
  unfold am_ar at h
  split at h
  · obtain ⟨rfl, h1, h2, h3⟩ := h
    exact ⟨_, by assumption, h1, h2, h3⟩
  · exact h.elim
theorem am_gf_e {Sg : List am_S} {fd : Option (Nat × Nat × Nat)} {id : Nat} {M : am_M} {f : am_V → Prop} (ad : Nat → Nat) (h : am_gf Sg fd id M f) : ∃ (ci j q : Nat) (fs : List (Option Nat)) (v : am_V), fd = some (ci, j, q) ∧ Sg[id]? = some (.inr (ci, fs)) ∧ (am_fv ad (M id) 0 fs)[j]? = some (am_cv ad v) ∧ f v := by
  unfold am_gf at h
  split at h
  · obtain ⟨rfl, h⟩ := h
    split at h
    · refine ⟨_, _, _, _, _, rfl, by assumption, ?_, h⟩
      rw [am_fv_at]
      simp_all [am_cv]
    · refine ⟨_, _, _, _, _, rfl, by assumption, ?_, h⟩
      rw [am_fv_at]
      simp_all [am_cv]
    · exact h.elim
  · exact h.elim
theorem am_pf_e {Sg : List am_S} {fd : Option (Nat × Nat × Nat)} {id : Nat} {M : am_M} {x : Int} {f : am_M → Prop} (h : am_pf Sg fd id M x f) : ∃ (ci j q : Nat) (fs : List (Option Nat)), fd = some (ci, j, q) ∧ Sg[id]? = some (.inr (ci, fs)) ∧ fs[j]? = some none ∧ (q = 1 ∨ (q = 2 ∧ (x = 0 ∨ x = 1))) ∧ f (am_up M id j x) := by
  unfold am_pf at h
  split at h
  · obtain ⟨rfl, h1, h2⟩ := h
    exact ⟨_, _, _, _, rfl, by assumption, h1, Or.inl rfl, h2⟩
  · obtain ⟨rfl, h1, h2, h3⟩ := h
    exact ⟨_, _, _, _, rfl, by assumption, h1, Or.inr ⟨rfl, h2⟩, h3⟩
  · exact h.elim
section AMOK
variable {p : Program} {l : Launch} {e : Env} {R : Room} {s : State} {m : MethodId} {args : Array Value} {below : List Frame} {meth : Method} {c : Code} {H0 : Heap} {A : Nat → Prop} {cells slots : Nat} {Q : State → Prop} {D : va_G} {cl : List vw_C} {G : Nat → ClassId} {ad : Nat → Nat} {Sg : List am_S} {nL : Nat} {cc : ByteArray} {own : String} {Ts : List Jvm.Cond}
set_option maxHeartbeats 4000000 in
theorem am_ok {Sc : Option (Nat × (Nat → Int))} {Fd : Nat → Option (Nat × Nat × Nat)} {Ct : am_T} {Zr : am_Z} {k : am_K} {pc n : Nat} {ls : am_L} {st : List am_V} {M : am_M} {i : Instr}
    (hx : p.tables.exec = Jvm.exec) (hb : c.code = cc) (hown : s.vm.findClass own = some m.cls) (hts : ∀ w ∈ Ts, w.before args s = true) (hK : va_K D cl (am_ty G) s)
    (hSz : ∀ (id e n : Nat), Sg[id]? = some (.inl (e, n)) → n < 2147483648) (hF : ∀ idx ci j q, Fd idx = some (ci, j, q) → am_FOK cl own args s Ts idx ci j q)
    (hC : ∀ pc q ct, Ct pc = some (q, ct) → am_C p l e R s m args below meth c H0 A cells slots Q D cl G ad Sg nL pc q ct) (hE : am_E p l e R s m args below meth c H0 A cells slots Q D cl G ad Sg cc Zr)
    (hX : ∀ L xs, Sc = some (L, xs) → L < 2147483648 ∧ ∃ ys : Nat → Int32, va_X (ad am_scr) L ys s H0 ∧ ad am_scr < H0.size ∧ ¬ A (ad am_scr) ∧ ∀ j, xs j = (ys j).toInt)
    (hdg : decode cc pc = .ok (i, n)) (hk : ∀ pc' ls' st' M', k pc' ls' st' M' → am_A p l e R s m args below meth c H0 A cells slots Q D cl G ad Sg nL pc' ls' st' M')
    (h : am_ex Sg Sc Fd Ct Zr k pc n ls st M i) : am_A p l e R s m args below meth c H0 A cells slots Q D cl G ad Sg nL pc ls st M := by
  cases i
  case iconst v =>
    obtain ⟨rfl, h⟩ := h
    intro H locs lsA hP hD hS hH
    exact lv_iconst hx hb hdg rfl (hk _ _ _ _ h H locs lsA hP hD hS hH)
  case bipush v =>
    obtain ⟨rfl, h1, h⟩ := h
    intro H locs lsA hP hD hS hH
    exact lv_bipush hx hb hdg (am_bp h1) (hk _ _ _ _ h H locs lsA hP hD hS hH)
  case sipush v =>
    obtain ⟨rfl, h1, h⟩ := h
    intro H locs lsA hP hD hS hH
    exact lv_sipush hx hb hdg (am_sp h1) (hk _ _ _ _ h H locs lsA hP hD hS hH)
  case iload_n i =>
    obtain ⟨rfl, h0⟩ := h
    obtain ⟨x, h1, h⟩ := am_gi_e h0
    intro H locs lsA hP hD hS hH
    exact lv_iload_n hx hb hdg rfl (hH.2.2.2 _ _ h1).2 (hk _ _ _ _ h H locs lsA hP hD hS hH)
  case iload i =>
    obtain ⟨rfl, h0⟩ := h
    obtain ⟨x, h1, h⟩ := am_gi_e h0
    intro H locs lsA hP hD hS hH
    exact lv_iload hx hb hdg (hH.2.2.2 _ _ h1).2 (hk _ _ _ _ h H locs lsA hP hD hS hH)
  case aload_n i =>
    obtain ⟨rfl, h0⟩ := h
    obtain ⟨x, h1, h⟩ := am_gr_e h0
    intro H locs lsA hP hD hS hH
    exact lv_aload_n hx hb hdg rfl (hH.2.2.2 _ _ h1).2 (hk _ _ _ _ h H locs lsA hP hD hS hH)
  case aload i =>
    obtain ⟨rfl, h0⟩ := h
    obtain ⟨x, h1, h⟩ := am_gr_e h0
    intro H locs lsA hP hD hS hH
    exact lv_aload hx hb hdg (hH.2.2.2 _ _ h1).2 (hk _ _ _ _ h H locs lsA hP hD hS hH)
  case istore_n i =>
    obtain ⟨rfl, hl, h0⟩ := h
    obtain ⟨x, r, rfl, h⟩ := am_1_e h0
    intro H locs lsA hP hD hS hH
    exact lv_istore_n hx hb hdg rfl hH.has (by rw [← hH.2.2.1]; exact hl) rfl (fun lsB h2 => hk _ _ _ _ h H locs lsB hP hD hS (hH.set (v := .inl x) rfl hl h2))
  case istore i =>
    obtain ⟨rfl, hl, h0⟩ := h
    obtain ⟨x, r, rfl, h⟩ := am_1_e h0
    intro H locs lsA hP hD hS hH
    exact lv_istore hx hb hdg hH.has (by rw [← hH.2.2.1]; exact hl) rfl (fun lsB h2 => hk _ _ _ _ h H locs lsB hP hD hS (hH.set (v := .inl x) rfl hl h2))
  case astore_n i =>
    obtain ⟨rfl, hl, h0⟩ := h
    obtain ⟨x, r, rfl, h⟩ := am_r_e h0
    intro H locs lsA hP hD hS hH
    exact lv_astore_n hx hb hdg rfl hH.has (by rw [← hH.2.2.1]; exact hl) rfl (fun lsB h2 => hk _ _ _ _ h H locs lsB hP hD hS (hH.set (v := .inr (.inl x)) rfl hl h2))
  case astore i =>
    obtain ⟨rfl, hl, h0⟩ := h
    obtain ⟨x, r, rfl, h⟩ := am_r_e h0
    intro H locs lsA hP hD hS hH
    exact lv_astore hx hb hdg hH.has (by rw [← hH.2.2.1]; exact hl) rfl (fun lsB h2 => hk _ _ _ _ h H locs lsB hP hD hS (hH.set (v := .inr (.inl x)) rfl hl h2))
  case iinc i d =>
    obtain ⟨rfl, h0⟩ := h
    obtain ⟨x, h1, h⟩ := am_gi_e h0
    have hl : i < ls.length := (List.getElem?_eq_some_iff.mp h1).1
    intro H locs lsA hP hD hS hH
    obtain ⟨j, hj⟩ := List.getElem?_of_mem (am_ll_mem (ad := ad) (q := (i, .int (Int32.ofInt x))).mpr ⟨.inl x, h1, rfl⟩)
    exact lv_iinc hx hb hdg hH.has hj (Int32.ofInt_add x d).symm (by rw [← hH.2.2.1]; exact hl) rfl (fun lsB h2 => hk _ _ _ _ h H locs lsB hP hD hS (hH.set (v := .inl (x + d)) rfl hl h2))
  case iadd =>
    obtain ⟨rfl, h0⟩ := h
    obtain ⟨a, b, r, rfl, h⟩ := am_2_e h0
    intro H locs lsA hP hD hS hH
    refine lv_iadd hx hb hdg ?_
    rw [← Int32.ofInt_add]
    exact hk _ _ _ _ h H locs lsA hP hD hS hH
  case isub =>
    obtain ⟨rfl, h0⟩ := h
    obtain ⟨a, b, r, rfl, h⟩ := am_2_e h0
    intro H locs lsA hP hD hS hH
    refine lv_isub hx hb hdg ?_
    rw [← Int32.ofInt_sub]
    exact hk _ _ _ _ h H locs lsA hP hD hS hH
  case imul =>
    obtain ⟨rfl, h0⟩ := h
    obtain ⟨a, b, r, rfl, h⟩ := am_2_e h0
    intro H locs lsA hP hD hS hH
    refine lv_imul hx hb hdg ?_
    rw [← Int32.ofInt_mul]
    exact hk _ _ _ _ h H locs lsA hP hD hS hH
  case idiv =>
    obtain ⟨rfl, h0⟩ := h
    obtain ⟨a, b, r, rfl, h1, h2, h3, h4, h⟩ := am_2_e h0
    intro H locs lsA hP hD hS hH
    obtain ⟨e1, e2, e3⟩ := am_div h1 h2 h3 h4
    refine lv_idiv hx hb hdg e3 ?_
    rw [e1]
    exact hk _ _ _ _ h H locs lsA hP hD hS hH
  case irem =>
    obtain ⟨rfl, h0⟩ := h
    obtain ⟨a, b, r, rfl, h1, h2, h3, h4, h⟩ := am_2_e h0
    intro H locs lsA hP hD hS hH
    obtain ⟨e1, e2, e3⟩ := am_div h1 h2 h3 h4
    refine lv_irem hx hb hdg e3 ?_
    rw [e2]
    exact hk _ _ _ _ h H locs lsA hP hD hS hH
  case goto o =>
    obtain ⟨rfl, h1, h⟩ := h
    intro H locs lsA hP hD hS hH
    exact lv_goto hx hb hdg (tgt := ((pc : Int) + o).toNat) (by omega) (hk _ _ _ _ h H locs lsA hP hD hS hH)
  case ifCond cd o =>
    obtain ⟨rfl, h1, h0⟩ := h
    obtain ⟨a, r, rfl, h2, h⟩ := am_1_e h0
    have hz : am_R 0 := ⟨by decide, by decide⟩
    have ht : (pc : Int) + o = ((((pc : Int) + o).toNat : Nat) : Int) := by omega
    intro H locs lsA hP hD hS hH
    cases cd
    · obtain ⟨b1, b2⟩ := am_br_ok hk (cP' := Int32.ofInt a = 0) (by simpa [am_cc] using am_eq h2 hz) h
      exact lv_if_eq hx hb hdg ht (fun z => b1 z H locs lsA hP hD hS hH) (fun z => b2 z H locs lsA hP hD hS hH)
    · obtain ⟨b1, b2⟩ := am_br_ok hk (cP' := ¬ Int32.ofInt a = 0) (by simpa [am_cc] using not_congr (am_eq h2 hz)) h
      exact lv_if_ne hx hb hdg ht (fun z => b1 z H locs lsA hP hD hS hH) (fun z => b2 (fun w => w z) H locs lsA hP hD hS hH)
    · obtain ⟨b1, b2⟩ := am_br_ok hk (cP' := Int32.ofInt a < 0) (by simpa [am_cc] using am_lt h2 hz) h
      exact lv_if_lt hx hb hdg ht (fun z => b1 z H locs lsA hP hD hS hH) (fun z => b2 z H locs lsA hP hD hS hH)
    · obtain ⟨b1, b2⟩ := am_br_ok hk (cP' := 0 ≤ Int32.ofInt a) (by simpa [am_cc] using am_le hz h2) h
      exact lv_if_ge hx hb hdg ht (fun z => b1 z H locs lsA hP hD hS hH) (fun z => b2 z H locs lsA hP hD hS hH)
    · obtain ⟨b1, b2⟩ := am_br_ok hk (cP' := 0 < Int32.ofInt a) (by simpa [am_cc] using am_lt hz h2) h
      exact lv_if_gt hx hb hdg ht (fun z => b1 z H locs lsA hP hD hS hH) (fun z => b2 z H locs lsA hP hD hS hH)
    · obtain ⟨b1, b2⟩ := am_br_ok hk (cP' := Int32.ofInt a ≤ 0) (by simpa [am_cc] using am_le h2 hz) h
      exact lv_if_le hx hb hdg ht (fun z => b1 z H locs lsA hP hD hS hH) (fun z => b2 z H locs lsA hP hD hS hH)
  case if_icmp cd o =>
    obtain ⟨rfl, h1, h0⟩ := h
    obtain ⟨a, b, r, rfl, h2, h3, h⟩ := am_2_e h0
    have ht : (pc : Int) + o = ((((pc : Int) + o).toNat : Nat) : Int) := by omega
    intro H locs lsA hP hD hS hH
    cases cd
    · obtain ⟨b1, b2⟩ := am_br_ok hk (cP' := Int32.ofInt a = Int32.ofInt b) (am_eq h2 h3) h
      exact lv_icmp_eq hx hb hdg ht (fun z => b1 z H locs lsA hP hD hS hH) (fun z => b2 z H locs lsA hP hD hS hH)
    · obtain ⟨b1, b2⟩ := am_br_ok hk (cP' := ¬ Int32.ofInt a = Int32.ofInt b) (not_congr (am_eq h2 h3)) h
      exact lv_icmp_ne hx hb hdg ht (fun z => b1 z H locs lsA hP hD hS hH) (fun z => b2 (fun w => w z) H locs lsA hP hD hS hH)
    · obtain ⟨b1, b2⟩ := am_br_ok hk (cP' := Int32.ofInt a < Int32.ofInt b) (am_lt h2 h3) h
      exact lv_icmp_lt hx hb hdg ht (fun z => b1 z H locs lsA hP hD hS hH) (fun z => b2 z H locs lsA hP hD hS hH)
    · obtain ⟨b1, b2⟩ := am_br_ok hk (cP' := Int32.ofInt b ≤ Int32.ofInt a) (am_le h3 h2) h
      exact lv_icmp_ge hx hb hdg ht (fun z => b1 z H locs lsA hP hD hS hH) (fun z => b2 z H locs lsA hP hD hS hH)
    · obtain ⟨b1, b2⟩ := am_br_ok hk (cP' := Int32.ofInt b < Int32.ofInt a) (am_lt h3 h2) h
      exact lv_icmp_gt hx hb hdg ht (fun z => b1 z H locs lsA hP hD hS hH) (fun z => b2 z H locs lsA hP hD hS hH)
    · obtain ⟨b1, b2⟩ := am_br_ok hk (cP' := Int32.ofInt a ≤ Int32.ofInt b) (am_le h2 h3) h
      exact lv_icmp_le hx hb hdg ht (fun z => b1 z H locs lsA hP hD hS hH) (fun z => b2 z H locs lsA hP hD hS hH)
  case getfield idx =>
    obtain ⟨rfl, h0⟩ := h
    obtain ⟨id, r, rfl, h⟩ := am_r_e h0
    obtain ⟨ci, j, q, fs, v, hf, hs, hv, h⟩ := am_gf_e ad h
    obtain ⟨C, T, N, ty, f1, f2, f3, f4, f5, f6, f7, f8, f9⟩ := hF _ _ _ _ hf
    intro H locs lsA hP hD hS hH
    have hw := am_w_at (G := G) (ad := ad) (M := M) hs
    rcases f7 with f7 | ⟨host, f7⟩
    · exact va_get hx hb hts f2 hown hK hP id hw f1 j f5 f7 (fun x hx => by rw [f6] at hx; exact hx) hv hdg (hk _ _ _ _ h H locs lsA hP hD hS hH)
    · exact va_getN hx hb hts f2 hown hK hP id hw f1 j f5 f7 (fun x hx => by rw [f6] at hx; exact hx) hv hdg (hk _ _ _ _ h H locs lsA hP hD hS hH)
  case putfield idx =>
    obtain ⟨rfl, h0⟩ := h
    obtain ⟨x, id, r, rfl, h⟩ := am_ir_e h0
    obtain ⟨ci, j, q, fs, hf, hs, hj, hq, h⟩ := am_pf_e h
    obtain ⟨C, T, N, ty, f1, f2, f3, f4, f5, f6, f7, f8, f9⟩ := hF _ _ _ _ hf
    intro H locs lsA hP hD hS hH
    have hw := am_w_at (G := G) (ad := ad) (M := M) hs
    have hl : j < (am_fv ad (M id) 0 fs).length := by rw [am_fv_len]; exact (List.getElem?_eq_some_iff.mp hj).1
    have e1 : (am_w G ad M Sg).set id (ad id, .inr (ci, (am_fv ad (M id) 0 fs).set j (.int (Int32.ofInt x)))) = am_w G ad (am_up M id j x) Sg := by
      rw [am_fv_set ad M id fs j x hj]
      exact am_w_set hs (fun a b ha => am_up_k M x ha)
    obtain ⟨g1, tyx, g2, g3, g4⟩ : (T j).2.2.2 = false ∧ ∃ tyx : FieldType, parseFieldDescriptor (T j).2.2.1 = some tyx ∧ narrow tyx (.int (Int32.ofInt x)) = .int (Int32.ofInt x) ∧ fits tyx (.int (Int32.ofInt x)) = true := by
      rcases hq with hq | ⟨hq, h01⟩
      · exact ⟨(f8 hq).1, .int, (f8 hq).2, rfl, rfl⟩
      · exact ⟨(f9 hq).1, .boolean, (f9 hq).2, (am_z01 h01).1, (am_z01 h01).2.1⟩
    have kk : ∀ (H1 : Heap) (locs1 : List Loc), va_P D cl ((am_w G ad M Sg).set id (ad id, .inr (ci, (am_fv ad (M id) 0 fs).set j (.int (Int32.ofInt x))))) H1 → va_D A ((am_w G ad M Sg).set id (ad id, .inr (ci, (am_fv ad (M id) 0 fs).set j (.int (Int32.ofInt x))))) → va_S A H0 H1 locs1 → W p l e R s m args below meth c H1 locs1 cells slots Q (F0 m (pc + 3) lsA (r.map (am_cv ad))) := by
      intro H1 locs1 p1 d1 s1
      rw [e1] at p1 d1
      exact hk _ _ _ _ h H1 locs1 lsA p1 d1 s1 hH
    rcases f7 with f7 | ⟨host, f7⟩
    · exact va_put hx hb hts f2 ty f3 f4 hown hK hP hD hS id hw f1 j f5 f7 (fun x hx => by rw [f6] at hx; exact hx) g1 g2 g3 g4 hl hdg kk
    · exact va_putN hx hb hts f2 ty f3 f4 hown hK hP hD hS id hw f1 j f5 f7 (fun x hx => by rw [f6] at hx; exact hx) g1 g2 g3 g4 hl hdg kk
  case iaload =>
    obtain ⟨rfl, h0⟩ := h
    obtain ⟨j, id, r, rfl, h⟩ := am_ir_e h0
    intro H locs lsA hP hD hS hH
    by_cases hid : id = am_scr
    · subst hid
      rw [if_pos rfl] at h
      cases hsc : Sc with
      | none => rw [hsc] at h; exact h.elim
      | some q =>
        obtain ⟨L, xs⟩ := q
        rw [hsc] at h
        obtain ⟨h1, h2, h⟩ := h
        obtain ⟨hL, ys, x1, x2, x3, x4⟩ := hX L xs hsc
        refine va_sld hx hb x1 x2 x3 hS (am_in h1 h2 hL) hdg ?_
        have e1 : ys (Int32.ofInt j).toNatClampNeg = Int32.ofInt (xs j.toNat) := by
          rw [am_clamp h1 (by omega), x4, Int32.ofInt_toInt]
        rw [e1]
        exact hk _ _ _ _ h H locs lsA hP hD hS hH
    · rw [if_neg hid] at h
      obtain ⟨N, hs, h1, h2, h⟩ := am_ar_e h
      have hN := hSz _ _ _ hs
      refine va_iald hx hb hK hP id 0 (am_w_at hs) rfl (am_in h1 h2 hN) hdg ?_
      rw [am_clamp h1 (by omega)]
      exact hk _ _ _ _ h H locs lsA hP hD hS hH
  case baload =>
    obtain ⟨rfl, h0⟩ := h
    obtain ⟨j, id, r, rfl, h⟩ := am_ir_e h0
    intro H locs lsA hP hD hS hH
    obtain ⟨N, hs, h1, h2, h⟩ := am_ar_e h
    have hN := hSz _ _ _ hs
    refine va_zald hx hb hK hP id 1 (am_w_at hs) rfl (am_in h1 h2 hN) hdg ?_
    rw [am_clamp h1 (by omega)]
    exact hk _ _ _ _ h H locs lsA hP hD hS hH
  case iastore =>
    obtain ⟨rfl, h0⟩ := h
    obtain ⟨x, j, id, r, rfl, h⟩ := am_iir_e h0
    intro H locs lsA hP hD hS hH
    obtain ⟨N, hs, h1, h2, h⟩ := am_ar_e h
    have hN := hSz _ _ _ hs
    refine va_iast hx hb hK hP hD hS id 0 (am_w_at hs) rfl (am_in h1 h2 hN) hdg ?_
    have e1 : (am_w G ad M Sg).set id (ad id, .inl (G 0, N, .inl (upd (fun j => Int32.ofInt (M id j)) (Int32.ofInt j).toNatClampNeg (Int32.ofInt x)))) = am_w G ad (am_up M id j.toNat x) Sg := by
      rw [← am_w_set (M' := am_up M id j.toNat x) hs (fun a b ha => am_up_k M x ha)]
      congr 1
      show _ = (ad id, Sum.inl (G 0, N, Sum.inl (fun b => Int32.ofInt (am_up M id j.toNat x id b))))
      congr 5
      funext b
      rw [am_clamp h1 (by omega)]
      by_cases hb : b = j.toNat
      · subst hb; simp [upd, am_up]
      · simp [upd, am_up, hb]
    intro H1 locs1 p1 d1 s1
    rw [e1] at p1 d1
    exact hk _ _ _ _ h H1 locs1 lsA p1 d1 s1 hH
  case bastore =>
    obtain ⟨rfl, h0⟩ := h
    obtain ⟨x, j, id, r, rfl, h01, h⟩ := am_iir_e h0
    intro H locs lsA hP hD hS hH
    obtain ⟨N, hs, h1, h2, h⟩ := am_ar_e h
    have hN := hSz _ _ _ hs
    refine va_zast hx hb hK hP hD hS id 1 (am_w_at hs) rfl (am_in h1 h2 hN) hdg ?_
    rw [(am_z01 h01).2.2]
    have e1 : (am_w G ad M Sg).set id (ad id, .inl (G 1, N, .inl (upd (fun j => Int32.ofInt (M id j)) (Int32.ofInt j).toNatClampNeg (Int32.ofInt x)))) = am_w G ad (am_up M id j.toNat x) Sg := by
      rw [← am_w_set (M' := am_up M id j.toNat x) hs (fun a b ha => am_up_k M x ha)]
      congr 1
      show _ = (ad id, Sum.inl (G 1, N, Sum.inl (fun b => Int32.ofInt (am_up M id j.toNat x id b))))
      congr 5
      funext b
      rw [am_clamp h1 (by omega)]
      by_cases hb : b = j.toNat
      · subst hb; simp [upd, am_up]
      · simp [upd, am_up, hb]
    intro H1 locs1 p1 d1 s1
    rw [e1] at p1 d1
    exact hk _ _ _ _ h H1 locs1 lsA p1 d1 s1 hH
  case arraylength =>
    obtain ⟨rfl, h0⟩ := h
    obtain ⟨id, r, rfl, h⟩ := am_r_e h0
    intro H locs lsA hP hD hS hH
    by_cases hid : id = am_scr
    · subst hid
      rw [if_pos rfl] at h
      cases hsc : Sc with
      | none => rw [hsc] at h; exact h.elim
      | some q =>
        obtain ⟨L, xs⟩ := q
        rw [hsc] at h
        obtain ⟨hL, ys, x1, x2, x3, x4⟩ := hX L xs hsc
        refine va_slen hx hb x1 x2 x3 hS hdg ?_
        rw [show Int32.ofNat L = Int32.ofInt (L : Int) from (am_nI L).symm]
        exact hk _ _ _ _ h H locs lsA hP hD hS hH
    · rw [if_neg hid] at h
      unfold am_al at h
      split at h
      · rename_i e0 N hs
        have hN := hSz _ _ _ hs
        have hw := am_w_at (G := G) (ad := ad) (M := M) hs
        match e0, hs, hw with
        | 0, hs, hw => exact va_alen hx hb hK hP id 0 hw rfl (am_nI N).symm hdg (hk _ _ _ _ h H locs lsA hP hD hS hH)
        | 1, hs, hw => exact va_alen hx hb hK hP id 1 hw rfl (am_nI N).symm hdg (hk _ _ _ _ h H locs lsA hP hD hS hH)
        | n2 + 2, hs, hw => exact va_alen hx hb hK hP id 2 hw rfl (am_nI N).symm hdg (hk _ _ _ _ h H locs lsA hP hD hS hH)
      · exact h.elim
  case dup =>
    obtain ⟨rfl, h⟩ := h
    intro H locs lsA hP hD hS hH
    split at h
    · exact lv_dup hx hb hdg rfl (hk _ _ _ _ h H locs lsA hP hD hS hH)
    · exact lv_dup hx hb hdg rfl (hk _ _ _ _ h H locs lsA hP hD hS hH)
    · exact h.elim
  case dup2 =>
    obtain ⟨rfl, h0⟩ := h
    obtain ⟨j, id, r, rfl, h⟩ := am_ir_e h0
    intro H locs lsA hP hD hS hH
    exact lv_dup2_11 hx hb hdg rfl rfl (hk _ _ _ _ h H locs lsA hP hD hS hH)
  case dup_x1 =>
    obtain ⟨rfl, h0⟩ := h
    obtain ⟨j, id, r, rfl, h⟩ := am_ir_e h0
    intro H locs lsA hP hD hS hH
    exact lv_dup_x1 hx hb hdg rfl rfl (hk _ _ _ _ h H locs lsA hP hD hS hH)
  case pop =>
    obtain ⟨rfl, h⟩ := h
    intro H locs lsA hP hD hS hH
    split at h
    · exact lv_pop hx hb hdg rfl (hk _ _ _ _ h H locs lsA hP hD hS hH)
    · exact lv_pop hx hb hdg rfl (hk _ _ _ _ h H locs lsA hP hD hS hH)
    · exact h.elim
  case tableswitch d lo hi offs =>
    obtain ⟨h1, h2, h3, h0⟩ := h
    obtain ⟨a, r, rfl, h4, h5, h6⟩ := am_1_e h0
    intro H locs lsA hP hD hS hH
    by_cases ho : a < lo ∨ hi < a
    · exact lv_tableOut hx hb hdg (tgt := ((pc : Int) + d).toNat) (by rw [am_toInt h4]; exact ho) (by omega) (hk _ _ _ _ (h5 ho) H locs lsA hP hD hS hH)
    · have hlt : (a - lo).toNat < offs.size := by omega
      have hget : offs[(a - lo).toNat]? = some offs[(a - lo).toNat] := Array.getElem?_eq_getElem hlt
      have hmem : offs[(a - lo).toNat] ∈ offs.toList := by simp
      have hge := h2 _ hmem
      have hf := am_sw_at offs.toList lo offs[(a - lo).toNat] h6 (by omega) (by rw [Array.getElem?_toList]; exact hget)
      exact lv_tableIn hx hb hdg (off := offs[(a - lo).toNat]) (tgt := ((pc : Int) + offs[(a - lo).toNat]).toNat) (by rw [am_toInt h4]; omega) (by rw [am_toInt h4]; omega) (by rw [am_toInt h4]; exact hget) (by omega) (hk _ _ _ _ hf H locs lsA hP hD hS hH)
  case lookupswitch d ps =>
    obtain ⟨h1, h2, h3, h0⟩ := h
    obtain ⟨a, r, rfl, h4, h5⟩ := am_1_e h0
    intro H locs lsA hP hD hS hH
    obtain ⟨h6, h7⟩ := am_lk_at ps.toList h5
    have hge : 0 ≤ (pc : Int) + Op.lookupswitch.offset ps.toList d a := by
      rcases h7 with h7 | ⟨q, hq, h7⟩
      · rw [h7]; exact h1
      · rw [h7]; exact h2 q hq
    exact lv_lookup hx hb hdg h3 (off := Op.lookupswitch.offset ps.toList d a) (tgt := ((pc : Int) + Op.lookupswitch.offset ps.toList d a).toNat) (by rw [am_toInt h4]) (by omega) (hk _ _ _ _ h6 H locs lsA hP hD hS hH)
  case ineg =>
    obtain ⟨rfl, h0⟩ := h
    obtain ⟨a, r, rfl, h⟩ := am_1_e h0
    intro H locs lsA hP hD hS hH
    refine lv_ineg hx hb hdg ?_
    rw [← Int32.ofInt_neg]
    exact hk _ _ _ _ h H locs lsA hP hD hS hH
  case ixor =>
    obtain ⟨rfl, h0⟩ := h
    obtain ⟨a, b, r, rfl, h1, h2, h3, h4, h⟩ := am_2_e h0
    intro H locs lsA hP hD hS hH
    obtain ⟨z, z1, z2, z3⟩ := am_xor h1 h2 h3 h4
    refine lv_ixor hx hb hdg ?_
    rw [z3]
    exact hk _ _ _ _ (h z z1 z2) H locs lsA hP hD hS hH
  case invokevirtual idx =>
    obtain ⟨rfl, h⟩ := h
    unfold am_ca at h
    split at h
    · rename_i q ct hc
      exact hC pc q ct hc ls st M _ h.1 h.2.1 h.2.2 (fun r M' z => hk _ _ _ _ z)
    · exact h.elim
  case invokestatic idx =>
    obtain ⟨rfl, h⟩ := h
    unfold am_ca at h
    split at h
    · rename_i q ct hc
      exact hC pc q ct hc ls st M _ h.1 h.2.1 h.2.2 (fun r M' z => hk _ _ _ _ z)
    · exact h.elim
  case invokespecial idx =>
    obtain ⟨rfl, h⟩ := h
    unfold am_ca at h
    split at h
    · rename_i q ct hc
      exact hC pc q ct hc ls st M _ h.1 h.2.1 h.2.2 (fun r M' z => hk _ _ _ _ z)
    · exact h.elim
  case ireturn =>
    obtain ⟨rfl, h⟩ := h
    intro H locs lsA hP hD hS hH
    split at h
    · exact (hE _ M H locs lsA pc h hP hD hS).1 _ rfl hdg
    · exact h.elim
  case return_ =>
    obtain ⟨rfl, h⟩ := h
    intro H locs lsA hP hD hS hH
    split at h
    · exact (hE _ M H locs lsA pc h hP hD hS).2 rfl hdg
    · exact h.elim
  all_goals exact False.elim h
end AMOK
end
section
/-- so many steps, or up to the next stop -/
def am_wp (Sg : List am_S) (Sc : Option (Nat × (Nat → Int))) (Fd : Nat → Option (Nat × Nat × Nat)) (Ct : am_T) (Zr : am_Z) (I : Nat → Option (Instr × Nat)) (sp : Nat → Bool) (Z : am_K) : Nat → am_K
  | 0 => Z
  | n + 1 => fun pc ls st M => match I pc with
    | some (i, len) => am_ex Sg Sc Fd Ct Zr (fun pc' ls' st' M' => if sp pc' = true then Z pc' ls' st' M' else am_wp Sg Sc Fd Ct Zr I sp Z n pc' ls' st' M') pc len ls st M i
    | none => False
def am_rt : Option FieldType → Option am_V → Prop
  | none, none => True
  | some .int, some (.inl _) => True
  | some .boolean, some (.inl x) => x = 0 ∨ x = 1
  | _, _ => False
def am_nw (nw : List Jvm.Cond) : Bool := nw.all (fun w => match w with
  | .fieldLinkNest .. => true
  | .methodLinkNest .. => true
  | _ => false)
theorem am_nw_warm {nw : List Jvm.Cond} (h : am_nw nw = true) {s U : State} (hW : s.WarmedH U.vm) (hN : ∀ w ∈ nw, va_Nw w s) : ∀ w ∈ nw, va_Nw w U := by
  intro w hw
  have h1 := List.all_eq_true.mp h w hw
  have h2 := hN w hw
  cases w
  case fieldLinkNest => exact va_Nw.warmF hW h2
  case methodLinkNest => exact va_Nw.warmM hW h2
  all_goals exact Bool.noConfusion h1
theorem am_nw_same {nw : List Jvm.Cond} (h : am_nw nw = true) {s U : State} (hv : s.vm = U.vm) (hN : ∀ w ∈ nw, va_Nw w s) : ∀ w ∈ nw, va_Nw w U := by
  intro w hw
  have h1 := List.all_eq_true.mp h w hw
  have h2 := hN w hw
  cases w
  case fieldLinkNest => exact va_Nw.same rfl hv h2
  case methodLinkNest => exact va_Nw.same rfl hv h2
  all_goals exact Bool.noConfusion h1
def am_B (D : va_G) (cl : List vw_C) (G : Nat → ClassId) (ad : Nat → Nat) (Sg : List am_S) (nw : List Jvm.Cond) (sz : Nat) (M : am_M) (U : State) : Prop :=
  U.heap.size = sz ∧ va_P D cl (am_w G ad M Sg) U.heap ∧ va_K D cl (am_ty G) U ∧ va_D (fun _ => True) (am_w G ad M Sg) ∧ ∀ w ∈ nw, va_Nw w U
def am_Q (D : va_G) (cl : List vw_C) (G : Nat → ClassId) (ad : Nat → Nat) (Sg : List am_S) (Post : am_Z) (A : Nat → Prop) : Array Value → State → Outcome → State → Prop := fun _ st oc t =>
  (∃ (r : Option am_V) (M' : am_M), oc = .returned (r.map (am_cv ad)) ∧ Post r M' ∧ va_P D cl (am_w G ad M' Sg) t.heap) ∧ va_F A st t
/-- a method's contract in the abstract machine's words -/
def am_Met (l : Launch) (y : MethodName) (ws : List Jvm.Cond) (rm : Room) (cl : List vw_C) (Sg : List am_S) (nw : List Jvm.Cond) (Pre : List am_V → am_M → Prop) (Post : List am_V → am_M → am_Z) : Prop :=
  ∀ (D : va_G) (G : Nat → ClassId) (ad : Nat → Nat) (sz : Nat) (M : am_M) (av : List am_V), Pre av M → Met l y ws rm (va_Pc (av.map (am_cv ad)) (am_B D cl G ad Sg nw sz M)) (am_Q D cl G ad Sg (Post av M) (va_A (am_w G ad M Sg) sz)) 0 0 (va_A (am_w G ad M Sg) sz)
theorem am_B_blind {D : va_G} {cl : List vw_C} {G : Nat → ClassId} {ad : Nat → Nat} {Sg : List am_S} {nw : List Jvm.Cond} (hnw : am_nw nw = true) {sz : Nat} {M : am_M} {av : List Value} : FrameBlind (va_Pc av (am_B D cl G ad Sg nw sz M)) := by
  intro a U g mk q
  obtain ⟨q0, q1, qP, qK, qD, qN⟩ := q
  exact ⟨q0, q1, qP, va_K.moved (u := U) (U := U.calling g mk a) (Vm.Alike.refl U.vm) qK, qD, am_nw_same hnw (s := U) (U := U.calling g mk a) rfl qN⟩
section AMW
variable {p : Program} {l : Launch} {e : Env} {R : Room} {s : State} {m : MethodId} {args : Array Value} {below : List Frame} {meth : Method} {c : Code} {H0 : Heap} {A : Nat → Prop} {cells slots : Nat} {Q : State → Prop} {D : va_G} {cl : List vw_C} {G : Nat → ClassId} {ad : Nat → Nat} {Sg : List am_S} {nL : Nat} {cc : ByteArray} {own : String} {Ts : List Jvm.Cond}
theorem am_wp_ok {Sc : Option (Nat × (Nat → Int))} {Fd : Nat → Option (Nat × Nat × Nat)} {Ct : am_T} {Zr : am_Z} {I : Nat → Option (Instr × Nat)} {sp : Nat → Bool} {Z : am_K}
    (hx : p.tables.exec = Jvm.exec) (hb : c.code = cc) (hown : s.vm.findClass own = some m.cls) (hts : ∀ w ∈ Ts, w.before args s = true) (hK : va_K D cl (am_ty G) s)
    (hSz : ∀ (id e n : Nat), Sg[id]? = some (.inl (e, n)) → n < 2147483648) (hF : ∀ idx ci j q, Fd idx = some (ci, j, q) → am_FOK cl own args s Ts idx ci j q)
    (hC : ∀ pc q ct, Ct pc = some (q, ct) → am_C p l e R s m args below meth c H0 A cells slots Q D cl G ad Sg nL pc q ct) (hE : am_E p l e R s m args below meth c H0 A cells slots Q D cl G ad Sg cc Zr)
    (hX : ∀ L xs, Sc = some (L, xs) → L < 2147483648 ∧ ∃ ys : Nat → Int32, va_X (ad am_scr) L ys s H0 ∧ ad am_scr < H0.size ∧ ¬ A (ad am_scr) ∧ ∀ j, xs j = (ys j).toInt)
    (hI : ∀ pc i n, I pc = some (i, n) → decode cc pc = .ok (i, n))
    (hZ : ∀ pc' ls' st' M', Z pc' ls' st' M' → am_A p l e R s m args below meth c H0 A cells slots Q D cl G ad Sg nL pc' ls' st' M') :
    ∀ (n pc : Nat) (ls : am_L) (st : List am_V) (M : am_M), am_wp Sg Sc Fd Ct Zr I sp Z n pc ls st M → am_A p l e R s m args below meth c H0 A cells slots Q D cl G ad Sg nL pc ls st M
  | 0, pc, ls, st, M, h => hZ pc ls st M h
  | n + 1, pc, ls, st, M, h => by
    unfold am_wp at h
    split at h
    · rename_i i len hi
      refine am_ok hx hb hown hts hK hSz hF hC hE hX (hI _ _ _ hi) (fun pc' ls' st' M' hk => ?_) h
      by_cases hs : sp pc' = true
      · rw [if_pos hs] at hk
        exact hZ _ _ _ _ hk
      · rw [if_neg hs] at hk
        exact am_wp_ok hx hb hown hts hK hSz hF hC hE hX hI hZ n pc' ls' st' M' hk
    · exact h.elim
/-- Floyd's rule: an invariant with a measure at the stops -/
theorem am_fl {Sc : Option (Nat × (Nat → Int))} {Fd : Nat → Option (Nat × Nat × Nat)} {Ct : am_T} {Zr : am_Z} {I : Nat → Option (Instr × Nat)} {sp : Nat → Bool}
    (hx : p.tables.exec = Jvm.exec) (hb : c.code = cc) (hown : s.vm.findClass own = some m.cls) (hts : ∀ w ∈ Ts, w.before args s = true) (hK : va_K D cl (am_ty G) s)
    (hSz : ∀ (id e n : Nat), Sg[id]? = some (.inl (e, n)) → n < 2147483648) (hF : ∀ idx ci j q, Fd idx = some (ci, j, q) → am_FOK cl own args s Ts idx ci j q)
    (hC : ∀ pc q ct, Ct pc = some (q, ct) → am_C p l e R s m args below meth c H0 A cells slots Q D cl G ad Sg nL pc q ct) (hE : am_E p l e R s m args below meth c H0 A cells slots Q D cl G ad Sg cc Zr)
    (hX : ∀ L xs, Sc = some (L, xs) → L < 2147483648 ∧ ∃ ys : Nat → Int32, va_X (ad am_scr) L ys s H0 ∧ ad am_scr < H0.size ∧ ¬ A (ad am_scr) ∧ ∀ j, xs j = (ys j).toInt)
    (hI : ∀ pc i n, I pc = some (i, n) → decode cc pc = .ok (i, n)) (Inv : Nat → am_K)
    (hV : ∀ μ pc ls st M, Inv μ pc ls st M → ∃ n, am_wp Sg Sc Fd Ct Zr I sp (fun pc' ls' st' M' => ∃ μ', μ' < μ ∧ Inv μ' pc' ls' st' M') n pc ls st M) :
    ∀ (μ pc : Nat) (ls : am_L) (st : List am_V) (M : am_M), Inv μ pc ls st M → am_A p l e R s m args below meth c H0 A cells slots Q D cl G ad Sg nL pc ls st M := by
  intro μ
  induction μ using Nat.strongRecOn with
  | ind μ ih =>
    intro pc ls st M h
    obtain ⟨n, hn⟩ := hV μ pc ls st M h
    exact am_wp_ok hx hb hown hts hK hSz hF hC hE hX hI (fun pc' ls' st' M' ⟨μ', h1, h2⟩ => ih μ' h1 pc' ls' st' M' h2) n pc ls st M hn
end AMW
section AMC
variable {p : Program} {l : Launch} {e : Env} {R : Room} {s : State} {m : MethodId} {args : Array Value} {below : List Frame} {meth : Method} {c : Code} {H0 : Heap} {A : Nat → Prop} {cells slots : Nat} {Q : State → Prop} {D : va_G} {cl : List vw_C} {G : Nat → ClassId} {ad : Nat → Nat} {Sg : List am_S} {nL : Nat} {cc : ByteArray} {own : String} {Ts : List Jvm.Cond}
/-- behind a run: the world is there again -/
theorem am_back {H : Heap} {locs : List Loc} {lsA : Array Slot} {ls : am_L} {pc : Nat} {M : am_M} {st0 : List Value} {rest : List am_V} {Post : am_Z} {a : Array Value} {kk : am_Z}
    (hA : ∀ q, H0.size ≤ q → A q) (hD : va_D A (am_w G ad M Sg)) (hS : va_S A H0 H locs) (hH : am_H ad lsA nL ls)
    (hr : va_Run p l e R s m args below meth c H locs cells slots 0 0 (F0 m pc lsA st0) (rest.map (am_cv ad)) (am_Q D cl G ad Sg Post (va_A (am_w G ad M Sg) H.size) a) (va_A (am_w G ad M Sg) H.size))
    (hp : ∀ r M', Post r M' → kk r M') (hk : ∀ (r : Option am_V) (M' : am_M), kk r M' → am_A p l e R s m args below meth c H0 A cells slots Q D cl G ad Sg nL (pc + 3) ls (r.toList ++ rest) M') :
    W p l e R s m args below meth c H locs cells slots Q (F0 m pc lsA st0) := by
  have hin : ∀ q, va_A (am_w G ad M Sg) H.size q → A q := by
    intro q h
    rcases h with ⟨k, x, h⟩ | h
    · exact hD.2 k (q, x) h
    · exact hA q (Nat.le_trans hS.1 h)
  intro T hT X
  obtain ⟨v, st₀, t, T', L, h0, X', hL, e1, e2, ⟨⟨r, M', hv, hpo, hP'⟩, hz, hq⟩, st⟩ := hr T hT X
  cases hv
  rw [h0] at hz hq
  have hS' : va_S A H0 T'.heap (locs ++ L) := by
    refine ⟨Nat.le_trans hS.1 (by rw [e1]; exact hz), fun q h1 h2 => ?_, fun q hq' => ?_⟩
    · rw [e1, hq q (Nat.lt_of_lt_of_le h1 hS.1) (fun z => h2 (hin q z))]
      exact hS.2.1 q h1 h2
    · rcases List.mem_append.mp hq' with h | h
      · exact hS.2.2 q h
      · exact hin _ (hL q h)
  obtain ⟨t2, a1, b1⟩ := hk r M' (hp r M' hpo) T'.heap (locs ++ L) lsA (by rw [e1]; exact hP') (am_D hD) hS' hH T' rfl X'
  refine ⟨t2, st t2 ?_, b1⟩
  have es : (r.toList ++ rest).map (am_cv ad) = (r.map (am_cv ad)).toList ++ rest.map (am_cv ad) := by cases r <;> simp
  rw [es] at a1
  exact a1
def am_isO (Sg : List am_S) (ci : Nat) : List am_V → Prop
  | .inr (.inl id) :: _ => ∃ fs, Sg[id]? = some (.inr (ci, fs))
  | _ => False
/-- an instance method's call; a static method's call: what the abstract machine has to show -/
def am_ctV (Sg : List am_S) (ci : Nat) (Pre : List am_V → am_M → Prop) (Post : List am_V → am_M → am_Z) : List am_V → am_M → am_Z → Prop := fun av M kk => am_isO Sg ci av ∧ Pre av M ∧ ∀ r M', Post av M r M' → kk r M'
def am_ctS (Pre : List am_V → am_M → Prop) (Post : List am_V → am_M → am_Z) : List am_V → am_M → am_Z → Prop := fun av M kk => Pre av M ∧ ∀ r M', Post av M r M' → kk r M'
theorem am_pre {nw : List Jvm.Cond} {H : Heap} {M : am_M} {av : List am_V} (hnw : am_nw nw = true) (hK : va_K D cl (am_ty G) s) (hN : ∀ w ∈ nw, va_Nw w s) (hP : va_P D cl (am_w G ad M Sg) H) (hD : va_D A (am_w G ad M Sg)) : PreS s H (va_Pc (av.map (am_cv ad)) (am_B D cl G ad Sg nw H.size M)) (av.map (am_cv ad)) :=
  ⟨am_B_blind hnw, fun U hU hW => ⟨rfl, by rw [hU], by rw [hU]; exact hP, va_K.moved hW.alike hK, hD.weaken (fun _ _ _ _ => trivial), am_nw_warm hnw hW hN⟩⟩
theorem am_stk {st : List am_V} {q : Nat} (h : q ≤ st.length) : st = ((st.take q).reverse).reverse ++ st.drop q ∧ (st.take q).reverse.length = q := by
  refine ⟨by rw [List.reverse_reverse, List.take_append_drop], by simp [h]⟩
theorem am_wt (ad : Nat → Nat) : ∀ (st : List am_V) (n : Nat), st.length ≤ n → ((st.map (am_cv ad)).map fun v => v.category).sum ≤ 2 * n
  | [], n, _ => by simp
  | x :: r, 0, h => by simp at h
  | x :: r, n + 1, h => by
    have h1 := am_wt ad r n (by simpa using h)
    have h2 : (am_cv ad x).category ≤ 2 := by rcases lv_cat (am_cv ad x) with h | h <;> omega
    simp only [List.map_cons, List.sum_cons]
    omega
/-- what a call's site must have: an instance method, by its name, or as a nest mate's private one -/
def am_sV (R : Room) (s : State) (args : Array Value) (own C : String) (idx : Nat) (y : MethodName) (bytes : ByteArray) (maxL : Nat) (ret : Option FieldType) (ws : List Jvm.Cond) (rm : Room) (n : Nat) : Prop :=
  CallW R s args own C idx y bytes maxL ret ws rm 0 0 n ∨ ∃ host, va_CN R s args own idx y host bytes maxL ret ws rm 0 0 n ∧ (Cond.instanceMethod y).before args s = true ∧ (Cond.selects C y y).before args s = true
def am_sS (R : Room) (s : State) (args : Array Value) (own : String) (idx : Nat) (y : MethodName) (bytes : ByteArray) (maxL : Nat) (ret : Option FieldType) (ws : List Jvm.Cond) (rm : Room) (n : Nat) : Prop :=
  (CallB R s args own idx y bytes maxL ret ws rm 0 0 n ∧ (Cond.static y).before args s = true) ∨ ∃ host, va_CN R s args own idx y host bytes maxL ret ws rm 0 0 n ∧ (Cond.static y).before args s = true ∧ True
set_option maxHeartbeats 1000000 in
theorem am_callV {y : MethodName} {ws : List Jvm.Cond} {rm : Room} {nw : List Jvm.Cond} {Pre : List am_V → am_M → Prop} {Post : List am_V → am_M → am_Z} {bytes : ByteArray} {maxL n idx pc ci : Nat} {ret : Option FieldType} {C : String} {T : u_T} {N : Nat}
    (hS0 : CallFix p m c cc nL s args Ts own) (hnw : am_nw nw = true) (hK : va_K D cl (am_ty G) s) (hN : ∀ w ∈ nw, va_Nw w s) (hA : ∀ q, H0.size ≤ q → A q) (hcR : cells ≤ R.cells ∧ slots ≤ R.slots)
    (hM : am_Met l y ws rm cl Sg nw Pre Post) (cw : am_sV R s args own C idx y bytes maxL ret ws rm n) (hci : cl[ci]? = some (C, T, N)) (hdg : decode cc pc = .ok (.invokevirtual idx, 3)) :
    am_C p l e R s m args below meth c H0 A cells slots Q D cl G ad Sg nL pc (n + 1) (am_ctV Sg ci Pre Post) := by
  intro ls st M kk h1 h2 ⟨ho, hpre, hpost⟩ hk H locs lsA hP hD hS hH
  obtain ⟨es, el⟩ := am_stk h1
  generalize hav : (st.take (n + 1)).reverse = av at *
  cases av with
  | nil => exact ho.elim
  | cons x As =>
    rcases x with x | id | x
    · exact ho.elim
    · obtain ⟨fs, hs⟩ := ho
      have hw := am_w_at (G := G) (ad := ad) (M := M) hs
      have hpr := am_pre (av := .inr (.inl id) :: As) hnw hK hN hP hD
      have hrv := va_recv hK hP hci hw
      have hstk : (st.map (am_cv ad)) = (As.map (am_cv ad)).reverse ++ .ref (ad id) :: (st.drop (n + 1)).map (am_cv ad) := by
        conv => lhs; rw [es]
        simp [am_cv]
      have hwt : ((st.drop (n + 1)).map (am_cv ad) |>.map fun v => v.category).sum ≤ 8 := am_wt ad _ 4 (by simp; omega)
      have hlen : (As.map (am_cv ad)).length = n := by simpa using el
      rcases cw with cw | ⟨host, cw⟩
      · have hr := va_runV (e := e) (below := below) (meth := meth) (locs := locs) hS0 (hM D G ad H.size M (.inr (.inl id) :: As) hpre) cw (As := As.map (am_cv ad)) ⟨hpr.1, hrv, hpr.2⟩ (g := F0 m pc lsA (st.map (am_cv ad))) rfl hlen hH.1 hstk (lv_room hwt) hdg hcR
        exact am_back hA hD hS hH hr hpost hk
      · have hr := va_runVN (e := e) (below := below) (meth := meth) (locs := locs) hS0 (hM D G ad H.size M (.inr (.inl id) :: As) hpre) cw (As := As.map (am_cv ad)) ⟨hpr.1, hrv, hpr.2⟩ (g := F0 m pc lsA (st.map (am_cv ad))) rfl hlen hH.1 hstk (lv_room hwt) hdg hcR
        exact am_back hA hD hS hH hr hpost hk
    · exact ho.elim
set_option maxHeartbeats 1000000 in
theorem am_callS {y : MethodName} {ws : List Jvm.Cond} {rm : Room} {nw : List Jvm.Cond} {Pre : List am_V → am_M → Prop} {Post : List am_V → am_M → am_Z} {bytes : ByteArray} {maxL n idx pc : Nat} {ret : Option FieldType}
    (hS0 : CallFix p m c cc nL s args Ts own) (hnw : am_nw nw = true) (hK : va_K D cl (am_ty G) s) (hN : ∀ w ∈ nw, va_Nw w s) (hA : ∀ q, H0.size ≤ q → A q) (hcR : cells ≤ R.cells ∧ slots ≤ R.slots)
    (hM : am_Met l y ws rm cl Sg nw Pre Post) (cw : am_sS R s args own idx y bytes maxL ret ws rm n) (hdg : decode cc pc = .ok (.invokestatic idx, 3)) :
    am_C p l e R s m args below meth c H0 A cells slots Q D cl G ad Sg nL pc n (am_ctS Pre Post) := by
  intro ls st M kk h1 h2 ⟨hpre, hpost⟩ hk H locs lsA hP hD hS hH
  obtain ⟨es, el⟩ := am_stk h1
  generalize hav : (st.take n).reverse = av at *
  have hpr := am_pre (av := av) hnw hK hN hP hD
  have hstk : (st.map (am_cv ad)) = (av.map (am_cv ad)).reverse ++ (st.drop n).map (am_cv ad) := by
    conv => lhs; rw [es]
    simp
  have hwt : ((st.drop n).map (am_cv ad) |>.map fun v => v.category).sum ≤ 8 := am_wt ad _ 4 (by simp; omega)
  have hlen : (av.map (am_cv ad)).length = n := by simpa using el
  rcases cw with cw | ⟨host, cw⟩
  · have hr := va_runS (e := e) (below := below) (meth := meth) (locs := locs) hS0 (hM D G ad H.size M av hpre) cw hpr (g := F0 m pc lsA (st.map (am_cv ad))) rfl hlen hH.1 hstk (lv_room hwt) hdg hcR
    exact am_back hA hD hS hH hr hpost hk
  · have hr := va_runSN (e := e) (below := below) (meth := meth) (locs := locs) hS0 (hM D G ad H.size M av hpre) cw hpr (g := F0 m pc lsA (st.map (am_cv ad))) rfl hlen hH.1 hstk (lv_room hwt) hdg hcR
    exact am_back hA hD hS hH hr hpost hk
end AMC
def am_c1 : am_V → Bool
  | .inr (.inr _) => false
  | _ => true
theorem am_c1_cat (ad : Nat → Nat) {v : am_V} (h : am_c1 v = true) : (am_cv ad v).category = 1 := by
  rcases v with x | x | x
  · rfl
  · rfl
  · cases h
theorem am_sl_len (ad : Nat → Nat) : ∀ (av : List am_V), av.all am_c1 = true → (lg_sl (av.map (am_cv ad))).length = av.length
  | [], _ => rfl
  | v :: r, h => by
    simp only [List.all_cons, Bool.and_eq_true] at h
    have h1 := am_c1_cat ad h.1
    have h2 := am_sl_len ad r h.2
    simp only [lg_sl, List.map_cons, List.flatMap_cons, h1] at h2 ⊢
    simp [h2]
theorem am_args (ad : Nat → Nat) : ∀ (av : List am_V) (i j : Nat) (v : am_V), av.all am_c1 = true → av[j]? = some v → (i + j, am_cv ad v) ∈ lv_args i (av.map (am_cv ad))
  | [], i, j, v, _, h => by simp at h
  | x :: r, i, 0, v, _, h => by
    simp at h
    subst h
    simp [lv_args]
  | x :: r, i, j + 1, v, ha, h => by
    simp only [List.all_cons, Bool.and_eq_true] at ha
    have h1 := am_c1_cat ad ha.1
    have h2 := am_args ad r (i + 1) j v ha.2 (by simpa using h)
    simp only [List.map_cons, lv_args, h1]
    refine List.mem_cons_of_mem _ ?_
    have e : i + (j + 1) = i + 1 + j := by omega
    rw [e]
    exact h2
theorem am_H_entry {ad : Nat → Nat} {av : List am_V} {n : Nat} {lsA : Array Slot} (ha : av.all am_c1 = true) (hn : av.length ≤ n) (h : lv_has lsA n (lv_args 0 (av.map (am_cv ad)))) : am_H ad lsA n (av.map some ++ List.replicate (n - av.length) none) := by
  refine ⟨h.1, h.2.1, by simp; omega, fun i v hi => ?_⟩
  by_cases hl : i < av.length
  · rw [List.getElem?_append_left (by simpa using hl), List.getElem?_map] at hi
    have hi2 : av[i]? = some v := by
      cases hq : av[i]? with
      | none => rw [hq] at hi; cases hi
      | some w => rw [hq] at hi; simp at hi; rw [hi]
    have hc : am_c1 v = true := List.all_eq_true.mp ha v (List.mem_of_getElem? hi2)
    have hm := am_args ad av 0 i v ha hi2
    rw [Nat.zero_add] at hm
    exact ⟨am_c1_cat ad hc, h.2.2 _ hm⟩
  · rw [List.getElem?_append_right (by simp; omega)] at hi
    rw [List.getElem?_replicate] at hi
    split at hi
    · cases hi
    · cases hi
set_option maxHeartbeats 2000000 in
/-- a contract out of pure conditions -/
theorem am_mk {l : Launch} {y : MethodName} {ws ws' : List Jvm.Cond} {rm : Room} {cl : List vw_C} {Sg : List am_S} {nw : List Jvm.Cond} {Pre : List am_V → am_M → Prop} {Post : List am_V → am_M → am_Z} {cc : ByteArray} {maxL : Nat} {ret : Option FieldType} {Fd : Nat → Option (Nat × Nat × Nat)} {Ct : am_T} {I : Nat → Option (Instr × Nat)} {sp : Nat → Bool}
    (hy : plainName y.cls = true) (hw : ws = Cond.code y cc maxL ret :: ws') (hret : ret = none ∨ ret = some .int ∨ ret = some .boolean)
    (hSz : ∀ (id e n : Nat), Sg[id]? = some (.inl (e, n)) → n < 2147483648)
    (hF : ∀ (args : Array Value) (s : State), (∀ w ∈ ws, w.before args s = true) → (∀ w ∈ nw, va_Nw w s) → ∀ idx ci j q, Fd idx = some (ci, j, q) → am_FOK cl y.cls args s ws idx ci j q)
    (hC : ∀ (p : Program) (e : Env) (s : State) (m : MethodId) (args : Array Value) (below : List Frame) (meth : Method) (c : Code) (H0 : Heap) (A : Nat → Prop) (D : va_G) (G : Nat → ClassId) (ad : Nat → Nat) (Q : State → Prop), CallFix p m c cc maxL s args ws y.cls → va_K D cl (am_ty G) s → (∀ w ∈ nw, va_Nw w s) → (∀ q, H0.size ≤ q → A q) → ∀ pc q ct, Ct pc = some (q, ct) → am_C p l e rm s m args below meth c H0 A 0 0 Q D cl G ad Sg maxL pc q ct)
    (hI : ∀ pc i n, I pc = some (i, n) → decode cc pc = .ok (i, n))
    (hL : ∀ av M, Pre av M → av.length ≤ maxL ∧ av.all am_c1 = true)
    (hV : ∀ av M, Pre av M → ∃ Inv : Nat → am_K, (∃ μ, Inv μ 0 (av.map some ++ List.replicate (maxL - av.length) none) [] M) ∧ ∀ μ pc ls st M', Inv μ pc ls st M' → ∃ n, am_wp Sg none Fd Ct (fun r M'' => Post av M r M'' ∧ am_rt ret r) I sp (fun pc' ls' st' M'' => ∃ μ', μ' < μ ∧ Inv μ' pc' ls' st' M'') n pc ls st M') :
    am_Met l y ws rm cl Sg nw Pre Post := by
  intro D G ad sz M av hpre
  obtain ⟨hlen, hall⟩ := hL av M hpre
  obtain ⟨Inv, ⟨μ, h0⟩, hV⟩ := hV av M hpre
  refine Met.ofW (cc := cc) (maxL := maxL) (ret := ret) hy hw ?_
  intro p e s m args below meth c s₁ B hml hv
  obtain ⟨rfl, hsz, hP, hK, hD0, hN⟩ := hv
  have hx := B.exec
  have hb := B.bytes
  have hr := B.returns
  have hts := atoms_spec (ws := ws) B.pre
  have hown : s.vm.findClass y.cls = some m.cls := findClass_of_methodNamed B.named
  have hlocks := B.notSynchronized
  subst hsz
  have hD := hD0.self (sz := s.heap.size)
  have hS : va_S (va_A (am_w G ad M Sg) s.heap.size) s.heap s.heap [] := va_S.rf
  have hA : ∀ q : Nat, s.heap.size ≤ q → va_A (am_w G ad M Sg) s.heap.size q := fun q h => Or.inr h
  generalize hAe : va_A (am_w G ad M Sg) s.heap.size = A at *
  have hl := lv_entry (av.map (am_cv ad)) (n := maxL) (by rw [am_sl_len ad av hall]; exact hlen)
  rw [lg_entry_eq]
  generalize (lg_sl (av.map (am_cv ad)) ++ List.replicate (maxL - (lg_sl (av.map (am_cv ad))).length) Slot.unset).toArray = lsA at hl ⊢
  have hH := am_H_entry hall hlen hl
  have hE : am_E p l e (headSpec ws rm).room s m (av.map (am_cv ad)).toArray below meth c s.heap A 0 0 (MQ below (am_Q D cl G ad Sg (Post av M) A) (av.map (am_cv ad)).toArray s 0 0 A) D cl G ad Sg cc (fun r M'' => Post av M r M'' ∧ am_rt ret r) := by
    intro r M' H locs lsB pc ⟨hpo, hrt⟩ hP' hD' hS'
    refine ⟨fun x hxr hdg => ?_, fun hn hdg => ?_⟩
    · subst hxr
      have hq : ∀ t : State, t.heap = H → s.WarmedH t.vm → am_Q D cl G ad Sg (Post av M) A (av.map (am_cv ad)).toArray s (.returned (some (.int (Int32.ofInt x)))) t := fun t ht hW => ⟨⟨some (.inl x), M', rfl, hpo, by rw [ht]; exact hP'⟩, hS'.F ht⟩
      rcases hret with rfl | rfl | rfl
      · exact hrt.elim
      · exact W.iret hx hb hr hq hS'.2.2 hdg
      · exact W.zret hx hb hr (am_z01 hrt).1 hq hS'.2.2 hdg
    · subst hn
      have hq : ∀ t : State, t.heap = H → s.WarmedH t.vm → am_Q D cl G ad Sg (Post av M) A (av.map (am_cv ad)).toArray s (.returned none) t := fun t ht hW => ⟨⟨none, M', rfl, hpo, by rw [ht]; exact hP'⟩, hS'.F ht⟩
      rcases hret with rfl | rfl | rfl
      · exact W.vret hx hb hr hq hS'.2.2 hdg
      · exact hrt.elim
      · exact hrt.elim
  exact am_fl hx hb hown hts hK hSz (hF _ s hts hN) (hC p e s m _ below meth c s.heap A D G ad _ ⟨hx, hb, hml, hown, hts⟩ hK hN hA) hE (fun L xs h => by cases h) hI Inv hV μ 0 _ [] M h0 s.heap [] lsA hP hD hS hH
end
section
/-! pure numbers: sums over ranks, releases in a window -/
def ma_su (f : Nat → Int) : Nat → Int
  | 0 => 0
  | n + 1 => ma_su f n + f n
theorem ma_su_le {f g : Nat → Int} : ∀ {n : Nat}, (∀ j, j < n → f j ≤ g j) → ma_su f n ≤ ma_su g n
  | 0, _ => Int.le_refl _
  | n + 1, h => by
    have h1 := ma_su_le (n := n) (fun j hj => h j (by omega))
    have h2 := h n (by omega)
    simp only [ma_su]
    omega
theorem ma_su_eq {f g : Nat → Int} : ∀ {n : Nat}, (∀ j, j < n → f j = g j) → ma_su f n = ma_su g n
  | 0, _ => rfl
  | n + 1, h => by
    have h1 := ma_su_eq (n := n) (fun j hj => h j (by omega))
    have h2 := h n (by omega)
    simp only [ma_su]
    omega
theorem ma_su_add (f g : Nat → Int) : ∀ n : Nat, ma_su (fun j => f j + g j) n = ma_su f n + ma_su g n
  | 0 => rfl
  | n + 1 => by
    have h1 := ma_su_add f g n
    simp only [ma_su]
    omega
theorem ma_su_0 {f : Nat → Int} {n : Nat} (h : ∀ j, j < n → f j = 0) : ma_su f n = 0 := by
  have h1 : ma_su f n = ma_su (fun _ => 0) n := ma_su_eq h
  rw [h1]
  clear h1 h
  induction n with
  | zero => rfl
  | succ n ih => simp only [ma_su, ih]; rfl
theorem ma_su_nn {f : Nat → Int} {n : Nat} (h : ∀ j, j < n → 0 ≤ f j) : 0 ≤ ma_su f n := by
  have h1 : ma_su (fun _ => 0) n ≤ ma_su f n := ma_su_le h
  rw [ma_su_0 (fun _ _ => rfl)] at h1
  exact h1
/-- a sum of numbers that aren't negative is 0 just where all are -/
theorem ma_su_z {f : Nat → Int} : ∀ {n : Nat}, (∀ j, j < n → 0 ≤ f j) → ma_su f n ≤ 0 → ∀ j, j < n → f j = 0
  | 0, _, _, j, hj => by omega
  | n + 1, h, hz, j, hj => by
    have h1 := ma_su_nn (n := n) (fun j hj => h j (by omega))
    have h2 := h n (by omega)
    simp only [ma_su] at hz
    by_cases e : j = n
    · subst e; omega
    · exact ma_su_z (n := n) (fun j hj => h j (by omega)) (by omega) j (by omega)
/-- one place changes -/
theorem ma_su_up {f g : Nat → Int} {k : Nat} (hg : ∀ j, j ≠ k → g j = f j) : ∀ n : Nat, ma_su g n = ma_su f n + (if k < n then g k - f k else 0)
  | 0 => by simp [ma_su]
  | n + 1 => by
    have h1 := ma_su_up hg n
    simp only [ma_su]
    by_cases e : n = k
    · subst e
      rw [h1, if_neg (by omega), if_pos (by omega)]
      omega
    · rw [h1, hg n e]
      by_cases h2 : k < n
      · rw [if_pos h2, if_pos (by omega)]; omega
      · rw [if_neg h2, if_neg (by omega)]; omega
theorem ma_su_mono {f : Nat → Int} {m n : Nat} (h : m ≤ n) (hf : ∀ j, j < n → 0 ≤ f j) : ma_su f m ≤ ma_su f n := by
  induction n with
  | zero => rw [show m = 0 by omega]; exact Int.le_refl _
  | succ n ih =>
    by_cases e : m = n + 1
    · rw [e]; exact Int.le_refl _
    · have h1 := ih (by omega) (fun j hj => hf j (by omega))
      have h2 := hf n (by omega)
      simp only [ma_su]
      omega
/-- division by a positive number, by its two bounds -/
theorem ma_div {a b q : Int} (hb : 0 < b) (h1 : q * b ≤ a) (h2 : a < q * b + b) : a / b = q := by
  have e1 : q ≤ a / b := Int.le_ediv_of_mul_le hb h1
  have e2 : a / b < q + 1 := Int.ediv_lt_of_lt_mul hb (by rw [Int.add_mul, Int.one_mul]; exact h2)
  omega
theorem ma_div_b {a b : Int} (hb : 0 < b) : (a / b) * b ≤ a ∧ a < (a / b) * b + b := by
  have h1 := Int.ediv_mul_le a (Int.ne_of_gt hb)
  have h2 := Int.lt_ediv_add_one_mul_self a hb
  rw [Int.add_mul, Int.one_mul] at h2
  exact ⟨h1, h2⟩
/-- rounded up -/
def ma_ru (r p : Int) : Int := (r + p - 1) / p
theorem ma_ru_b {r p : Int} (hp : 0 < p) : r ≤ ma_ru r p * p ∧ ma_ru r p * p < r + p := by
  have h := ma_div_b (a := r + p - 1) hp
  unfold ma_ru
  omega
theorem ma_ru_le {r p q : Int} (hp : 0 < p) (h : r ≤ q * p) : ma_ru r p ≤ q := by
  unfold ma_ru
  have : (r + p - 1) / p < q + 1 := Int.ediv_lt_of_lt_mul hp (by rw [Int.add_mul, Int.one_mul]; omega)
  omega
theorem ma_ru_mono {r r' p : Int} (hp : 0 < p) (h : r ≤ r') : ma_ru r p ≤ ma_ru r' p := ma_ru_le hp (by have := (ma_ru_b (r := r') hp).1; omega)
theorem ma_ru_0 {p : Int} (hp : 0 < p) : ma_ru 0 p = 0 := ma_div hp (by omega) (by omega)
theorem ma_ru_nn {r p : Int} (hp : 0 < p) (h : 0 ≤ r) : 0 ≤ ma_ru r p := by
  have := ma_ru_mono hp h
  rw [ma_ru_0 hp] at this
  exact this
/-- an instance of a task with the offset o and the period p comes at y -/
def ma_be (o p y : Int) : Prop := o ≤ y ∧ (y - o) % p = 0
/-- how many instances come before y -/
def ma_rc (o p y : Int) : Int := if y ≤ o then 0 else ma_ru (y - o) p
theorem ma_rc_le {o p y : Int} (h : y ≤ o) : ma_rc o p y = 0 := by simp [ma_rc, h]
theorem ma_rc_ge {o p y : Int} (hp : 0 < p) (h : o ≤ y) : ma_rc o p y = ma_ru (y - o) p := by
  unfold ma_rc
  split
  · rw [show y - o = 0 by omega, ma_ru_0 hp]
  · rfl
theorem ma_rc_be {o p y : Int} (hp : 0 < p) (h : ma_be o p y) : ma_rc o p (y + 1) = ma_rc o p y + 1 := by
  obtain ⟨h1, h2⟩ := h
  rw [ma_rc_ge hp h1, ma_rc_ge hp (by omega)]
  have h3 := Int.emod_add_mul_ediv (y - o) p
  rw [h2, Int.mul_comm] at h3
  generalize hq : (y - o) / p = q at h3
  have e1 : ma_ru (y - o) p = q := ma_div hp (by omega) (by omega)
  have e2 : ma_ru (y + 1 - o) p = q + 1 := ma_div hp (by rw [Int.add_mul, Int.one_mul]; omega) (by rw [Int.add_mul, Int.one_mul]; omega)
  rw [e1, e2]
theorem ma_rc_nb {o p y : Int} (hp : 0 < p) (h : ¬ ma_be o p y) : ma_rc o p (y + 1) = ma_rc o p y := by
  by_cases h1 : o ≤ y
  · have h2 : (y - o) % p ≠ 0 := fun z => h ⟨h1, z⟩
    rw [ma_rc_ge hp h1, ma_rc_ge hp (by omega)]
    have h3 := Int.emod_add_mul_ediv (y - o) p
    have h4 := Int.emod_nonneg (y - o) (Int.ne_of_gt hp)
    have h5 := Int.emod_lt_of_pos (y - o) hp
    rw [Int.mul_comm] at h3
    generalize hq : (y - o) / p = q at h3
    generalize (y - o) % p = r at h2 h3 h4 h5
    have e1 : ma_ru (y - o) p = q + 1 := ma_div hp (by rw [Int.add_mul, Int.one_mul]; omega) (by rw [Int.add_mul, Int.one_mul]; omega)
    have e2 : ma_ru (y + 1 - o) p = q + 1 := ma_div hp (by rw [Int.add_mul, Int.one_mul]; omega) (by rw [Int.add_mul, Int.one_mul]; omega)
    rw [e1, e2]
  · rw [ma_rc_le (by omega), ma_rc_le (by omega)]
/-- no window holds more instances than its length allows -/
theorem ma_rc_w {o p x y : Int} (hp : 0 < p) (h : x ≤ y) : ma_rc o p y - ma_rc o p x ≤ ma_ru (y - x) p := by
  by_cases h1 : y ≤ o
  · rw [ma_rc_le h1, ma_rc_le (by omega)]
    have := ma_ru_nn hp (show 0 ≤ y - x by omega)
    omega
  · rw [ma_rc_ge hp (show o ≤ y by omega)]
    have hw := ma_ru_b (r := y - x) hp
    by_cases h2 : x ≤ o
    · rw [ma_rc_le h2]
      have := ma_ru_mono hp (show y - o ≤ y - x by omega)
      omega
    · rw [ma_rc_ge hp (show o ≤ x by omega)]
      have hx := ma_ru_b (r := x - o) hp
      have : ma_ru (y - o) p ≤ ma_ru (x - o) p + ma_ru (y - x) p := ma_ru_le hp (by rw [Int.add_mul]; omega)
      omega
theorem ma_rc_mono {o p x y : Int} (hp : 0 < p) (h : x ≤ y) : ma_rc o p x ≤ ma_rc o p y := by
  by_cases h1 : x ≤ o
  · rw [ma_rc_le h1]
    unfold ma_rc
    split
    · exact Int.le_refl _
    · exact ma_ru_nn hp (by omega)
  · rw [ma_rc_ge hp (show o ≤ x by omega), ma_rc_ge hp (show o ≤ y by omega)]
    exact ma_ru_mono hp (by omega)
/-- the first instance at y or behind it -/
def ma_nx (o p y : Int) : Int := o + ma_rc o p y * p
theorem ma_rc_nn {o p y : Int} (hp : 0 < p) : 0 ≤ ma_rc o p y := by
  unfold ma_rc
  split
  · exact Int.le_refl _
  · exact ma_ru_nn hp (by omega)
theorem ma_nx_ge {o p y : Int} (hp : 0 < p) : y ≤ ma_nx o p y := by
  unfold ma_nx
  by_cases h : y ≤ o
  · rw [ma_rc_le h]; omega
  · rw [ma_rc_ge hp (by omega)]
    have := (ma_ru_b (r := y - o) hp).1
    omega
theorem ma_nx_lt {o p y : Int} (hp : 0 < p) (h : o ≤ y) : ma_nx o p y < y + p := by
  unfold ma_nx
  rw [ma_rc_ge hp h]
  have := (ma_ru_b (r := y - o) hp).2
  omega
theorem ma_nx_be {o p y : Int} (hp : 0 < p) : ma_be o p (ma_nx o p y) := by
  have h := ma_rc_nn (o := o) (y := y) hp
  have h2 : 0 ≤ ma_rc o p y * p := Int.mul_nonneg h (Int.le_of_lt hp)
  refine ⟨by unfold ma_nx; omega, ?_⟩
  rw [show ma_nx o p y - o = ma_rc o p y * p by unfold ma_nx; omega]
  exact Int.mul_emod_left _ _
theorem ma_be_nx {o p y : Int} (hp : 0 < p) (h : ma_be o p y) : ma_nx o p y = y := by
  obtain ⟨h1, h2⟩ := h
  unfold ma_nx
  rw [ma_rc_ge hp h1]
  have h3 := Int.emod_add_mul_ediv (y - o) p
  rw [h2, Int.mul_comm] at h3
  generalize hq : (y - o) / p = q at h3
  have e1 : ma_ru (y - o) p = q := ma_div hp (by omega) (by omega)
  rw [e1]
  omega
theorem ma_be_iff {o p y : Int} (hp : 0 < p) : ma_be o p y ↔ ma_nx o p y = y := ⟨ma_be_nx hp, fun h => by rw [← h]; exact ma_nx_be hp⟩
theorem ma_nx_s {o p y : Int} (hp : 0 < p) (h : ma_be o p y) : ma_nx o p (y + 1) = y + p := by
  have h1 := ma_be_nx hp h
  unfold ma_nx at h1 ⊢
  rw [ma_rc_be hp h, Int.add_mul, Int.one_mul]
  omega
theorem ma_nx_n {o p y : Int} (hp : 0 < p) (h : ¬ ma_be o p y) : ma_nx o p (y + 1) = ma_nx o p y := by
  unfold ma_nx
  rw [ma_rc_nb hp h]
theorem ma_nx_mono {o p x y : Int} (hp : 0 < p) (h : x ≤ y) : ma_nx o p x ≤ ma_nx o p y := by
  have h1 := Int.mul_le_mul_of_nonneg_right (ma_rc_mono (o := o) hp h) (Int.le_of_lt hp)
  unfold ma_nx
  omega
/-- the work of one task in a window from x on; 'to' is told for its next instance (0: nothing is told) -/
def ma_tm (o p c to x y : Int) : Int := (ma_rc o p y - ma_rc o p x) * c - (if 0 < to ∧ ma_nx o p x < y then c - to else 0)
theorem ma_tm_0 {o p c to x : Int} (hp : 0 < p) : ma_tm o p c to x x = 0 := by
  have h := ma_nx_ge (o := o) (y := x) hp
  unfold ma_tm
  rw [if_neg (by omega), Int.sub_self, Int.zero_mul]
  rfl
theorem ma_tm_b {o p c to x y : Int} (hp : 0 < p) (hx : x ≤ y) (h : ma_be o p y) : ma_tm o p c to x (y + 1) = ma_tm o p c to x y + (if 0 < to ∧ y = ma_nx o p x then to else c) := by
  have h1 := ma_nx_mono (o := o) hp hx
  rw [ma_be_nx hp h] at h1
  unfold ma_tm
  rw [ma_rc_be hp h, show ma_rc o p y + 1 - ma_rc o p x = ma_rc o p y - ma_rc o p x + 1 by omega, Int.add_mul, Int.one_mul]
  by_cases ht : 0 < to
  · by_cases e : y = ma_nx o p x
    · rw [if_pos ⟨ht, by omega⟩, if_neg (by omega), if_pos ⟨ht, e⟩]; omega
    · rw [if_pos ⟨ht, by omega⟩, if_pos ⟨ht, by omega⟩, if_neg (by omega)]; omega
  · rw [if_neg (by omega), if_neg (by omega), if_neg (by omega)]; omega
theorem ma_tm_n {o p c to x y : Int} (hp : 0 < p) (h : ¬ ma_be o p y) : ma_tm o p c to x (y + 1) = ma_tm o p c to x y := by
  have h1 : ma_nx o p x ≠ y := fun e => h (by rw [← e]; exact ma_nx_be hp)
  unfold ma_tm
  rw [ma_rc_nb hp h]
  by_cases ht : 0 < to ∧ ma_nx o p x < y
  · rw [if_pos ht, if_pos ⟨ht.1, by omega⟩]
  · rw [if_neg ht, if_neg (by omega)]
theorem ma_tm_sb {o p c to x y : Int} (hp : 0 < p) (hx : x < y) (h : ma_be o p x) : ma_tm o p c to x y = (if 0 < to then to else c) + ma_tm o p c 0 (x + 1) y := by
  unfold ma_tm
  rw [ma_be_nx hp h, ma_rc_be hp h, show ma_rc o p y - (ma_rc o p x + 1) = ma_rc o p y - ma_rc o p x - 1 by omega, Int.sub_mul _ 1 c, Int.one_mul]
  by_cases ht : 0 < to
  · rw [if_pos ⟨ht, hx⟩, if_pos ht, if_neg (by omega)]; omega
  · rw [if_neg (by omega), if_neg ht, if_neg (by omega)]; omega
theorem ma_tm_sn {o p c to x y : Int} (hp : 0 < p) (h : ¬ ma_be o p x) : ma_tm o p c to x y = ma_tm o p c to (x + 1) y := by
  unfold ma_tm
  rw [ma_nx_n hp h, ma_rc_nb hp h]
/-- behind x, from u on, never more than the window's instances at their full cost -/
theorem ma_tm_w {o p c to x u y : Int} (hp : 0 < p) (hc : 0 ≤ c) (ht : to ≤ c) (hu : u ≤ y) : ma_tm o p c to x y - ma_tm o p c to x u ≤ ma_ru (y - u) p * c := by
  have h1 := Int.mul_le_mul_of_nonneg_right (ma_rc_w (o := o) hp hu) hc
  unfold ma_tm
  rw [Int.sub_mul] at h1 ⊢
  rw [Int.sub_mul]
  by_cases e1 : 0 < to ∧ ma_nx o p x < y
  · rw [if_pos e1]
    split <;> omega
  · rw [if_neg e1]
    split <;> omega
end
section
/-! levels of priority: o p c d of a rank; to what is told for its next instance; pd what is still to be done -/
/-- the work of the ranks below k (0 .. k-1) that comes from x on before y -/
def ma_A (o p c to : Nat → Int) (x y : Int) (k : Nat) : Int := ma_su (fun j => ma_tm (o j) (p j) (c j) (to j) x y) k
/-- what the rank-levels' bound asks: the demand of the ranks above k in a window of r -/
def ma_f (p c : Nat → Int) (k : Nat) (r : Int) : Int := ma_su (fun j => ma_ru r (p j) * c j) k
theorem ma_A_w {o p c to : Nat → Int} {x u y : Int} {k : Nat} (hp : ∀ j, j < k → 0 < p j) (hc : ∀ j, j < k → 0 ≤ c j) (ht : ∀ j, j < k → to j ≤ c j) (hu : u ≤ y) : ma_A o p c to x y k - ma_A o p c to x u k ≤ ma_f p c k (y - u) := by
  have h1 : ma_A o p c to x y k ≤ ma_su (fun j => ma_tm (o j) (p j) (c j) (to j) x u + ma_ru (y - u) (p j) * c j) k :=
    ma_su_le (fun j hj => by have := ma_tm_w (o := o j) (x := x) (hp j hj) (hc j hj) (ht j hj) hu; omega)
  rw [ma_su_add] at h1
  unfold ma_A at h1 ⊢
  unfold ma_f
  omega
theorem ma_A_0 {o p c to : Nat → Int} {x : Int} {k : Nat} (hp : ∀ j, j < k → 0 < p j) : ma_A o p c to x x k = 0 := ma_su_0 (fun j hj => ma_tm_0 (hp j hj))
/-- a finite run of numbers has a greatest one -/
theorem ma_arg (g : Nat → Int) : ∀ n : Nat, ∃ i, i ≤ n ∧ ∀ j, j ≤ n → g j ≤ g i
  | 0 => ⟨0, Nat.le_refl _, fun j hj => by rw [show j = 0 by omega]; exact Int.le_refl _⟩
  | n + 1 => by
    obtain ⟨i, h1, h2⟩ := ma_arg g n
    by_cases h : g (n + 1) ≤ g i
    · exact ⟨i, by omega, fun j hj => by
        by_cases e : j = n + 1
        · rw [e]; exact h
        · exact h2 j (by omega)⟩
    · exact ⟨n + 1, Nat.le_refl _, fun j hj => by
        by_cases e : j = n + 1
        · rw [e]; exact Int.le_refl _
        · have := h2 j (by omega); omega⟩
/-- FROM AN EMPTY LEVEL the next instance is in time: rank k, at t nothing of the ranks up to k waits; Rk answers the admission's equation -/
theorem ma_zero {o p c to : Nat → Int} {x t : Int} {k : Nat} {Rk dk : Int} (hp : ∀ j, j ≤ k → 0 < p j) (hc : ∀ j, j ≤ k → 0 < c j) (ht : ∀ j, j ≤ k → to j ≤ c j)
    (hR : c k + ma_f p c k Rk ≤ Rk) (hRd : Rk ≤ dk) (hdp : dk ≤ p k) (hR0 : 0 ≤ Rk) :
    ∃ y, ma_nx (o k) (p k) t < y ∧ y ≤ ma_nx (o k) (p k) t + dk ∧ ma_A o p c to x y (k + 1) - ma_A o p c to x t (k + 1) ≤ y - t := by
  generalize ha : ma_nx (o k) (p k) t = a
  have hta : t ≤ a := by rw [← ha]; exact ma_nx_ge (hp k (by omega))
  obtain ⟨i, hi, hmax⟩ := ma_arg (fun i => (i : Int) - (ma_A o p c to x (t + i) k - ma_A o p c to x t k)) (a - t).toNat
  have h0 := hmax 0 (by omega)
  simp only [Int.natCast_zero, Int.add_zero, Int.sub_self] at h0
  have hw := ma_A_w (o := o) (p := p) (c := c) (to := to) (x := x) (u := t + i) (y := t + i + Rk) (k := k) (fun j hj => hp j (by omega)) (fun j hj => Int.le_of_lt (hc j (by omega))) (fun j hj => ht j (by omega)) (by omega)
  rw [show t + (i : Int) + Rk - (t + i) = Rk by omega] at hw
  have hck := hc k (by omega)
  have hxa : a < t + i + Rk := by
    by_cases h : a < t + i + Rk
    · exact h
    · exfalso
      have h1 := hmax (i + Rk.toNat) (by omega)
      rw [show t + ((i + Rk.toNat : Nat) : Int) = t + i + Rk by omega] at h1
      omega
  refine ⟨t + i + Rk, hxa, by omega, ?_⟩
  have own : ma_tm (o k) (p k) (c k) (to k) x (t + i + Rk) - ma_tm (o k) (p k) (c k) (to k) x t ≤ c k := by
    have hpk := hp k (by omega)
    have e1 : ma_rc (o k) (p k) (t + i + Rk) ≤ ma_rc (o k) (p k) t + 1 := by
      have h1 := ma_rc_mono (o := o k) hpk (show t + i + Rk ≤ a + p k by omega)
      have h2 : ma_rc (o k) (p k) (a + p k) = ma_rc (o k) (p k) t + 1 := by
        have hb : ma_be (o k) (p k) a := by rw [← ha]; exact ma_nx_be hpk
        rw [ma_rc_ge hpk (by have := hb.1; omega)]
        have e : a + p k - o k = (ma_rc (o k) (p k) t + 1) * p k := by rw [← ha, Int.add_mul, Int.one_mul]; unfold ma_nx; omega
        rw [e]
        exact ma_div hpk (by omega) (by omega)
      omega
    have e2 := Int.mul_le_mul_of_nonneg_right (show ma_rc (o k) (p k) (t + i + Rk) - ma_rc (o k) (p k) t ≤ 1 by omega) (Int.le_of_lt hck)
    rw [Int.sub_mul, Int.one_mul] at e2
    have htk := ht k (by omega)
    unfold ma_tm
    rw [Int.sub_mul, Int.sub_mul]
    by_cases q1 : 0 < to k ∧ ma_nx (o k) (p k) x < t
    · rw [if_pos q1, if_pos ⟨q1.1, by omega⟩]; omega
    · rw [if_neg q1]
      split <;> omega
  have e3 : ∀ y, ma_A o p c to x y (k + 1) = ma_A o p c to x y k + ma_tm (o k) (p k) (c k) (to k) x y := fun y => rfl
  rw [e3, e3]
  omega
/-- the workload's reflection: a level's backlog b and its idle ticks i, by the work a that comes -/
def ma_b (P : Int) (a : Nat → Int) : Nat → Int
  | 0 => P
  | n + 1 => if ma_b P a n + a n = 0 then 0 else ma_b P a n + a n - 1
def ma_i (P : Int) (a : Nat → Int) : Nat → Int
  | 0 => 0
  | n + 1 => if ma_b P a n + a n = 0 then ma_i P a n + 1 else ma_i P a n
def ma_m (P : Int) (a : Nat → Int) : Nat → Int
  | 0 => -P
  | n + 1 => if ma_m P a n < (n + 1 : Nat) - P - ma_su a (n + 1) then (n + 1 : Nat) - P - ma_su a (n + 1) else ma_m P a n
theorem ma_b_nn {P : Int} {a : Nat → Int} (hP : 0 ≤ P) (ha : ∀ n, 0 ≤ a n) : ∀ n, 0 ≤ ma_b P a n
  | 0 => hP
  | n + 1 => by
    have h1 := ma_b_nn hP ha n
    have h2 := ha n
    simp only [ma_b]
    split <;> omega
theorem ma_bi {P : Int} {a : Nat → Int} : ∀ n : Nat, ma_i P a n = n - P - ma_su a n + ma_b P a n
  | 0 => by simp [ma_i, ma_b, ma_su]; omega
  | n + 1 => by
    have h := ma_bi (P := P) (a := a) n
    simp only [ma_i, ma_b, ma_su]
    split <;> omega
theorem ma_m_s (P : Int) (a : Nat → Int) (n : Nat) : (ma_m P a n < (n + 1 : Nat) - P - ma_su a (n + 1) ∧ ma_m P a (n + 1) = (n + 1 : Nat) - P - ma_su a (n + 1)) ∨ ((n + 1 : Nat) - P - ma_su a (n + 1) ≤ ma_m P a n ∧ ma_m P a (n + 1) = ma_m P a n) := by
  by_cases c : ma_m P a n < (n + 1 : Nat) - P - ma_su a (n + 1)
  · exact Or.inl ⟨c, by rw [ma_m, if_pos c]⟩
  · exact Or.inr ⟨by omega, by rw [ma_m, if_neg c]⟩
theorem ma_b_s (P : Int) (a : Nat → Int) (n : Nat) : (ma_b P a n + a n = 0 ∧ ma_b P a (n + 1) = 0 ∧ ma_i P a (n + 1) = ma_i P a n + 1) ∨ (ma_b P a n + a n ≠ 0 ∧ ma_b P a (n + 1) = ma_b P a n + a n - 1 ∧ ma_i P a (n + 1) = ma_i P a n) := by
  by_cases c : ma_b P a n + a n = 0
  · exact Or.inl ⟨c, by rw [ma_b, if_pos c], by rw [ma_i, if_pos c]⟩
  · exact Or.inr ⟨c, by rw [ma_b, if_neg c], by rw [ma_i, if_neg c]⟩
theorem ma_im {P : Int} {a : Nat → Int} (hP : 0 ≤ P) (ha : ∀ n, 0 ≤ a n) : ∀ n : Nat, (ma_i P a n = 0 ∧ ma_m P a n < 0) ∨ (ma_i P a n = ma_m P a n ∧ 0 ≤ ma_m P a n)
  | 0 => by
    have h1 : ma_i P a 0 = 0 := rfl
    have h2 : ma_m P a 0 = -P := rfl
    omega
  | n + 1 => by
    have h := ma_im hP ha n
    have h1 := ma_bi (P := P) (a := a) (n + 1)
    have h3 := ma_bi (P := P) (a := a) n
    have h4 := ma_b_nn hP ha n
    have h7 := ma_b_nn hP ha (n + 1)
    have h5 := ha n
    have h8 := ma_m_s P a n
    have h9 := ma_b_s P a n
    have h10 : ma_su a (n + 1) = ma_su a n + a n := rfl
    omega
theorem ma_i_mono {P : Int} {a : Nat → Int} {m n : Nat} (h : m ≤ n) : ma_i P a m ≤ ma_i P a n := by
  induction n with
  | zero => rw [show m = 0 by omega]; exact Int.le_refl _
  | succ n ih =>
    by_cases e : m = n + 1
    · rw [e]; exact Int.le_refl _
    · have h1 := ih (by omega)
      simp only [ma_i]
      split <;> omega
end
section
/-! the budget's two rules: how much of it a window can hold. u m: what was taken at the moment m -/
theorem ma_su_s (u : Nat → Int) {x y : Nat} (hu : ∀ m, 0 ≤ u m) (h : x ≤ y) : ma_su u x ≤ ma_su u y := ma_su_mono h (fun j _ => hu j)
theorem ma_su_1 (u : Nat → Int) (hu : ∀ m, u m ≤ 1) : ∀ n x : Nat, ma_su u (x + n) - ma_su u x ≤ n
  | 0, x => by simp
  | n + 1, x => by
    have h1 := ma_su_1 u hu n x
    have h2 := hu (x + n)
    rw [show x + (n + 1) = (x + n) + 1 by omega]
    simp only [ma_su]
    omega
/-- pieces of p ticks, each with at most b -/
theorem ma_pc {u : Nat → Int} {b : Int} {p N : Nat} (hp : 0 < p) (hb : 0 ≤ b) (hu : ∀ m, 0 ≤ u m) : ∀ (q s n : Nat), n ≤ q * p → s + n ≤ N → (∀ j, j < q → ∀ z, z ≤ p → s + j * p + z ≤ N → ma_su u (s + j * p + z) - ma_su u (s + j * p) ≤ b) → ma_su u (s + n) - ma_su u s ≤ q * b
  | 0, s, n, hn, _, _ => by
    rw [show n = 0 by omega]
    simp
  | q + 1, s, n, hn, hN, h => by
    by_cases hs : n ≤ q * p
    · have h1 := ma_pc hp hb hu q s n hs hN (fun j hj => h j (by omega))
      rw [Int.natCast_add, Int.add_mul]
      omega
    · have h1 := ma_pc hp hb hu q s (q * p) (Nat.le_refl _) (by omega) (fun j hj => h j (by omega))
      have h2 := h q (by omega) (n - q * p) (by rw [Nat.add_mul] at hn; omega) (by omega)
      rw [show s + q * p + (n - q * p) = s + n by omega] at h2
      rw [Int.natCast_add, Int.add_mul]
      omega
theorem ma_ru_nat {n p : Nat} (hp : 0 < p) : ∃ q : Nat, ma_ru n p = q ∧ n ≤ q * p := by
  have h0 := ma_ru_nn (r := (n : Int)) (p := (p : Int)) (by omega) (by omega)
  have h1 := ma_ru_b (r := (n : Int)) (p := (p : Int)) (by omega)
  obtain ⟨q, hq⟩ := Int.eq_ofNat_of_zero_le h0
  refine ⟨q, hq, ?_⟩
  rw [hq] at h1
  have := h1.1
  exact_mod_cast this
/-- a sporadic budget: what is taken comes back p later -/
theorem ma_spo {u : Nat → Int} {b : Int} {p N : Nat} (hp : 0 < p) (hb : 0 ≤ b) (hu : ∀ m, 0 ≤ u m) (h : ∀ y, y ≤ N → ma_su u y - ma_su u (y - p) ≤ b) (x r : Nat) (hx : x + r ≤ N) : ma_su u (x + r) - ma_su u x ≤ ma_ru r p * b := by
  obtain ⟨q, hq, hn⟩ := ma_ru_nat (n := r) hp
  rw [hq]
  refine ma_pc hp hb hu q x r hn hx (fun j _ z hz hN => ?_)
  have h1 := h (x + j * p + z) hN
  have h2 := ma_su_s u hu (show x + j * p + z - p ≤ x + j * p by omega)
  omega
/-- a budget that is filled up at the multiples of p -/
theorem ma_def {u : Nat → Int} {b p N : Nat} (hp : 0 < p) (hbp : b ≤ p) (hu : ∀ m, 0 ≤ u m) (hu1 : ∀ m, u m ≤ 1) (h : ∀ j z, z ≤ p → j * p + z ≤ N → ma_su u (j * p + z) - ma_su u (j * p) ≤ b) (x r : Nat) (hx : x + r ≤ N) :
    ma_su u (x + r) - ma_su u x ≤ (1 + ma_ru ((r - b : Nat) : Int) p) * b := by
  obtain ⟨q, hq, hn⟩ := ma_ru_nat (n := r - b) hp
  rw [hq, Int.add_mul, Int.one_mul]
  have hqb : (0 : Int) ≤ (q : Int) * b := Int.mul_nonneg (by omega) (by omega)
  -- the block in which x lies, and the first multiple at x or behind it
  have hd := Nat.div_add_mod x p
  have hm := Nat.mod_lt x hp
  rw [Nat.mul_comm] at hd
  generalize x / p = i at hd
  generalize x % p = w at hd hm
  by_cases hw : w = 0
  · -- x is itself a multiple
    subst hw
    by_cases hr : r ≤ b + q * p
    · by_cases hr2 : r ≤ q * p
      · have h1 := ma_pc (N := N) hp (b := (b : Int)) (by omega) hu q x r hr2 hx (fun j _ z hz hN => by
          have h2 := h (i + j) z hz (by rw [Nat.add_mul]; omega)
          rw [Nat.add_mul, show i * p + j * p = x + j * p by omega] at h2
          exact h2)
        omega
      · have h1 := ma_pc (N := N) hp (b := (b : Int)) (by omega) hu q x (q * p) (Nat.le_refl _) (by omega) (fun j _ z hz hN => by
          have h2 := h (i + j) z hz (by rw [Nat.add_mul]; omega)
          rw [Nat.add_mul, show i * p + j * p = x + j * p by omega] at h2
          exact h2)
        have h3 := ma_su_1 u hu1 (r - q * p) (x + q * p)
        rw [show x + q * p + (r - q * p) = x + r by omega] at h3
        omega
    · omega
  · have hx1 : x = i * p + w := by omega
    have e1 : (i + 1) * p = i * p + p := by rw [Nat.add_mul, Nat.one_mul]
    -- e ticks up to the next multiple
    by_cases hre : r ≤ p - w
    · have h1 := h i (w + r) (by omega) (by omega)
      have h2 := ma_su_s u hu (show i * p ≤ x by omega)
      rw [show i * p + (w + r) = x + r by omega] at h1
      omega
    · have hs : x + (p - w) = (i + 1) * p := by omega
      have f1 := h i p (Nat.le_refl _) (by omega)
      have f2 := ma_su_s u hu (show i * p ≤ x by omega)
      have f3 := ma_su_1 u hu1 (p - w) x
      rw [show i * p + p = x + (p - w) by omega] at f1
      have blocks : ∀ n, n ≤ q * p → x + (p - w) + n ≤ N → ma_su u (x + (p - w) + n) - ma_su u (x + (p - w)) ≤ q * b := fun n hn hN =>
        ma_pc (N := N) hp (b := (b : Int)) (by omega) hu q (x + (p - w)) n hn hN (fun j _ z hz hN => by
          have h2 := h (i + 1 + j) z hz (by rw [Nat.add_mul]; omega)
          rw [Nat.add_mul, ← hs] at h2
          exact h2)
      by_cases hr2 : r - (p - w) ≤ q * p
      · have h1 := blocks (r - (p - w)) hr2 (by omega)
        rw [show x + (p - w) + (r - (p - w)) = x + r by omega] at h1
        omega
      · have h1 := blocks (q * p) (Nat.le_refl _) (by omega)
        have h3 := ma_su_1 u hu1 (r - (p - w) - q * p) (x + (p - w) + q * p)
        rw [show x + (p - w) + q * p + (r - (p - w) - q * p) = x + r by omega] at h3
        omega
end
section
/-! names, printed by program (wip/whole/gen_names.py): classes, their fields, the words -/
abbrev R_SD : String := "ServerDesk"
def F_SD : u_T := fun k => match k with
  | 0 => ("ServerDesk", "tasks", "LServerDesk$TaskSet;", true)
  | 1 => ("ServerDesk", "rules", "LServerDesk$RuleBook;", true)
  | 2 => ("ServerDesk", "jobs", "LServerDesk$JobLog;", true)
  | 3 => ("ServerDesk", "earlyOnes", "LServerDesk$EarlyLog;", true)
  | 4 => ("ServerDesk", "meter", "LServerDesk$SlackMeter;", true)
  | 5 => ("ServerDesk", "live", "LServerDesk$Course;", true)
  | 6 => ("ServerDesk", "referee", "LServerDesk$Referee;", true)
  | 7 => ("ServerDesk", "runners", "[I", true)
  | 8 => ("ServerDesk", "started", "Z", false)
  | _ => ("ServerDesk", "now", "I", false)
def t_SD : Nat → FieldType := fun k => match k with
  | 0 => .object "ServerDesk$TaskSet"
  | 1 => .object "ServerDesk$RuleBook"
  | 2 => .object "ServerDesk$JobLog"
  | 3 => .object "ServerDesk$EarlyLog"
  | 4 => .object "ServerDesk$SlackMeter"
  | 5 => .object "ServerDesk$Course"
  | 6 => .object "ServerDesk$Referee"
  | 7 => .array .int
  | 8 => .boolean
  | _ => .int
theorem n_SD : ∀ a, a < 10 → ∀ b, b < 10 → a ≠ b → (F_SD a).2.1 ≠ (F_SD b).2.1 := by decide +kernel
theorem t_SD_ok : ∀ k, k < 10 → parseFieldDescriptor (F_SD k).2.2.1 = some (t_SD k) := by decide +kernel
abbrev R_TS : String := "ServerDesk$TaskSet"
def F_TS : u_T := fun k => match k with
  | 0 => ("ServerDesk$TaskSet", "period", "[I", true)
  | 1 => ("ServerDesk$TaskSet", "offset", "[I", true)
  | 2 => ("ServerDesk$TaskSet", "cost", "[I", true)
  | 3 => ("ServerDesk$TaskSet", "deadline", "[I", true)
  | 4 => ("ServerDesk$TaskSet", "atRank", "[I", true)
  | 5 => ("ServerDesk$TaskSet", "count", "I", false)
  | _ => ("ServerDesk$TaskSet", "hyperperiod", "I", false)
def t_TS : Nat → FieldType := fun k => match k with
  | 0 => .array .int
  | 1 => .array .int
  | 2 => .array .int
  | 3 => .array .int
  | 4 => .array .int
  | 5 => .int
  | _ => .int
theorem n_TS : ∀ a, a < 7 → ∀ b, b < 7 → a ≠ b → (F_TS a).2.1 ≠ (F_TS b).2.1 := by decide +kernel
theorem t_TS_ok : ∀ k, k < 7 → parseFieldDescriptor (F_TS k).2.2.1 = some (t_TS k) := by decide +kernel
abbrev R_RB : String := "ServerDesk$RuleBook"
def F_RB : u_T := fun k => match k with
  | 0 => ("ServerDesk$RuleBook", "budget", "[I", true)
  | 1 => ("ServerDesk$RuleBook", "period", "[I", true)
  | _ => ("ServerDesk$RuleBook", "current", "I", false)
def t_RB : Nat → FieldType := fun k => match k with
  | 0 => .array .int
  | 1 => .array .int
  | _ => .int
theorem n_RB : ∀ a, a < 3 → ∀ b, b < 3 → a ≠ b → (F_RB a).2.1 ≠ (F_RB b).2.1 := by decide +kernel
theorem t_RB_ok : ∀ k, k < 3 → parseFieldDescriptor (F_RB k).2.2.1 = some (t_RB k) := by decide +kernel
abbrev R_JL : String := "ServerDesk$JobLog"
def F_JL : u_T := fun k => match k with
  | 0 => ("ServerDesk$JobLog", "arrival", "[I", true)
  | 1 => ("ServerDesk$JobLog", "cost", "[I", true)
  | 2 => ("ServerDesk$JobLog", "isHard", "[Z", true)
  | _ => ("ServerDesk$JobLog", "count", "I", false)
def t_JL : Nat → FieldType := fun k => match k with
  | 0 => .array .int
  | 1 => .array .int
  | 2 => .array .boolean
  | _ => .int
theorem n_JL : ∀ a, a < 4 → ∀ b, b < 4 → a ≠ b → (F_JL a).2.1 ≠ (F_JL b).2.1 := by decide +kernel
theorem t_JL_ok : ∀ k, k < 4 → parseFieldDescriptor (F_JL k).2.2.1 = some (t_JL k) := by decide +kernel
abbrev R_EL : String := "ServerDesk$EarlyLog"
def F_EL : u_T := fun k => match k with
  | 0 => ("ServerDesk$EarlyLog", "moment", "[I", true)
  | 1 => ("ServerDesk$EarlyLog", "task", "[I", true)
  | 2 => ("ServerDesk$EarlyLog", "ticks", "[I", true)
  | _ => ("ServerDesk$EarlyLog", "count", "I", false)
def t_EL : Nat → FieldType := fun k => match k with
  | 0 => .array .int
  | 1 => .array .int
  | 2 => .array .int
  | _ => .int
theorem n_EL : ∀ a, a < 4 → ∀ b, b < 4 → a ≠ b → (F_EL a).2.1 ≠ (F_EL b).2.1 := by decide +kernel
theorem t_EL_ok : ∀ k, k < 4 → parseFieldDescriptor (F_EL k).2.2.1 = some (t_EL k) := by decide +kernel
abbrev R_LO : String := "ServerDesk$Load"
def F_LO : u_T := fun k => match k with
  | 0 => ("ServerDesk$Load", "tasks", "LServerDesk$TaskSet;", true)
  | 1 => ("ServerDesk$Load", "nextReady", "[I", true)
  | 2 => ("ServerDesk$Load", "nextNeed", "[I", true)
  | 3 => ("ServerDesk$Load", "need", "[I", true)
  | _ => ("ServerDesk$Load", "due", "[I", true)
def t_LO : Nat → FieldType := fun k => match k with
  | 0 => .object "ServerDesk$TaskSet"
  | 1 => .array .int
  | 2 => .array .int
  | 3 => .array .int
  | _ => .array .int
theorem n_LO : ∀ a, a < 5 → ∀ b, b < 5 → a ≠ b → (F_LO a).2.1 ≠ (F_LO b).2.1 := by decide +kernel
theorem t_LO_ok : ∀ k, k < 5 → parseFieldDescriptor (F_LO k).2.2.1 = some (t_LO k) := by decide +kernel
abbrev R_SM : String := "ServerDesk$SlackMeter"
def F_SM : u_T := fun k => match k with
  | 0 => ("ServerDesk$SlackMeter", "tasks", "LServerDesk$TaskSet;", true)
  | 1 => ("ServerDesk$SlackMeter", "ahead", "LServerDesk$Load;", true)
  | 2 => ("ServerDesk$SlackMeter", "free", "[I", true)
  | _ => ("ServerDesk$SlackMeter", "until", "[I", true)
def t_SM : Nat → FieldType := fun k => match k with
  | 0 => .object "ServerDesk$TaskSet"
  | 1 => .object "ServerDesk$Load"
  | 2 => .array .int
  | _ => .array .int
theorem n_SM : ∀ a, a < 4 → ∀ b, b < 4 → a ≠ b → (F_SM a).2.1 ≠ (F_SM b).2.1 := by decide +kernel
theorem t_SM_ok : ∀ k, k < 4 → parseFieldDescriptor (F_SM k).2.2.1 = some (t_SM k) := by decide +kernel
abbrev R_BU : String := "ServerDesk$Budget"
def F_BU : u_T := fun k => match k with
  | 0 => ("ServerDesk$Budget", "used", "[I", true)
  | 1 => ("ServerDesk$Budget", "kind", "I", false)
  | 2 => ("ServerDesk$Budget", "full", "I", false)
  | 3 => ("ServerDesk$Budget", "period", "I", false)
  | _ => ("ServerDesk$Budget", "left", "I", false)
def t_BU : Nat → FieldType := fun k => match k with
  | 0 => .array .int
  | 1 => .int
  | 2 => .int
  | 3 => .int
  | _ => .int
theorem n_BU : ∀ a, a < 5 → ∀ b, b < 5 → a ≠ b → (F_BU a).2.1 ≠ (F_BU b).2.1 := by decide +kernel
theorem t_BU_ok : ∀ k, k < 5 → parseFieldDescriptor (F_BU k).2.2.1 = some (t_BU k) := by decide +kernel
abbrev R_QU : String := "ServerDesk$Queue"
def F_QU : u_T := fun k => match k with
  | 0 => ("ServerDesk$Queue", "log", "LServerDesk$JobLog;", true)
  | 1 => ("ServerDesk$Queue", "need", "[I", true)
  | 2 => ("ServerDesk$Queue", "end", "[I", true)
  | 3 => ("ServerDesk$Queue", "arrived", "I", false)
  | _ => ("ServerDesk$Queue", "waiting", "I", false)
def t_QU : Nat → FieldType := fun k => match k with
  | 0 => .object "ServerDesk$JobLog"
  | 1 => .array .int
  | 2 => .array .int
  | 3 => .int
  | _ => .int
theorem n_QU : ∀ a, a < 5 → ∀ b, b < 5 → a ≠ b → (F_QU a).2.1 ≠ (F_QU b).2.1 := by decide +kernel
theorem t_QU_ok : ∀ k, k < 5 → parseFieldDescriptor (F_QU k).2.2.1 = some (t_QU k) := by decide +kernel
abbrev R_CO : String := "ServerDesk$Course"
def F_CO : u_T := fun k => match k with
  | 0 => ("ServerDesk$Course", "tasks", "LServerDesk$TaskSet;", true)
  | 1 => ("ServerDesk$Course", "meter", "LServerDesk$SlackMeter;", true)
  | 2 => ("ServerDesk$Course", "load", "LServerDesk$Load;", true)
  | 3 => ("ServerDesk$Course", "queue", "LServerDesk$Queue;", true)
  | 4 => ("ServerDesk$Course", "budget", "LServerDesk$Budget;", true)
  | 5 => ("ServerDesk$Course", "kind", "I", false)
  | _ => ("ServerDesk$Course", "late", "I", false)
def t_CO : Nat → FieldType := fun k => match k with
  | 0 => .object "ServerDesk$TaskSet"
  | 1 => .object "ServerDesk$SlackMeter"
  | 2 => .object "ServerDesk$Load"
  | 3 => .object "ServerDesk$Queue"
  | 4 => .object "ServerDesk$Budget"
  | 5 => .int
  | _ => .int
theorem n_CO : ∀ a, a < 7 → ∀ b, b < 7 → a ≠ b → (F_CO a).2.1 ≠ (F_CO b).2.1 := by decide +kernel
theorem t_CO_ok : ∀ k, k < 7 → parseFieldDescriptor (F_CO k).2.2.1 = some (t_CO k) := by decide +kernel
abbrev R_RF : String := "ServerDesk$Referee"
def F_RF : u_T := fun k => match k with
  | 0 => ("ServerDesk$Referee", "course", "LServerDesk$Course;", true)
  | 1 => ("ServerDesk$Referee", "jobs", "LServerDesk$JobLog;", true)
  | 2 => ("ServerDesk$Referee", "earlyOnes", "LServerDesk$EarlyLog;", true)
  | 3 => ("ServerDesk$Referee", "endedJobs", "I", false)
  | 4 => ("ServerDesk$Referee", "sameTicks", "I", false)
  | _ => ("ServerDesk$Referee", "late", "I", false)
def t_RF : Nat → FieldType := fun k => match k with
  | 0 => .object "ServerDesk$Course"
  | 1 => .object "ServerDesk$JobLog"
  | 2 => .object "ServerDesk$EarlyLog"
  | 3 => .int
  | 4 => .int
  | _ => .int
theorem n_RF : ∀ a, a < 6 → ∀ b, b < 6 → a ≠ b → (F_RF a).2.1 ≠ (F_RF b).2.1 := by decide +kernel
theorem t_RF_ok : ∀ k, k < 6 → parseFieldDescriptor (F_RF k).2.2.1 = some (t_RF k) := by decide +kernel
abbrev R_MO : String := "ServerDeskModel"
def F_MO : u_T := fun k => match k with
  | 0 => ("ServerDeskModel", "code", "I", false)
  | 1 => ("ServerDeskModel", "tasks", "I", false)
  | 2 => ("ServerDeskModel", "period", "[I", true)
  | 3 => ("ServerDeskModel", "offset", "[I", true)
  | 4 => ("ServerDeskModel", "cost", "[I", true)
  | 5 => ("ServerDeskModel", "deadline", "[I", true)
  | 6 => ("ServerDeskModel", "order", "[I", true)
  | 7 => ("ServerDeskModel", "rule", "I", false)
  | 8 => ("ServerDeskModel", "budget", "[I", true)
  | 9 => ("ServerDeskModel", "turn", "[I", true)
  | 10 => ("ServerDeskModel", "started", "Z", false)
  | 11 => ("ServerDeskModel", "jobs", "I", false)
  | 12 => ("ServerDeskModel", "jobCost", "[I", true)
  | 13 => ("ServerDeskModel", "jobAt", "[I", true)
  | 14 => ("ServerDeskModel", "jobHard", "[Z", true)
  | 15 => ("ServerDeskModel", "earlies", "I", false)
  | 16 => ("ServerDeskModel", "earlyTask", "[I", true)
  | 17 => ("ServerDeskModel", "earlyTicks", "[I", true)
  | 18 => ("ServerDeskModel", "earlyAt", "[I", true)
  | 19 => ("ServerDeskModel", "now", "I", false)
  | 20 => ("ServerDeskModel", "by", "I", false)
  | 21 => ("ServerDeskModel", "pending", "[I", true)
  | 22 => ("ServerDeskModel", "due", "[I", true)
  | 23 => ("ServerDeskModel", "told", "[I", true)
  | 24 => ("ServerDeskModel", "left", "I", false)
  | 25 => ("ServerDeskModel", "used", "[I", true)
  | 26 => ("ServerDeskModel", "known", "I", false)
  | 27 => ("ServerDeskModel", "needs", "[I", true)
  | 28 => ("ServerDeskModel", "ends", "[I", true)
  | 29 => ("ServerDeskModel", "late", "I", false)
  | 30 => ("ServerDeskModel", "trace", "[I", true)
  | 31 => ("ServerDeskModel", "keptNow", "I", false)
  | 32 => ("ServerDeskModel", "keptBy", "I", false)
  | 33 => ("ServerDeskModel", "keptLeft", "I", false)
  | 34 => ("ServerDeskModel", "keptKnown", "I", false)
  | 35 => ("ServerDeskModel", "keptLate", "I", false)
  | 36 => ("ServerDeskModel", "keptPending", "[I", true)
  | 37 => ("ServerDeskModel", "keptDue", "[I", true)
  | 38 => ("ServerDeskModel", "keptTold", "[I", true)
  | 39 => ("ServerDeskModel", "keptUsed", "[I", true)
  | 40 => ("ServerDeskModel", "keptNeeds", "[I", true)
  | 41 => ("ServerDeskModel", "keptEnds", "[I", true)
  | 42 => ("ServerDeskModel", "keptTrace", "[I", true)
  | 43 => ("ServerDeskModel", "replayEnded", "I", false)
  | 44 => ("ServerDeskModel", "replaySame", "I", false)
  | _ => ("ServerDeskModel", "replayLate", "I", false)
def t_MO : Nat → FieldType := fun k => match k with
  | 0 => .int
  | 1 => .int
  | 2 => .array .int
  | 3 => .array .int
  | 4 => .array .int
  | 5 => .array .int
  | 6 => .array .int
  | 7 => .int
  | 8 => .array .int
  | 9 => .array .int
  | 10 => .boolean
  | 11 => .int
  | 12 => .array .int
  | 13 => .array .int
  | 14 => .array .boolean
  | 15 => .int
  | 16 => .array .int
  | 17 => .array .int
  | 18 => .array .int
  | 19 => .int
  | 20 => .int
  | 21 => .array .int
  | 22 => .array .int
  | 23 => .array .int
  | 24 => .int
  | 25 => .array .int
  | 26 => .int
  | 27 => .array .int
  | 28 => .array .int
  | 29 => .int
  | 30 => .array .int
  | 31 => .int
  | 32 => .int
  | 33 => .int
  | 34 => .int
  | 35 => .int
  | 36 => .array .int
  | 37 => .array .int
  | 38 => .array .int
  | 39 => .array .int
  | 40 => .array .int
  | 41 => .array .int
  | 42 => .array .int
  | 43 => .int
  | 44 => .int
  | _ => .int
theorem n_MO : ∀ a, a < 46 → ∀ b, b < 46 → a ≠ b → (F_MO a).2.1 ≠ (F_MO b).2.1 := by decide +kernel
theorem t_MO_ok : ∀ k, k < 46 → parseFieldDescriptor (F_MO k).2.2.1 = some (t_MO k) := by decide +kernel
abbrev vw_cl : List vw_C := [(R_SD, F_SD, 10), (R_TS, F_TS, 7), (R_RB, F_RB, 3), (R_JL, F_JL, 4), (R_EL, F_EL, 4), (R_LO, F_LO, 5), (R_SM, F_SM, 4), (R_BU, F_BU, 5), (R_QU, F_QU, 5), (R_CO, F_CO, 7), (R_RF, F_RF, 6), (R_MO, F_MO, 46)]
/-- all words that stay -/
def vw_W : List Jvm.Cond := lw_tbl.filter goodWord
theorem vw_t {w : Jvm.Cond} (i : Nat) (h : tables_1[i]? = some w) (g : goodWord w = true) : w ∈ vw_W := List.mem_filter.mpr ⟨List.mem_append_right _ (List.mem_of_getElem? h), g⟩
theorem vw_s {w : Jvm.Cond} (i : Nat) (h : (k2_sels lw_privs)[i]? = some w) (g : goodWord w = true) : w ∈ vw_W := List.mem_filter.mpr ⟨List.mem_append_left _ (List.mem_of_getElem? h), g⟩
theorem u_SD : ∀ w ∈ u_ws R_SD F_SD 10, w ∈ vw_W := by
  have h : ∀ w ∈ ([.laysFinal "ServerDesk" "ServerDesk" "tasks" "LServerDesk$TaskSet;", .laysFinal "ServerDesk" "ServerDesk" "rules" "LServerDesk$RuleBook;", .laysFinal "ServerDesk" "ServerDesk" "jobs" "LServerDesk$JobLog;", .laysFinal "ServerDesk" "ServerDesk" "earlyOnes" "LServerDesk$EarlyLog;", .laysFinal "ServerDesk" "ServerDesk" "meter" "LServerDesk$SlackMeter;", .laysFinal "ServerDesk" "ServerDesk" "live" "LServerDesk$Course;", .laysFinal "ServerDesk" "ServerDesk" "referee" "LServerDesk$Referee;", .laysFinal "ServerDesk" "ServerDesk" "runners" "[I", .lays "ServerDesk" "ServerDesk" "started" "Z", .lays "ServerDesk" "ServerDesk" "now" "I"] : List Jvm.Cond), w ∈ vw_W := List.forall_mem_cons.mpr ⟨vw_t 318 (by decide +kernel) (by decide +kernel), List.forall_mem_cons.mpr ⟨vw_t 320 (by decide +kernel) (by decide +kernel), List.forall_mem_cons.mpr ⟨vw_t 322 (by decide +kernel) (by decide +kernel), List.forall_mem_cons.mpr ⟨vw_t 324 (by decide +kernel) (by decide +kernel), List.forall_mem_cons.mpr ⟨vw_t 326 (by decide +kernel) (by decide +kernel), List.forall_mem_cons.mpr ⟨vw_t 328 (by decide +kernel) (by decide +kernel), List.forall_mem_cons.mpr ⟨vw_t 330 (by decide +kernel) (by decide +kernel), List.forall_mem_cons.mpr ⟨vw_t 332 (by decide +kernel) (by decide +kernel), List.forall_mem_cons.mpr ⟨vw_t 334 (by decide +kernel) (by decide +kernel), List.forall_mem_cons.mpr ⟨vw_t 336 (by decide +kernel) (by decide +kernel), fun _ h => absurd h List.not_mem_nil⟩⟩⟩⟩⟩⟩⟩⟩⟩⟩
  exact h
theorem u_TS : ∀ w ∈ u_ws R_TS F_TS 7, w ∈ vw_W := by
  have h : ∀ w ∈ ([.laysFinal "ServerDesk$TaskSet" "ServerDesk$TaskSet" "period" "[I", .laysFinal "ServerDesk$TaskSet" "ServerDesk$TaskSet" "offset" "[I", .laysFinal "ServerDesk$TaskSet" "ServerDesk$TaskSet" "cost" "[I", .laysFinal "ServerDesk$TaskSet" "ServerDesk$TaskSet" "deadline" "[I", .laysFinal "ServerDesk$TaskSet" "ServerDesk$TaskSet" "atRank" "[I", .lays "ServerDesk$TaskSet" "ServerDesk$TaskSet" "count" "I", .lays "ServerDesk$TaskSet" "ServerDesk$TaskSet" "hyperperiod" "I"] : List Jvm.Cond), w ∈ vw_W := List.forall_mem_cons.mpr ⟨vw_t 58 (by decide +kernel) (by decide +kernel), List.forall_mem_cons.mpr ⟨vw_t 60 (by decide +kernel) (by decide +kernel), List.forall_mem_cons.mpr ⟨vw_t 62 (by decide +kernel) (by decide +kernel), List.forall_mem_cons.mpr ⟨vw_t 64 (by decide +kernel) (by decide +kernel), List.forall_mem_cons.mpr ⟨vw_t 66 (by decide +kernel) (by decide +kernel), List.forall_mem_cons.mpr ⟨vw_t 68 (by decide +kernel) (by decide +kernel), List.forall_mem_cons.mpr ⟨vw_t 70 (by decide +kernel) (by decide +kernel), fun _ h => absurd h List.not_mem_nil⟩⟩⟩⟩⟩⟩⟩
  exact h
theorem u_RB : ∀ w ∈ u_ws R_RB F_RB 3, w ∈ vw_W := by
  have h : ∀ w ∈ ([.laysFinal "ServerDesk$RuleBook" "ServerDesk$RuleBook" "budget" "[I", .laysFinal "ServerDesk$RuleBook" "ServerDesk$RuleBook" "period" "[I", .lays "ServerDesk$RuleBook" "ServerDesk$RuleBook" "current" "I"] : List Jvm.Cond), w ∈ vw_W := List.forall_mem_cons.mpr ⟨vw_t 93 (by decide +kernel) (by decide +kernel), List.forall_mem_cons.mpr ⟨vw_t 95 (by decide +kernel) (by decide +kernel), List.forall_mem_cons.mpr ⟨vw_t 97 (by decide +kernel) (by decide +kernel), fun _ h => absurd h List.not_mem_nil⟩⟩⟩
  exact h
theorem u_JL : ∀ w ∈ u_ws R_JL F_JL 4, w ∈ vw_W := by
  have h : ∀ w ∈ ([.laysFinal "ServerDesk$JobLog" "ServerDesk$JobLog" "arrival" "[I", .laysFinal "ServerDesk$JobLog" "ServerDesk$JobLog" "cost" "[I", .laysFinal "ServerDesk$JobLog" "ServerDesk$JobLog" "isHard" "[Z", .lays "ServerDesk$JobLog" "ServerDesk$JobLog" "count" "I"] : List Jvm.Cond), w ∈ vw_W := List.forall_mem_cons.mpr ⟨vw_t 116 (by decide +kernel) (by decide +kernel), List.forall_mem_cons.mpr ⟨vw_t 118 (by decide +kernel) (by decide +kernel), List.forall_mem_cons.mpr ⟨vw_t 120 (by decide +kernel) (by decide +kernel), List.forall_mem_cons.mpr ⟨vw_t 122 (by decide +kernel) (by decide +kernel), fun _ h => absurd h List.not_mem_nil⟩⟩⟩⟩
  exact h
theorem u_EL : ∀ w ∈ u_ws R_EL F_EL 4, w ∈ vw_W := by
  have h : ∀ w ∈ ([.laysFinal "ServerDesk$EarlyLog" "ServerDesk$EarlyLog" "moment" "[I", .laysFinal "ServerDesk$EarlyLog" "ServerDesk$EarlyLog" "task" "[I", .laysFinal "ServerDesk$EarlyLog" "ServerDesk$EarlyLog" "ticks" "[I", .lays "ServerDesk$EarlyLog" "ServerDesk$EarlyLog" "count" "I"] : List Jvm.Cond), w ∈ vw_W := List.forall_mem_cons.mpr ⟨vw_t 141 (by decide +kernel) (by decide +kernel), List.forall_mem_cons.mpr ⟨vw_t 143 (by decide +kernel) (by decide +kernel), List.forall_mem_cons.mpr ⟨vw_t 145 (by decide +kernel) (by decide +kernel), List.forall_mem_cons.mpr ⟨vw_t 147 (by decide +kernel) (by decide +kernel), fun _ h => absurd h List.not_mem_nil⟩⟩⟩⟩
  exact h
theorem u_LO : ∀ w ∈ u_ws R_LO F_LO 5, w ∈ vw_W := by
  have h : ∀ w ∈ ([.laysFinal "ServerDesk$Load" "ServerDesk$Load" "tasks" "LServerDesk$TaskSet;", .laysFinal "ServerDesk$Load" "ServerDesk$Load" "nextReady" "[I", .laysFinal "ServerDesk$Load" "ServerDesk$Load" "nextNeed" "[I", .laysFinal "ServerDesk$Load" "ServerDesk$Load" "need" "[I", .laysFinal "ServerDesk$Load" "ServerDesk$Load" "due" "[I"] : List Jvm.Cond), w ∈ vw_W := List.forall_mem_cons.mpr ⟨vw_t 167 (by decide +kernel) (by decide +kernel), List.forall_mem_cons.mpr ⟨vw_t 169 (by decide +kernel) (by decide +kernel), List.forall_mem_cons.mpr ⟨vw_t 171 (by decide +kernel) (by decide +kernel), List.forall_mem_cons.mpr ⟨vw_t 173 (by decide +kernel) (by decide +kernel), List.forall_mem_cons.mpr ⟨vw_t 175 (by decide +kernel) (by decide +kernel), fun _ h => absurd h List.not_mem_nil⟩⟩⟩⟩⟩
  exact h
theorem u_SM : ∀ w ∈ u_ws R_SM F_SM 4, w ∈ vw_W := by
  have h : ∀ w ∈ ([.laysFinal "ServerDesk$SlackMeter" "ServerDesk$SlackMeter" "tasks" "LServerDesk$TaskSet;", .laysFinal "ServerDesk$SlackMeter" "ServerDesk$SlackMeter" "ahead" "LServerDesk$Load;", .laysFinal "ServerDesk$SlackMeter" "ServerDesk$SlackMeter" "free" "[I", .laysFinal "ServerDesk$SlackMeter" "ServerDesk$SlackMeter" "until" "[I"] : List Jvm.Cond), w ∈ vw_W := List.forall_mem_cons.mpr ⟨vw_t 182 (by decide +kernel) (by decide +kernel), List.forall_mem_cons.mpr ⟨vw_t 184 (by decide +kernel) (by decide +kernel), List.forall_mem_cons.mpr ⟨vw_t 186 (by decide +kernel) (by decide +kernel), List.forall_mem_cons.mpr ⟨vw_t 188 (by decide +kernel) (by decide +kernel), fun _ h => absurd h List.not_mem_nil⟩⟩⟩⟩
  exact h
theorem u_BU : ∀ w ∈ u_ws R_BU F_BU 5, w ∈ vw_W := by
  have h : ∀ w ∈ ([.laysFinal "ServerDesk$Budget" "ServerDesk$Budget" "used" "[I", .lays "ServerDesk$Budget" "ServerDesk$Budget" "kind" "I", .lays "ServerDesk$Budget" "ServerDesk$Budget" "full" "I", .lays "ServerDesk$Budget" "ServerDesk$Budget" "period" "I", .lays "ServerDesk$Budget" "ServerDesk$Budget" "left" "I"] : List Jvm.Cond), w ∈ vw_W := List.forall_mem_cons.mpr ⟨vw_t 238 (by decide +kernel) (by decide +kernel), List.forall_mem_cons.mpr ⟨vw_t 240 (by decide +kernel) (by decide +kernel), List.forall_mem_cons.mpr ⟨vw_t 242 (by decide +kernel) (by decide +kernel), List.forall_mem_cons.mpr ⟨vw_t 244 (by decide +kernel) (by decide +kernel), List.forall_mem_cons.mpr ⟨vw_t 246 (by decide +kernel) (by decide +kernel), fun _ h => absurd h List.not_mem_nil⟩⟩⟩⟩⟩
  exact h
theorem u_QU : ∀ w ∈ u_ws R_QU F_QU 5, w ∈ vw_W := by
  have h : ∀ w ∈ ([.laysFinal "ServerDesk$Queue" "ServerDesk$Queue" "log" "LServerDesk$JobLog;", .laysFinal "ServerDesk$Queue" "ServerDesk$Queue" "need" "[I", .laysFinal "ServerDesk$Queue" "ServerDesk$Queue" "end" "[I", .lays "ServerDesk$Queue" "ServerDesk$Queue" "arrived" "I", .lays "ServerDesk$Queue" "ServerDesk$Queue" "waiting" "I"] : List Jvm.Cond), w ∈ vw_W := List.forall_mem_cons.mpr ⟨vw_t 214 (by decide +kernel) (by decide +kernel), List.forall_mem_cons.mpr ⟨vw_t 216 (by decide +kernel) (by decide +kernel), List.forall_mem_cons.mpr ⟨vw_t 218 (by decide +kernel) (by decide +kernel), List.forall_mem_cons.mpr ⟨vw_t 220 (by decide +kernel) (by decide +kernel), List.forall_mem_cons.mpr ⟨vw_t 222 (by decide +kernel) (by decide +kernel), fun _ h => absurd h List.not_mem_nil⟩⟩⟩⟩⟩
  exact h
theorem u_CO : ∀ w ∈ u_ws R_CO F_CO 7, w ∈ vw_W := by
  have h : ∀ w ∈ ([.laysFinal "ServerDesk$Course" "ServerDesk$Course" "tasks" "LServerDesk$TaskSet;", .laysFinal "ServerDesk$Course" "ServerDesk$Course" "meter" "LServerDesk$SlackMeter;", .laysFinal "ServerDesk$Course" "ServerDesk$Course" "load" "LServerDesk$Load;", .laysFinal "ServerDesk$Course" "ServerDesk$Course" "queue" "LServerDesk$Queue;", .laysFinal "ServerDesk$Course" "ServerDesk$Course" "budget" "LServerDesk$Budget;", .lays "ServerDesk$Course" "ServerDesk$Course" "kind" "I", .lays "ServerDesk$Course" "ServerDesk$Course" "late" "I"] : List Jvm.Cond), w ∈ vw_W := List.forall_mem_cons.mpr ⟨vw_t 265 (by decide +kernel) (by decide +kernel), List.forall_mem_cons.mpr ⟨vw_t 267 (by decide +kernel) (by decide +kernel), List.forall_mem_cons.mpr ⟨vw_t 269 (by decide +kernel) (by decide +kernel), List.forall_mem_cons.mpr ⟨vw_t 271 (by decide +kernel) (by decide +kernel), List.forall_mem_cons.mpr ⟨vw_t 273 (by decide +kernel) (by decide +kernel), List.forall_mem_cons.mpr ⟨vw_t 275 (by decide +kernel) (by decide +kernel), List.forall_mem_cons.mpr ⟨vw_t 277 (by decide +kernel) (by decide +kernel), fun _ h => absurd h List.not_mem_nil⟩⟩⟩⟩⟩⟩⟩
  exact h
theorem u_RF : ∀ w ∈ u_ws R_RF F_RF 6, w ∈ vw_W := by
  have h : ∀ w ∈ ([.laysFinal "ServerDesk$Referee" "ServerDesk$Referee" "course" "LServerDesk$Course;", .laysFinal "ServerDesk$Referee" "ServerDesk$Referee" "jobs" "LServerDesk$JobLog;", .laysFinal "ServerDesk$Referee" "ServerDesk$Referee" "earlyOnes" "LServerDesk$EarlyLog;", .lays "ServerDesk$Referee" "ServerDesk$Referee" "endedJobs" "I", .lays "ServerDesk$Referee" "ServerDesk$Referee" "sameTicks" "I", .lays "ServerDesk$Referee" "ServerDesk$Referee" "late" "I"] : List Jvm.Cond), w ∈ vw_W := List.forall_mem_cons.mpr ⟨vw_t 295 (by decide +kernel) (by decide +kernel), List.forall_mem_cons.mpr ⟨vw_t 297 (by decide +kernel) (by decide +kernel), List.forall_mem_cons.mpr ⟨vw_t 299 (by decide +kernel) (by decide +kernel), List.forall_mem_cons.mpr ⟨vw_t 301 (by decide +kernel) (by decide +kernel), List.forall_mem_cons.mpr ⟨vw_t 303 (by decide +kernel) (by decide +kernel), List.forall_mem_cons.mpr ⟨vw_t 305 (by decide +kernel) (by decide +kernel), fun _ h => absurd h List.not_mem_nil⟩⟩⟩⟩⟩⟩
  exact h
theorem u_MO : ∀ w ∈ u_ws R_MO F_MO 46, w ∈ vw_W := by
  have h : ∀ w ∈ ([.lays "ServerDeskModel" "ServerDeskModel" "code" "I", .lays "ServerDeskModel" "ServerDeskModel" "tasks" "I", .laysFinal "ServerDeskModel" "ServerDeskModel" "period" "[I", .laysFinal "ServerDeskModel" "ServerDeskModel" "offset" "[I", .laysFinal "ServerDeskModel" "ServerDeskModel" "cost" "[I", .laysFinal "ServerDeskModel" "ServerDeskModel" "deadline" "[I", .laysFinal "ServerDeskModel" "ServerDeskModel" "order" "[I", .lays "ServerDeskModel" "ServerDeskModel" "rule" "I", .laysFinal "ServerDeskModel" "ServerDeskModel" "budget" "[I", .laysFinal "ServerDeskModel" "ServerDeskModel" "turn" "[I", .lays "ServerDeskModel" "ServerDeskModel" "started" "Z", .lays "ServerDeskModel" "ServerDeskModel" "jobs" "I", .laysFinal "ServerDeskModel" "ServerDeskModel" "jobCost" "[I", .laysFinal "ServerDeskModel" "ServerDeskModel" "jobAt" "[I", .laysFinal "ServerDeskModel" "ServerDeskModel" "jobHard" "[Z", .lays "ServerDeskModel" "ServerDeskModel" "earlies" "I", .laysFinal "ServerDeskModel" "ServerDeskModel" "earlyTask" "[I", .laysFinal "ServerDeskModel" "ServerDeskModel" "earlyTicks" "[I", .laysFinal "ServerDeskModel" "ServerDeskModel" "earlyAt" "[I", .lays "ServerDeskModel" "ServerDeskModel" "now" "I", .lays "ServerDeskModel" "ServerDeskModel" "by" "I", .laysFinal "ServerDeskModel" "ServerDeskModel" "pending" "[I", .laysFinal "ServerDeskModel" "ServerDeskModel" "due" "[I", .laysFinal "ServerDeskModel" "ServerDeskModel" "told" "[I", .lays "ServerDeskModel" "ServerDeskModel" "left" "I", .laysFinal "ServerDeskModel" "ServerDeskModel" "used" "[I", .lays "ServerDeskModel" "ServerDeskModel" "known" "I", .laysFinal "ServerDeskModel" "ServerDeskModel" "needs" "[I", .laysFinal "ServerDeskModel" "ServerDeskModel" "ends" "[I", .lays "ServerDeskModel" "ServerDeskModel" "late" "I", .laysFinal "ServerDeskModel" "ServerDeskModel" "trace" "[I", .lays "ServerDeskModel" "ServerDeskModel" "keptNow" "I", .lays "ServerDeskModel" "ServerDeskModel" "keptBy" "I", .lays "ServerDeskModel" "ServerDeskModel" "keptLeft" "I", .lays "ServerDeskModel" "ServerDeskModel" "keptKnown" "I", .lays "ServerDeskModel" "ServerDeskModel" "keptLate" "I", .laysFinal "ServerDeskModel" "ServerDeskModel" "keptPending" "[I", .laysFinal "ServerDeskModel" "ServerDeskModel" "keptDue" "[I", .laysFinal "ServerDeskModel" "ServerDeskModel" "keptTold" "[I", .laysFinal "ServerDeskModel" "ServerDeskModel" "keptUsed" "[I", .laysFinal "ServerDeskModel" "ServerDeskModel" "keptNeeds" "[I", .laysFinal "ServerDeskModel" "ServerDeskModel" "keptEnds" "[I", .laysFinal "ServerDeskModel" "ServerDeskModel" "keptTrace" "[I", .lays "ServerDeskModel" "ServerDeskModel" "replayEnded" "I", .lays "ServerDeskModel" "ServerDeskModel" "replaySame" "I", .lays "ServerDeskModel" "ServerDeskModel" "replayLate" "I"] : List Jvm.Cond), w ∈ vw_W := List.forall_mem_cons.mpr ⟨vw_t 849 (by decide +kernel) (by decide +kernel), List.forall_mem_cons.mpr ⟨vw_t 851 (by decide +kernel) (by decide +kernel), List.forall_mem_cons.mpr ⟨vw_t 853 (by decide +kernel) (by decide +kernel), List.forall_mem_cons.mpr ⟨vw_t 855 (by decide +kernel) (by decide +kernel), List.forall_mem_cons.mpr ⟨vw_t 857 (by decide +kernel) (by decide +kernel), List.forall_mem_cons.mpr ⟨vw_t 859 (by decide +kernel) (by decide +kernel), List.forall_mem_cons.mpr ⟨vw_t 861 (by decide +kernel) (by decide +kernel), List.forall_mem_cons.mpr ⟨vw_t 863 (by decide +kernel) (by decide +kernel), List.forall_mem_cons.mpr ⟨vw_t 865 (by decide +kernel) (by decide +kernel), List.forall_mem_cons.mpr ⟨vw_t 867 (by decide +kernel) (by decide +kernel), List.forall_mem_cons.mpr ⟨vw_t 869 (by decide +kernel) (by decide +kernel), List.forall_mem_cons.mpr ⟨vw_t 871 (by decide +kernel) (by decide +kernel), List.forall_mem_cons.mpr ⟨vw_t 873 (by decide +kernel) (by decide +kernel), List.forall_mem_cons.mpr ⟨vw_t 875 (by decide +kernel) (by decide +kernel), List.forall_mem_cons.mpr ⟨vw_t 877 (by decide +kernel) (by decide +kernel), List.forall_mem_cons.mpr ⟨vw_t 879 (by decide +kernel) (by decide +kernel), List.forall_mem_cons.mpr ⟨vw_t 881 (by decide +kernel) (by decide +kernel), List.forall_mem_cons.mpr ⟨vw_t 883 (by decide +kernel) (by decide +kernel), List.forall_mem_cons.mpr ⟨vw_t 885 (by decide +kernel) (by decide +kernel), List.forall_mem_cons.mpr ⟨vw_t 887 (by decide +kernel) (by decide +kernel), List.forall_mem_cons.mpr ⟨vw_t 889 (by decide +kernel) (by decide +kernel), List.forall_mem_cons.mpr ⟨vw_t 891 (by decide +kernel) (by decide +kernel), List.forall_mem_cons.mpr ⟨vw_t 893 (by decide +kernel) (by decide +kernel), List.forall_mem_cons.mpr ⟨vw_t 895 (by decide +kernel) (by decide +kernel), List.forall_mem_cons.mpr ⟨vw_t 897 (by decide +kernel) (by decide +kernel), List.forall_mem_cons.mpr ⟨vw_t 899 (by decide +kernel) (by decide +kernel), List.forall_mem_cons.mpr ⟨vw_t 901 (by decide +kernel) (by decide +kernel), List.forall_mem_cons.mpr ⟨vw_t 903 (by decide +kernel) (by decide +kernel), List.forall_mem_cons.mpr ⟨vw_t 905 (by decide +kernel) (by decide +kernel), List.forall_mem_cons.mpr ⟨vw_t 907 (by decide +kernel) (by decide +kernel), List.forall_mem_cons.mpr ⟨vw_t 909 (by decide +kernel) (by decide +kernel), List.forall_mem_cons.mpr ⟨vw_t 911 (by decide +kernel) (by decide +kernel), List.forall_mem_cons.mpr ⟨vw_t 913 (by decide +kernel) (by decide +kernel), List.forall_mem_cons.mpr ⟨vw_t 915 (by decide +kernel) (by decide +kernel), List.forall_mem_cons.mpr ⟨vw_t 917 (by decide +kernel) (by decide +kernel), List.forall_mem_cons.mpr ⟨vw_t 919 (by decide +kernel) (by decide +kernel), List.forall_mem_cons.mpr ⟨vw_t 921 (by decide +kernel) (by decide +kernel), List.forall_mem_cons.mpr ⟨vw_t 923 (by decide +kernel) (by decide +kernel), List.forall_mem_cons.mpr ⟨vw_t 925 (by decide +kernel) (by decide +kernel), List.forall_mem_cons.mpr ⟨vw_t 927 (by decide +kernel) (by decide +kernel), List.forall_mem_cons.mpr ⟨vw_t 929 (by decide +kernel) (by decide +kernel), List.forall_mem_cons.mpr ⟨vw_t 931 (by decide +kernel) (by decide +kernel), List.forall_mem_cons.mpr ⟨vw_t 933 (by decide +kernel) (by decide +kernel), List.forall_mem_cons.mpr ⟨vw_t 935 (by decide +kernel) (by decide +kernel), List.forall_mem_cons.mpr ⟨vw_t 937 (by decide +kernel) (by decide +kernel), List.forall_mem_cons.mpr ⟨vw_t 939 (by decide +kernel) (by decide +kernel), fun _ h => absurd h List.not_mem_nil⟩⟩⟩⟩⟩⟩⟩⟩⟩⟩⟩⟩⟩⟩⟩⟩⟩⟩⟩⟩⟩⟩⟩⟩⟩⟩⟩⟩⟩⟩⟩⟩⟩⟩⟩⟩⟩⟩⟩⟩⟩⟩⟩⟩⟩⟩
  exact h
def vw_N : List Jvm.Cond := [.methodLinkNest "ServerDesk" 9 ⟨"ServerDesk$TaskSet", "<init>", "()V"⟩ "ServerDesk", .fieldLinkNest "ServerDesk$Load" 53 "ServerDesk$TaskSet" "period" "[I" "ServerDesk", .fieldLinkNest "ServerDesk$Load" 34 "ServerDesk$TaskSet" "offset" "[I" "ServerDesk", .fieldLinkNest "ServerDesk$Load" 37 "ServerDesk$TaskSet" "cost" "[I" "ServerDesk", .fieldLinkNest "ServerDesk" 174 "ServerDesk$TaskSet" "cost" "[I" "ServerDesk", .fieldLinkNest "ServerDesk$Load" 50 "ServerDesk$TaskSet" "deadline" "[I" "ServerDesk", .fieldLinkNest "ServerDesk$SlackMeter" 66 "ServerDesk$TaskSet" "atRank" "[I" "ServerDesk", .fieldLinkNest "ServerDesk$Course" 103 "ServerDesk$TaskSet" "atRank" "[I" "ServerDesk", .fieldLinkNest "ServerDesk$Load" 56 "ServerDesk$TaskSet" "atRank" "[I" "ServerDesk", .fieldLinkNest "ServerDesk$Load" 28 "ServerDesk$TaskSet" "count" "I" "ServerDesk", .fieldLinkNest "ServerDesk" 87 "ServerDesk$TaskSet" "count" "I" "ServerDesk", .fieldLinkNest "ServerDesk$SlackMeter" 50 "ServerDesk$TaskSet" "count" "I" "ServerDesk", .fieldLinkNest "ServerDesk$Course" 76 "ServerDesk$TaskSet" "count" "I" "ServerDesk", .fieldLinkNest "ServerDesk$Referee" 115 "ServerDesk$TaskSet" "count" "I" "ServerDesk", .fieldLinkNest "ServerDesk" 231 "ServerDesk$TaskSet" "hyperperiod" "I" "ServerDesk", .fieldLinkNest "ServerDesk$Budget" 40 "ServerDesk$RuleBook" "budget" "[I" "ServerDesk", .fieldLinkNest "ServerDesk$Budget" 43 "ServerDesk$RuleBook" "period" "[I" "ServerDesk", .fieldLinkNest "ServerDesk" 127 "ServerDesk$RuleBook" "current" "I" "ServerDesk", .methodLinkNest "ServerDesk" 25 ⟨"ServerDesk$JobLog", "<init>", "()V"⟩ "ServerDesk", .fieldLinkNest "ServerDesk$Queue" 34 "ServerDesk$JobLog" "arrival" "[I" "ServerDesk", .fieldLinkNest "ServerDesk$Referee" 96 "ServerDesk$JobLog" "arrival" "[I" "ServerDesk", .fieldLinkNest "ServerDesk$Queue" 37 "ServerDesk$JobLog" "cost" "[I" "ServerDesk", .fieldLinkNest "ServerDesk$Queue" 40 "ServerDesk$JobLog" "isHard" "[Z" "ServerDesk", .fieldLinkNest "ServerDesk$Queue" 29 "ServerDesk$JobLog" "count" "I" "ServerDesk", .fieldLinkNest "ServerDesk" 145 "ServerDesk$JobLog" "count" "I" "ServerDesk", .methodLinkNest "ServerDesk" 32 ⟨"ServerDesk$EarlyLog", "<init>", "()V"⟩ "ServerDesk", .fieldLinkNest "ServerDesk$Referee" 70 "ServerDesk$EarlyLog" "moment" "[I" "ServerDesk", .fieldLinkNest "ServerDesk$Referee" 78 "ServerDesk$EarlyLog" "task" "[I" "ServerDesk", .fieldLinkNest "ServerDesk$Referee" 81 "ServerDesk$EarlyLog" "ticks" "[I" "ServerDesk", .fieldLinkNest "ServerDesk$Referee" 65 "ServerDesk$EarlyLog" "count" "I" "ServerDesk", .fieldLinkNest "ServerDesk" 179 "ServerDesk$EarlyLog" "count" "I" "ServerDesk", .fieldLinkNest "ServerDesk$Referee" 93 "ServerDesk$Queue" "end" "[I" "ServerDesk", .fieldLinkNest "ServerDesk" 195 "ServerDesk$Queue" "end" "[I" "ServerDesk", .fieldLinkNest "ServerDesk$Referee" 90 "ServerDesk$Queue" "arrived" "I" "ServerDesk", .fieldLinkNest "ServerDesk" 228 "ServerDesk$Queue" "waiting" "I" "ServerDesk", .methodLinkNest "ServerDesk$Course" 46 ⟨"ServerDesk$Budget", "<init>", "()V"⟩ "ServerDesk", .fieldLinkNest "ServerDesk$Course" 84 "ServerDesk$Budget" "left" "I" "ServerDesk", .fieldLinkNest "ServerDesk" 238 "ServerDesk$Budget" "left" "I" "ServerDesk", .fieldLinkNest "ServerDesk$Referee" 111 "ServerDesk$Course" "tasks" "LServerDesk$TaskSet;" "ServerDesk", .fieldLinkNest "ServerDesk$Referee" 118 "ServerDesk$Course" "meter" "LServerDesk$SlackMeter;" "ServerDesk", .fieldLinkNest "ServerDesk$Referee" 74 "ServerDesk$Course" "load" "LServerDesk$Load;" "ServerDesk", .fieldLinkNest "ServerDesk" 166 "ServerDesk$Course" "load" "LServerDesk$Load;" "ServerDesk", .fieldLinkNest "ServerDesk$Referee" 42 "ServerDesk$Course" "queue" "LServerDesk$Queue;" "ServerDesk", .fieldLinkNest "ServerDesk" 156 "ServerDesk$Course" "queue" "LServerDesk$Queue;" "ServerDesk", .fieldLinkNest "ServerDesk" 234 "ServerDesk$Course" "budget" "LServerDesk$Budget;" "ServerDesk", .fieldLinkNest "ServerDesk$Referee" 60 "ServerDesk$Course" "late" "I" "ServerDesk", .fieldLinkNest "ServerDesk" 224 "ServerDesk$Course" "late" "I" "ServerDesk", .fieldLinkNest "ServerDesk" 218 "ServerDesk$Referee" "endedJobs" "I" "ServerDesk", .fieldLinkNest "ServerDesk" 221 "ServerDesk$Referee" "sameTicks" "I" "ServerDesk", .fieldLinkNest "ServerDesk" 227 "ServerDesk$Referee" "late" "I" "ServerDesk", .methodLinkNest "ServerDesk$RuleBook" 35 ⟨"ServerDesk", "isWithin", "(III)Z"⟩ "ServerDesk", .methodLinkNest "ServerDesk$TaskSet" 52 ⟨"ServerDesk", "roundedUp", "(II)I"⟩ "ServerDesk", .methodLinkNest "ServerDesk$RuleBook" 45 ⟨"ServerDesk", "roundedUp", "(II)I"⟩ "ServerDesk", .methodLinkNest "ServerDesk$Budget" 49 ⟨"ServerDesk", "isWithin", "(III)Z"⟩ "ServerDesk", .methodLinkNest "ServerDesk$Load" 40 ⟨"ServerDesk", "isWithin", "(III)Z"⟩ "ServerDesk", .methodLinkNest "ServerDesk$Queue" 44 ⟨"ServerDesk", "isWithin", "(III)Z"⟩ "ServerDesk"]
theorem vw_N_ok : am_nw vw_N = true := by decide +kernel
end
section
/-! shapes and fields, printed by program (wip/whole/gen_tabs.py) -/
def am_find {α : Type} : List (Nat × α) → Nat → Option α
  | [], _ => none
  | (i, a) :: r, k => if k = i then some a else am_find r k
theorem am_find_mem {α : Type} : ∀ {l : List (Nat × α)} {k : Nat} {a : α}, am_find l k = some a → (k, a) ∈ l
  | [], k, a, h => by cases h
  | (i, b) :: r, k, a, h => by
    unfold am_find at h
    split at h
    · rename_i e
      subst e
      cases h
      exact List.mem_cons_self
    · exact List.mem_cons_of_mem _ (am_find_mem h)
def vw_S : List am_S := [.inr (0, [some 1, some 7, some 10, some 14, some 18, some 26, some 48, some 49, none, none]), .inr (1, [some 2, some 3, some 4, some 5, some 6, none, none]), .inl (0, 5), .inl (0, 5), .inl (0, 5), .inl (0, 5), .inl (0, 5), .inr (2, [some 8, some 9, none]), .inl (0, 4), .inl (0, 4), .inr (3, [some 11, some 12, some 13, none]), .inl (0, 40), .inl (0, 40), .inl (1, 40), .inr (4, [some 15, some 16, some 17, none]), .inl (0, 200), .inl (0, 200), .inl (0, 200), .inr (6, [some 1, some 19, some 24, some 25]), .inr (5, [some 1, some 20, some 21, some 22, some 23]), .inl (0, 5), .inl (0, 5), .inl (0, 5), .inl (0, 5), .inl (0, 5), .inl (0, 5), .inr (9, [some 1, some 18, some 27, some 32, some 35, none, none]), .inr (5, [some 1, some 28, some 29, some 30, some 31]), .inl (0, 5), .inl (0, 5), .inl (0, 5), .inl (0, 5), .inr (8, [some 10, some 33, some 34, none, none]), .inl (0, 40), .inl (0, 40), .inr (7, [some 36, none, none, none, none]), .inl (0, 60), .inr (9, [some 1, some 18, some 38, some 43, some 46, none, none]), .inr (5, [some 1, some 39, some 40, some 41, some 42]), .inl (0, 5), .inl (0, 5), .inl (0, 5), .inl (0, 5), .inr (8, [some 10, some 44, some 45, none, none]), .inl (0, 40), .inl (0, 40), .inr (7, [some 47, none, none, none, none]), .inl (0, 60), .inr (10, [some 37, some 10, some 14, none, none, none]), .inl (0, 2000), .inr (11, [none, none, some 51, some 52, some 53, some 54, some 55, none, some 56, some 57, none, none, some 58, some 59, some 60, none, some 61, some 62, some 63, none, none, some 64, some 65, some 66, none, some 67, none, some 68, some 69, none, some 70, none, none, none, none, none, some 71, some 72, some 73, some 74, some 75, some 76, some 77, none, none, none]), .inl (0, 5), .inl (0, 5), .inl (0, 5), .inl (0, 5), .inl (0, 5), .inl (0, 4), .inl (0, 4), .inl (0, 40), .inl (0, 40), .inl (1, 40), .inl (0, 200), .inl (0, 200), .inl (0, 200), .inl (0, 5), .inl (0, 5), .inl (0, 5), .inl (0, 2001), .inl (0, 40), .inl (0, 40), .inl (0, 2001), .inl (0, 5), .inl (0, 5), .inl (0, 5), .inl (0, 2001), .inl (0, 40), .inl (0, 40), .inl (0, 2001), .inl (2, 1)]
theorem sg_0 : vw_S[0]? = some (.inr (0, [some 1, some 7, some 10, some 14, some 18, some 26, some 48, some 49, none, none])) := rfl
theorem sg_1 : vw_S[1]? = some (.inr (1, [some 2, some 3, some 4, some 5, some 6, none, none])) := rfl
theorem sg_2 : vw_S[2]? = some (.inl (0, 5)) := rfl
theorem sg_3 : vw_S[3]? = some (.inl (0, 5)) := rfl
theorem sg_4 : vw_S[4]? = some (.inl (0, 5)) := rfl
theorem sg_5 : vw_S[5]? = some (.inl (0, 5)) := rfl
theorem sg_6 : vw_S[6]? = some (.inl (0, 5)) := rfl
theorem sg_7 : vw_S[7]? = some (.inr (2, [some 8, some 9, none])) := rfl
theorem sg_8 : vw_S[8]? = some (.inl (0, 4)) := rfl
theorem sg_9 : vw_S[9]? = some (.inl (0, 4)) := rfl
theorem sg_10 : vw_S[10]? = some (.inr (3, [some 11, some 12, some 13, none])) := rfl
theorem sg_11 : vw_S[11]? = some (.inl (0, 40)) := rfl
theorem sg_12 : vw_S[12]? = some (.inl (0, 40)) := rfl
theorem sg_13 : vw_S[13]? = some (.inl (1, 40)) := rfl
theorem sg_14 : vw_S[14]? = some (.inr (4, [some 15, some 16, some 17, none])) := rfl
theorem sg_15 : vw_S[15]? = some (.inl (0, 200)) := rfl
theorem sg_16 : vw_S[16]? = some (.inl (0, 200)) := rfl
theorem sg_17 : vw_S[17]? = some (.inl (0, 200)) := rfl
theorem sg_18 : vw_S[18]? = some (.inr (6, [some 1, some 19, some 24, some 25])) := rfl
theorem sg_19 : vw_S[19]? = some (.inr (5, [some 1, some 20, some 21, some 22, some 23])) := rfl
theorem sg_20 : vw_S[20]? = some (.inl (0, 5)) := rfl
theorem sg_21 : vw_S[21]? = some (.inl (0, 5)) := rfl
theorem sg_22 : vw_S[22]? = some (.inl (0, 5)) := rfl
theorem sg_23 : vw_S[23]? = some (.inl (0, 5)) := rfl
theorem sg_24 : vw_S[24]? = some (.inl (0, 5)) := rfl
theorem sg_25 : vw_S[25]? = some (.inl (0, 5)) := rfl
theorem sg_26 : vw_S[26]? = some (.inr (9, [some 1, some 18, some 27, some 32, some 35, none, none])) := rfl
theorem sg_27 : vw_S[27]? = some (.inr (5, [some 1, some 28, some 29, some 30, some 31])) := rfl
theorem sg_28 : vw_S[28]? = some (.inl (0, 5)) := rfl
theorem sg_29 : vw_S[29]? = some (.inl (0, 5)) := rfl
theorem sg_30 : vw_S[30]? = some (.inl (0, 5)) := rfl
theorem sg_31 : vw_S[31]? = some (.inl (0, 5)) := rfl
theorem sg_32 : vw_S[32]? = some (.inr (8, [some 10, some 33, some 34, none, none])) := rfl
theorem sg_33 : vw_S[33]? = some (.inl (0, 40)) := rfl
theorem sg_34 : vw_S[34]? = some (.inl (0, 40)) := rfl
theorem sg_35 : vw_S[35]? = some (.inr (7, [some 36, none, none, none, none])) := rfl
theorem sg_36 : vw_S[36]? = some (.inl (0, 60)) := rfl
theorem sg_37 : vw_S[37]? = some (.inr (9, [some 1, some 18, some 38, some 43, some 46, none, none])) := rfl
theorem sg_38 : vw_S[38]? = some (.inr (5, [some 1, some 39, some 40, some 41, some 42])) := rfl
theorem sg_39 : vw_S[39]? = some (.inl (0, 5)) := rfl
theorem sg_40 : vw_S[40]? = some (.inl (0, 5)) := rfl
theorem sg_41 : vw_S[41]? = some (.inl (0, 5)) := rfl
theorem sg_42 : vw_S[42]? = some (.inl (0, 5)) := rfl
theorem sg_43 : vw_S[43]? = some (.inr (8, [some 10, some 44, some 45, none, none])) := rfl
theorem sg_44 : vw_S[44]? = some (.inl (0, 40)) := rfl
theorem sg_45 : vw_S[45]? = some (.inl (0, 40)) := rfl
theorem sg_46 : vw_S[46]? = some (.inr (7, [some 47, none, none, none, none])) := rfl
theorem sg_47 : vw_S[47]? = some (.inl (0, 60)) := rfl
theorem sg_48 : vw_S[48]? = some (.inr (10, [some 37, some 10, some 14, none, none, none])) := rfl
theorem sg_49 : vw_S[49]? = some (.inl (0, 2000)) := rfl
theorem sg_50 : vw_S[50]? = some (.inr (11, [none, none, some 51, some 52, some 53, some 54, some 55, none, some 56, some 57, none, none, some 58, some 59, some 60, none, some 61, some 62, some 63, none, none, some 64, some 65, some 66, none, some 67, none, some 68, some 69, none, some 70, none, none, none, none, none, some 71, some 72, some 73, some 74, some 75, some 76, some 77, none, none, none])) := rfl
theorem sg_51 : vw_S[51]? = some (.inl (0, 5)) := rfl
theorem sg_52 : vw_S[52]? = some (.inl (0, 5)) := rfl
theorem sg_53 : vw_S[53]? = some (.inl (0, 5)) := rfl
theorem sg_54 : vw_S[54]? = some (.inl (0, 5)) := rfl
theorem sg_55 : vw_S[55]? = some (.inl (0, 5)) := rfl
theorem sg_56 : vw_S[56]? = some (.inl (0, 4)) := rfl
theorem sg_57 : vw_S[57]? = some (.inl (0, 4)) := rfl
theorem sg_58 : vw_S[58]? = some (.inl (0, 40)) := rfl
theorem sg_59 : vw_S[59]? = some (.inl (0, 40)) := rfl
theorem sg_60 : vw_S[60]? = some (.inl (1, 40)) := rfl
theorem sg_61 : vw_S[61]? = some (.inl (0, 200)) := rfl
theorem sg_62 : vw_S[62]? = some (.inl (0, 200)) := rfl
theorem sg_63 : vw_S[63]? = some (.inl (0, 200)) := rfl
theorem sg_64 : vw_S[64]? = some (.inl (0, 5)) := rfl
theorem sg_65 : vw_S[65]? = some (.inl (0, 5)) := rfl
theorem sg_66 : vw_S[66]? = some (.inl (0, 5)) := rfl
theorem sg_67 : vw_S[67]? = some (.inl (0, 2001)) := rfl
theorem sg_68 : vw_S[68]? = some (.inl (0, 40)) := rfl
theorem sg_69 : vw_S[69]? = some (.inl (0, 40)) := rfl
theorem sg_70 : vw_S[70]? = some (.inl (0, 2001)) := rfl
theorem sg_71 : vw_S[71]? = some (.inl (0, 5)) := rfl
theorem sg_72 : vw_S[72]? = some (.inl (0, 5)) := rfl
theorem sg_73 : vw_S[73]? = some (.inl (0, 5)) := rfl
theorem sg_74 : vw_S[74]? = some (.inl (0, 2001)) := rfl
theorem sg_75 : vw_S[75]? = some (.inl (0, 40)) := rfl
theorem sg_76 : vw_S[76]? = some (.inl (0, 40)) := rfl
theorem sg_77 : vw_S[77]? = some (.inl (0, 2001)) := rfl
theorem sg_78 : vw_S[78]? = some (.inl (2, 1)) := rfl
theorem vw_Sz : ∀ (id e n : Nat), vw_S[id]? = some (.inl (e, n)) → n < 2147483648 := by
  intro id e n h
  have h1 : (.inl (e, n) : am_S) ∈ vw_S := List.mem_of_getElem? h
  have h2 : ∀ z ∈ vw_S, (match z with
    | .inl q => decide (q.2 < 2147483648)
    | .inr _ => true) = true := by decide +kernel
  simpa using h2 _ h1
theorem vw_G {Ts : List Jvm.Cond} {y : MethodName} {b : ByteArray} {n : Nat} {r : Option FieldType} (hW : ∀ w ∈ vw_W, w ∈ Ts) (hc : Jvm.Cond.code y b n r ∈ vw_W) : GoodIn Ts (Jvm.Cond.code y b n r :: vw_W) := by
  have h : ∀ w ∈ vw_W, w ∈ Ts ∧ ((w.onTables && w.keeps) = true ∨ ∃ ty, w = .arrayClass ty) := fun w hw => ⟨hW w hw, good_of_word (List.mem_filter.mp hw).2⟩
  intro w hw
  rcases List.mem_cons.mp hw with rfl | hw
  · exact h _ hc
  · exact h w hw
def fl_SD : List (Nat × Nat × Nat × Nat) := [(174, 1, 2, 0), (87, 1, 5, 1), (231, 1, 6, 1), (127, 2, 2, 1), (145, 3, 3, 1), (179, 4, 3, 1), (195, 8, 2, 0), (228, 8, 4, 1), (238, 7, 4, 1), (166, 9, 2, 0), (156, 9, 3, 0), (234, 9, 4, 0), (224, 9, 6, 1), (218, 10, 3, 1), (221, 10, 4, 1), (227, 10, 5, 1), (10, 0, 0, 0), (19, 0, 1, 0), (26, 0, 2, 0), (33, 0, 3, 0), (42, 0, 4, 0), (51, 0, 5, 0), (60, 0, 6, 0), (64, 0, 7, 0), (68, 0, 8, 2), (72, 0, 9, 1)]
def fd_SD : Nat → Option (Nat × Nat × Nat) := am_find fl_SD
theorem fd_SD_174 : fd_SD 174 = some (1, 2, 0) := rfl
theorem fd_SD_87 : fd_SD 87 = some (1, 5, 1) := rfl
theorem fd_SD_231 : fd_SD 231 = some (1, 6, 1) := rfl
theorem fd_SD_127 : fd_SD 127 = some (2, 2, 1) := rfl
theorem fd_SD_145 : fd_SD 145 = some (3, 3, 1) := rfl
theorem fd_SD_179 : fd_SD 179 = some (4, 3, 1) := rfl
theorem fd_SD_195 : fd_SD 195 = some (8, 2, 0) := rfl
theorem fd_SD_228 : fd_SD 228 = some (8, 4, 1) := rfl
theorem fd_SD_238 : fd_SD 238 = some (7, 4, 1) := rfl
theorem fd_SD_166 : fd_SD 166 = some (9, 2, 0) := rfl
theorem fd_SD_156 : fd_SD 156 = some (9, 3, 0) := rfl
theorem fd_SD_234 : fd_SD 234 = some (9, 4, 0) := rfl
theorem fd_SD_224 : fd_SD 224 = some (9, 6, 1) := rfl
theorem fd_SD_218 : fd_SD 218 = some (10, 3, 1) := rfl
theorem fd_SD_221 : fd_SD 221 = some (10, 4, 1) := rfl
theorem fd_SD_227 : fd_SD 227 = some (10, 5, 1) := rfl
theorem fd_SD_10 : fd_SD 10 = some (0, 0, 0) := rfl
theorem fd_SD_19 : fd_SD 19 = some (0, 1, 0) := rfl
theorem fd_SD_26 : fd_SD 26 = some (0, 2, 0) := rfl
theorem fd_SD_33 : fd_SD 33 = some (0, 3, 0) := rfl
theorem fd_SD_42 : fd_SD 42 = some (0, 4, 0) := rfl
theorem fd_SD_51 : fd_SD 51 = some (0, 5, 0) := rfl
theorem fd_SD_60 : fd_SD 60 = some (0, 6, 0) := rfl
theorem fd_SD_64 : fd_SD 64 = some (0, 7, 0) := rfl
theorem fd_SD_68 : fd_SD 68 = some (0, 8, 2) := rfl
theorem fd_SD_72 : fd_SD 72 = some (0, 9, 1) := rfl
theorem fd_SD_ok (args : Array Value) (s : State) {Ts : List Jvm.Cond} (hW : ∀ w ∈ vw_W, w ∈ Ts) (hts : ∀ w ∈ Ts, w.before args s = true) (hN : ∀ w ∈ vw_N, va_Nw w s) : ∀ idx ci j q, fd_SD idx = some (ci, j, q) → am_FOK vw_cl R_SD args s Ts idx ci j q := by
  have all : ∀ z ∈ fl_SD, am_FOK vw_cl R_SD args s Ts z.1 z.2.1 z.2.2.1 z.2.2.2 := List.forall_mem_cons.mpr ⟨⟨R_TS, F_TS, 7, t_TS, rfl, fun w h => hW w (u_TS w h), t_TS_ok, n_TS, by decide, rfl, Or.inr ⟨"ServerDesk", va_Nw.use rfl (hN _ (List.mem_of_getElem? (i := 4) (by decide +kernel)))⟩, fun h => absurd h (by decide), fun h => absurd h (by decide)⟩,
    List.forall_mem_cons.mpr ⟨⟨R_TS, F_TS, 7, t_TS, rfl, fun w h => hW w (u_TS w h), t_TS_ok, n_TS, by decide, rfl, Or.inr ⟨"ServerDesk", va_Nw.use rfl (hN _ (List.mem_of_getElem? (i := 10) (by decide +kernel)))⟩, fun _ => ⟨rfl, by decide +kernel⟩, fun h => absurd h (by decide)⟩,
    List.forall_mem_cons.mpr ⟨⟨R_TS, F_TS, 7, t_TS, rfl, fun w h => hW w (u_TS w h), t_TS_ok, n_TS, by decide, rfl, Or.inr ⟨"ServerDesk", va_Nw.use rfl (hN _ (List.mem_of_getElem? (i := 14) (by decide +kernel)))⟩, fun _ => ⟨rfl, by decide +kernel⟩, fun h => absurd h (by decide)⟩,
    List.forall_mem_cons.mpr ⟨⟨R_RB, F_RB, 3, t_RB, rfl, fun w h => hW w (u_RB w h), t_RB_ok, n_RB, by decide, rfl, Or.inr ⟨"ServerDesk", va_Nw.use rfl (hN _ (List.mem_of_getElem? (i := 17) (by decide +kernel)))⟩, fun _ => ⟨rfl, by decide +kernel⟩, fun h => absurd h (by decide)⟩,
    List.forall_mem_cons.mpr ⟨⟨R_JL, F_JL, 4, t_JL, rfl, fun w h => hW w (u_JL w h), t_JL_ok, n_JL, by decide, rfl, Or.inr ⟨"ServerDesk", va_Nw.use rfl (hN _ (List.mem_of_getElem? (i := 24) (by decide +kernel)))⟩, fun _ => ⟨rfl, by decide +kernel⟩, fun h => absurd h (by decide)⟩,
    List.forall_mem_cons.mpr ⟨⟨R_EL, F_EL, 4, t_EL, rfl, fun w h => hW w (u_EL w h), t_EL_ok, n_EL, by decide, rfl, Or.inr ⟨"ServerDesk", va_Nw.use rfl (hN _ (List.mem_of_getElem? (i := 30) (by decide +kernel)))⟩, fun _ => ⟨rfl, by decide +kernel⟩, fun h => absurd h (by decide)⟩,
    List.forall_mem_cons.mpr ⟨⟨R_QU, F_QU, 5, t_QU, rfl, fun w h => hW w (u_QU w h), t_QU_ok, n_QU, by decide, rfl, Or.inr ⟨"ServerDesk", va_Nw.use rfl (hN _ (List.mem_of_getElem? (i := 32) (by decide +kernel)))⟩, fun h => absurd h (by decide), fun h => absurd h (by decide)⟩,
    List.forall_mem_cons.mpr ⟨⟨R_QU, F_QU, 5, t_QU, rfl, fun w h => hW w (u_QU w h), t_QU_ok, n_QU, by decide, rfl, Or.inr ⟨"ServerDesk", va_Nw.use rfl (hN _ (List.mem_of_getElem? (i := 34) (by decide +kernel)))⟩, fun _ => ⟨rfl, by decide +kernel⟩, fun h => absurd h (by decide)⟩,
    List.forall_mem_cons.mpr ⟨⟨R_BU, F_BU, 5, t_BU, rfl, fun w h => hW w (u_BU w h), t_BU_ok, n_BU, by decide, rfl, Or.inr ⟨"ServerDesk", va_Nw.use rfl (hN _ (List.mem_of_getElem? (i := 37) (by decide +kernel)))⟩, fun _ => ⟨rfl, by decide +kernel⟩, fun h => absurd h (by decide)⟩,
    List.forall_mem_cons.mpr ⟨⟨R_CO, F_CO, 7, t_CO, rfl, fun w h => hW w (u_CO w h), t_CO_ok, n_CO, by decide, rfl, Or.inr ⟨"ServerDesk", va_Nw.use rfl (hN _ (List.mem_of_getElem? (i := 41) (by decide +kernel)))⟩, fun h => absurd h (by decide), fun h => absurd h (by decide)⟩,
    List.forall_mem_cons.mpr ⟨⟨R_CO, F_CO, 7, t_CO, rfl, fun w h => hW w (u_CO w h), t_CO_ok, n_CO, by decide, rfl, Or.inr ⟨"ServerDesk", va_Nw.use rfl (hN _ (List.mem_of_getElem? (i := 43) (by decide +kernel)))⟩, fun h => absurd h (by decide), fun h => absurd h (by decide)⟩,
    List.forall_mem_cons.mpr ⟨⟨R_CO, F_CO, 7, t_CO, rfl, fun w h => hW w (u_CO w h), t_CO_ok, n_CO, by decide, rfl, Or.inr ⟨"ServerDesk", va_Nw.use rfl (hN _ (List.mem_of_getElem? (i := 44) (by decide +kernel)))⟩, fun h => absurd h (by decide), fun h => absurd h (by decide)⟩,
    List.forall_mem_cons.mpr ⟨⟨R_CO, F_CO, 7, t_CO, rfl, fun w h => hW w (u_CO w h), t_CO_ok, n_CO, by decide, rfl, Or.inr ⟨"ServerDesk", va_Nw.use rfl (hN _ (List.mem_of_getElem? (i := 46) (by decide +kernel)))⟩, fun _ => ⟨rfl, by decide +kernel⟩, fun h => absurd h (by decide)⟩,
    List.forall_mem_cons.mpr ⟨⟨R_RF, F_RF, 6, t_RF, rfl, fun w h => hW w (u_RF w h), t_RF_ok, n_RF, by decide, rfl, Or.inr ⟨"ServerDesk", va_Nw.use rfl (hN _ (List.mem_of_getElem? (i := 47) (by decide +kernel)))⟩, fun _ => ⟨rfl, by decide +kernel⟩, fun h => absurd h (by decide)⟩,
    List.forall_mem_cons.mpr ⟨⟨R_RF, F_RF, 6, t_RF, rfl, fun w h => hW w (u_RF w h), t_RF_ok, n_RF, by decide, rfl, Or.inr ⟨"ServerDesk", va_Nw.use rfl (hN _ (List.mem_of_getElem? (i := 48) (by decide +kernel)))⟩, fun _ => ⟨rfl, by decide +kernel⟩, fun h => absurd h (by decide)⟩,
    List.forall_mem_cons.mpr ⟨⟨R_RF, F_RF, 6, t_RF, rfl, fun w h => hW w (u_RF w h), t_RF_ok, n_RF, by decide, rfl, Or.inr ⟨"ServerDesk", va_Nw.use rfl (hN _ (List.mem_of_getElem? (i := 49) (by decide +kernel)))⟩, fun _ => ⟨rfl, by decide +kernel⟩, fun h => absurd h (by decide)⟩,
    List.forall_mem_cons.mpr ⟨⟨R_SD, F_SD, 10, t_SD, rfl, fun w h => hW w (u_SD w h), t_SD_ok, n_SD, by decide, rfl, Or.inl (hts _ (hW _ (vw_t 308 (by decide +kernel) (by decide +kernel)))), fun h => absurd h (by decide), fun h => absurd h (by decide)⟩,
    List.forall_mem_cons.mpr ⟨⟨R_SD, F_SD, 10, t_SD, rfl, fun w h => hW w (u_SD w h), t_SD_ok, n_SD, by decide, rfl, Or.inl (hts _ (hW _ (vw_t 309 (by decide +kernel) (by decide +kernel)))), fun h => absurd h (by decide), fun h => absurd h (by decide)⟩,
    List.forall_mem_cons.mpr ⟨⟨R_SD, F_SD, 10, t_SD, rfl, fun w h => hW w (u_SD w h), t_SD_ok, n_SD, by decide, rfl, Or.inl (hts _ (hW _ (vw_t 310 (by decide +kernel) (by decide +kernel)))), fun h => absurd h (by decide), fun h => absurd h (by decide)⟩,
    List.forall_mem_cons.mpr ⟨⟨R_SD, F_SD, 10, t_SD, rfl, fun w h => hW w (u_SD w h), t_SD_ok, n_SD, by decide, rfl, Or.inl (hts _ (hW _ (vw_t 311 (by decide +kernel) (by decide +kernel)))), fun h => absurd h (by decide), fun h => absurd h (by decide)⟩,
    List.forall_mem_cons.mpr ⟨⟨R_SD, F_SD, 10, t_SD, rfl, fun w h => hW w (u_SD w h), t_SD_ok, n_SD, by decide, rfl, Or.inl (hts _ (hW _ (vw_t 312 (by decide +kernel) (by decide +kernel)))), fun h => absurd h (by decide), fun h => absurd h (by decide)⟩,
    List.forall_mem_cons.mpr ⟨⟨R_SD, F_SD, 10, t_SD, rfl, fun w h => hW w (u_SD w h), t_SD_ok, n_SD, by decide, rfl, Or.inl (hts _ (hW _ (vw_t 313 (by decide +kernel) (by decide +kernel)))), fun h => absurd h (by decide), fun h => absurd h (by decide)⟩,
    List.forall_mem_cons.mpr ⟨⟨R_SD, F_SD, 10, t_SD, rfl, fun w h => hW w (u_SD w h), t_SD_ok, n_SD, by decide, rfl, Or.inl (hts _ (hW _ (vw_t 314 (by decide +kernel) (by decide +kernel)))), fun h => absurd h (by decide), fun h => absurd h (by decide)⟩,
    List.forall_mem_cons.mpr ⟨⟨R_SD, F_SD, 10, t_SD, rfl, fun w h => hW w (u_SD w h), t_SD_ok, n_SD, by decide, rfl, Or.inl (hts _ (hW _ (vw_t 315 (by decide +kernel) (by decide +kernel)))), fun h => absurd h (by decide), fun h => absurd h (by decide)⟩,
    List.forall_mem_cons.mpr ⟨⟨R_SD, F_SD, 10, t_SD, rfl, fun w h => hW w (u_SD w h), t_SD_ok, n_SD, by decide, rfl, Or.inl (hts _ (hW _ (vw_t 316 (by decide +kernel) (by decide +kernel)))), fun h => absurd h (by decide), fun _ => ⟨rfl, by decide +kernel⟩⟩,
    List.forall_mem_cons.mpr ⟨⟨R_SD, F_SD, 10, t_SD, rfl, fun w h => hW w (u_SD w h), t_SD_ok, n_SD, by decide, rfl, Or.inl (hts _ (hW _ (vw_t 317 (by decide +kernel) (by decide +kernel)))), fun _ => ⟨rfl, by decide +kernel⟩, fun h => absurd h (by decide)⟩,
    fun _ h => absurd h List.not_mem_nil⟩⟩⟩⟩⟩⟩⟩⟩⟩⟩⟩⟩⟩⟩⟩⟩⟩⟩⟩⟩⟩⟩⟩⟩⟩⟩
  intro idx ci j q h
  exact all _ (am_find_mem h)
def fl_TS : List (Nat × Nat × Nat × Nat) := [(9, 1, 0, 0), (15, 1, 1, 0), (18, 1, 2, 0), (21, 1, 3, 0), (24, 1, 4, 0), (27, 1, 5, 1), (31, 1, 6, 1)]
def fd_TS : Nat → Option (Nat × Nat × Nat) := am_find fl_TS
theorem fd_TS_9 : fd_TS 9 = some (1, 0, 0) := rfl
theorem fd_TS_15 : fd_TS 15 = some (1, 1, 0) := rfl
theorem fd_TS_18 : fd_TS 18 = some (1, 2, 0) := rfl
theorem fd_TS_21 : fd_TS 21 = some (1, 3, 0) := rfl
theorem fd_TS_24 : fd_TS 24 = some (1, 4, 0) := rfl
theorem fd_TS_27 : fd_TS 27 = some (1, 5, 1) := rfl
theorem fd_TS_31 : fd_TS 31 = some (1, 6, 1) := rfl
theorem fd_TS_ok (args : Array Value) (s : State) {Ts : List Jvm.Cond} (hW : ∀ w ∈ vw_W, w ∈ Ts) (hts : ∀ w ∈ Ts, w.before args s = true) (hN : ∀ w ∈ vw_N, va_Nw w s) : ∀ idx ci j q, fd_TS idx = some (ci, j, q) → am_FOK vw_cl R_TS args s Ts idx ci j q := by
  have all : ∀ z ∈ fl_TS, am_FOK vw_cl R_TS args s Ts z.1 z.2.1 z.2.2.1 z.2.2.2 := List.forall_mem_cons.mpr ⟨⟨R_TS, F_TS, 7, t_TS, rfl, fun w h => hW w (u_TS w h), t_TS_ok, n_TS, by decide, rfl, Or.inl (hts _ (hW _ (vw_t 37 (by decide +kernel) (by decide +kernel)))), fun h => absurd h (by decide), fun h => absurd h (by decide)⟩,
    List.forall_mem_cons.mpr ⟨⟨R_TS, F_TS, 7, t_TS, rfl, fun w h => hW w (u_TS w h), t_TS_ok, n_TS, by decide, rfl, Or.inl (hts _ (hW _ (vw_t 39 (by decide +kernel) (by decide +kernel)))), fun h => absurd h (by decide), fun h => absurd h (by decide)⟩,
    List.forall_mem_cons.mpr ⟨⟨R_TS, F_TS, 7, t_TS, rfl, fun w h => hW w (u_TS w h), t_TS_ok, n_TS, by decide, rfl, Or.inl (hts _ (hW _ (vw_t 41 (by decide +kernel) (by decide +kernel)))), fun h => absurd h (by decide), fun h => absurd h (by decide)⟩,
    List.forall_mem_cons.mpr ⟨⟨R_TS, F_TS, 7, t_TS, rfl, fun w h => hW w (u_TS w h), t_TS_ok, n_TS, by decide, rfl, Or.inl (hts _ (hW _ (vw_t 44 (by decide +kernel) (by decide +kernel)))), fun h => absurd h (by decide), fun h => absurd h (by decide)⟩,
    List.forall_mem_cons.mpr ⟨⟨R_TS, F_TS, 7, t_TS, rfl, fun w h => hW w (u_TS w h), t_TS_ok, n_TS, by decide, rfl, Or.inl (hts _ (hW _ (vw_t 46 (by decide +kernel) (by decide +kernel)))), fun h => absurd h (by decide), fun h => absurd h (by decide)⟩,
    List.forall_mem_cons.mpr ⟨⟨R_TS, F_TS, 7, t_TS, rfl, fun w h => hW w (u_TS w h), t_TS_ok, n_TS, by decide, rfl, Or.inl (hts _ (hW _ (vw_t 50 (by decide +kernel) (by decide +kernel)))), fun _ => ⟨rfl, by decide +kernel⟩, fun h => absurd h (by decide)⟩,
    List.forall_mem_cons.mpr ⟨⟨R_TS, F_TS, 7, t_TS, rfl, fun w h => hW w (u_TS w h), t_TS_ok, n_TS, by decide, rfl, Or.inl (hts _ (hW _ (vw_t 56 (by decide +kernel) (by decide +kernel)))), fun _ => ⟨rfl, by decide +kernel⟩, fun h => absurd h (by decide)⟩,
    fun _ h => absurd h List.not_mem_nil⟩⟩⟩⟩⟩⟩⟩
  intro idx ci j q h
  exact all _ (am_find_mem h)
def fl_RB : List (Nat × Nat × Nat × Nat) := [(9, 2, 0, 0), (15, 2, 1, 0), (18, 2, 2, 1)]
def fd_RB : Nat → Option (Nat × Nat × Nat) := am_find fl_RB
theorem fd_RB_9 : fd_RB 9 = some (2, 0, 0) := rfl
theorem fd_RB_15 : fd_RB 15 = some (2, 1, 0) := rfl
theorem fd_RB_18 : fd_RB 18 = some (2, 2, 1) := rfl
theorem fd_RB_ok (args : Array Value) (s : State) {Ts : List Jvm.Cond} (hW : ∀ w ∈ vw_W, w ∈ Ts) (hts : ∀ w ∈ Ts, w.before args s = true) (hN : ∀ w ∈ vw_N, va_Nw w s) : ∀ idx ci j q, fd_RB idx = some (ci, j, q) → am_FOK vw_cl R_RB args s Ts idx ci j q := by
  have all : ∀ z ∈ fl_RB, am_FOK vw_cl R_RB args s Ts z.1 z.2.1 z.2.2.1 z.2.2.2 := List.forall_mem_cons.mpr ⟨⟨R_RB, F_RB, 3, t_RB, rfl, fun w h => hW w (u_RB w h), t_RB_ok, n_RB, by decide, rfl, Or.inl (hts _ (hW _ (vw_t 87 (by decide +kernel) (by decide +kernel)))), fun h => absurd h (by decide), fun h => absurd h (by decide)⟩,
    List.forall_mem_cons.mpr ⟨⟨R_RB, F_RB, 3, t_RB, rfl, fun w h => hW w (u_RB w h), t_RB_ok, n_RB, by decide, rfl, Or.inl (hts _ (hW _ (vw_t 89 (by decide +kernel) (by decide +kernel)))), fun h => absurd h (by decide), fun h => absurd h (by decide)⟩,
    List.forall_mem_cons.mpr ⟨⟨R_RB, F_RB, 3, t_RB, rfl, fun w h => hW w (u_RB w h), t_RB_ok, n_RB, by decide, rfl, Or.inl (hts _ (hW _ (vw_t 91 (by decide +kernel) (by decide +kernel)))), fun _ => ⟨rfl, by decide +kernel⟩, fun h => absurd h (by decide)⟩,
    fun _ h => absurd h List.not_mem_nil⟩⟩⟩
  intro idx ci j q h
  exact all _ (am_find_mem h)
def fl_JL : List (Nat × Nat × Nat × Nat) := [(9, 3, 0, 0), (15, 3, 1, 0), (18, 3, 2, 0), (22, 3, 3, 1)]
def fd_JL : Nat → Option (Nat × Nat × Nat) := am_find fl_JL
theorem fd_JL_9 : fd_JL 9 = some (3, 0, 0) := rfl
theorem fd_JL_15 : fd_JL 15 = some (3, 1, 0) := rfl
theorem fd_JL_18 : fd_JL 18 = some (3, 2, 0) := rfl
theorem fd_JL_22 : fd_JL 22 = some (3, 3, 1) := rfl
theorem fd_JL_ok (args : Array Value) (s : State) {Ts : List Jvm.Cond} (hW : ∀ w ∈ vw_W, w ∈ Ts) (hts : ∀ w ∈ Ts, w.before args s = true) (hN : ∀ w ∈ vw_N, va_Nw w s) : ∀ idx ci j q, fd_JL idx = some (ci, j, q) → am_FOK vw_cl R_JL args s Ts idx ci j q := by
  have all : ∀ z ∈ fl_JL, am_FOK vw_cl R_JL args s Ts z.1 z.2.1 z.2.2.1 z.2.2.2 := List.forall_mem_cons.mpr ⟨⟨R_JL, F_JL, 4, t_JL, rfl, fun w h => hW w (u_JL w h), t_JL_ok, n_JL, by decide, rfl, Or.inl (hts _ (hW _ (vw_t 106 (by decide +kernel) (by decide +kernel)))), fun h => absurd h (by decide), fun h => absurd h (by decide)⟩,
    List.forall_mem_cons.mpr ⟨⟨R_JL, F_JL, 4, t_JL, rfl, fun w h => hW w (u_JL w h), t_JL_ok, n_JL, by decide, rfl, Or.inl (hts _ (hW _ (vw_t 109 (by decide +kernel) (by decide +kernel)))), fun h => absurd h (by decide), fun h => absurd h (by decide)⟩,
    List.forall_mem_cons.mpr ⟨⟨R_JL, F_JL, 4, t_JL, rfl, fun w h => hW w (u_JL w h), t_JL_ok, n_JL, by decide, rfl, Or.inl (hts _ (hW _ (vw_t 111 (by decide +kernel) (by decide +kernel)))), fun h => absurd h (by decide), fun h => absurd h (by decide)⟩,
    List.forall_mem_cons.mpr ⟨⟨R_JL, F_JL, 4, t_JL, rfl, fun w h => hW w (u_JL w h), t_JL_ok, n_JL, by decide, rfl, Or.inl (hts _ (hW _ (vw_t 113 (by decide +kernel) (by decide +kernel)))), fun _ => ⟨rfl, by decide +kernel⟩, fun h => absurd h (by decide)⟩,
    fun _ h => absurd h List.not_mem_nil⟩⟩⟩⟩
  intro idx ci j q h
  exact all _ (am_find_mem h)
def fl_EL : List (Nat × Nat × Nat × Nat) := [(9, 4, 0, 0), (15, 4, 1, 0), (18, 4, 2, 0), (21, 4, 3, 1)]
def fd_EL : Nat → Option (Nat × Nat × Nat) := am_find fl_EL
theorem fd_EL_9 : fd_EL 9 = some (4, 0, 0) := rfl
theorem fd_EL_15 : fd_EL 15 = some (4, 1, 0) := rfl
theorem fd_EL_18 : fd_EL 18 = some (4, 2, 0) := rfl
theorem fd_EL_21 : fd_EL 21 = some (4, 3, 1) := rfl
theorem fd_EL_ok (args : Array Value) (s : State) {Ts : List Jvm.Cond} (hW : ∀ w ∈ vw_W, w ∈ Ts) (hts : ∀ w ∈ Ts, w.before args s = true) (hN : ∀ w ∈ vw_N, va_Nw w s) : ∀ idx ci j q, fd_EL idx = some (ci, j, q) → am_FOK vw_cl R_EL args s Ts idx ci j q := by
  have all : ∀ z ∈ fl_EL, am_FOK vw_cl R_EL args s Ts z.1 z.2.1 z.2.2.1 z.2.2.2 := List.forall_mem_cons.mpr ⟨⟨R_EL, F_EL, 4, t_EL, rfl, fun w h => hW w (u_EL w h), t_EL_ok, n_EL, by decide, rfl, Or.inl (hts _ (hW _ (vw_t 132 (by decide +kernel) (by decide +kernel)))), fun h => absurd h (by decide), fun h => absurd h (by decide)⟩,
    List.forall_mem_cons.mpr ⟨⟨R_EL, F_EL, 4, t_EL, rfl, fun w h => hW w (u_EL w h), t_EL_ok, n_EL, by decide, rfl, Or.inl (hts _ (hW _ (vw_t 134 (by decide +kernel) (by decide +kernel)))), fun h => absurd h (by decide), fun h => absurd h (by decide)⟩,
    List.forall_mem_cons.mpr ⟨⟨R_EL, F_EL, 4, t_EL, rfl, fun w h => hW w (u_EL w h), t_EL_ok, n_EL, by decide, rfl, Or.inl (hts _ (hW _ (vw_t 136 (by decide +kernel) (by decide +kernel)))), fun h => absurd h (by decide), fun h => absurd h (by decide)⟩,
    List.forall_mem_cons.mpr ⟨⟨R_EL, F_EL, 4, t_EL, rfl, fun w h => hW w (u_EL w h), t_EL_ok, n_EL, by decide, rfl, Or.inl (hts _ (hW _ (vw_t 138 (by decide +kernel) (by decide +kernel)))), fun _ => ⟨rfl, by decide +kernel⟩, fun h => absurd h (by decide)⟩,
    fun _ h => absurd h List.not_mem_nil⟩⟩⟩⟩
  intro idx ci j q h
  exact all _ (am_find_mem h)
def fl_LO : List (Nat × Nat × Nat × Nat) := [(53, 1, 0, 0), (34, 1, 1, 0), (37, 1, 2, 0), (50, 1, 3, 0), (56, 1, 4, 0), (28, 1, 5, 1), (24, 5, 0, 0), (9, 5, 1, 0), (15, 5, 2, 0), (18, 5, 3, 0), (21, 5, 4, 0)]
def fd_LO : Nat → Option (Nat × Nat × Nat) := am_find fl_LO
theorem fd_LO_53 : fd_LO 53 = some (1, 0, 0) := rfl
theorem fd_LO_34 : fd_LO 34 = some (1, 1, 0) := rfl
theorem fd_LO_37 : fd_LO 37 = some (1, 2, 0) := rfl
theorem fd_LO_50 : fd_LO 50 = some (1, 3, 0) := rfl
theorem fd_LO_56 : fd_LO 56 = some (1, 4, 0) := rfl
theorem fd_LO_28 : fd_LO 28 = some (1, 5, 1) := rfl
theorem fd_LO_24 : fd_LO 24 = some (5, 0, 0) := rfl
theorem fd_LO_9 : fd_LO 9 = some (5, 1, 0) := rfl
theorem fd_LO_15 : fd_LO 15 = some (5, 2, 0) := rfl
theorem fd_LO_18 : fd_LO 18 = some (5, 3, 0) := rfl
theorem fd_LO_21 : fd_LO 21 = some (5, 4, 0) := rfl
theorem fd_LO_ok (args : Array Value) (s : State) {Ts : List Jvm.Cond} (hW : ∀ w ∈ vw_W, w ∈ Ts) (hts : ∀ w ∈ Ts, w.before args s = true) (hN : ∀ w ∈ vw_N, va_Nw w s) : ∀ idx ci j q, fd_LO idx = some (ci, j, q) → am_FOK vw_cl R_LO args s Ts idx ci j q := by
  have all : ∀ z ∈ fl_LO, am_FOK vw_cl R_LO args s Ts z.1 z.2.1 z.2.2.1 z.2.2.2 := List.forall_mem_cons.mpr ⟨⟨R_TS, F_TS, 7, t_TS, rfl, fun w h => hW w (u_TS w h), t_TS_ok, n_TS, by decide, rfl, Or.inr ⟨"ServerDesk", va_Nw.use rfl (hN _ (List.mem_of_getElem? (i := 1) (by decide +kernel)))⟩, fun h => absurd h (by decide), fun h => absurd h (by decide)⟩,
    List.forall_mem_cons.mpr ⟨⟨R_TS, F_TS, 7, t_TS, rfl, fun w h => hW w (u_TS w h), t_TS_ok, n_TS, by decide, rfl, Or.inr ⟨"ServerDesk", va_Nw.use rfl (hN _ (List.mem_of_getElem? (i := 2) (by decide +kernel)))⟩, fun h => absurd h (by decide), fun h => absurd h (by decide)⟩,
    List.forall_mem_cons.mpr ⟨⟨R_TS, F_TS, 7, t_TS, rfl, fun w h => hW w (u_TS w h), t_TS_ok, n_TS, by decide, rfl, Or.inr ⟨"ServerDesk", va_Nw.use rfl (hN _ (List.mem_of_getElem? (i := 3) (by decide +kernel)))⟩, fun h => absurd h (by decide), fun h => absurd h (by decide)⟩,
    List.forall_mem_cons.mpr ⟨⟨R_TS, F_TS, 7, t_TS, rfl, fun w h => hW w (u_TS w h), t_TS_ok, n_TS, by decide, rfl, Or.inr ⟨"ServerDesk", va_Nw.use rfl (hN _ (List.mem_of_getElem? (i := 5) (by decide +kernel)))⟩, fun h => absurd h (by decide), fun h => absurd h (by decide)⟩,
    List.forall_mem_cons.mpr ⟨⟨R_TS, F_TS, 7, t_TS, rfl, fun w h => hW w (u_TS w h), t_TS_ok, n_TS, by decide, rfl, Or.inr ⟨"ServerDesk", va_Nw.use rfl (hN _ (List.mem_of_getElem? (i := 8) (by decide +kernel)))⟩, fun h => absurd h (by decide), fun h => absurd h (by decide)⟩,
    List.forall_mem_cons.mpr ⟨⟨R_TS, F_TS, 7, t_TS, rfl, fun w h => hW w (u_TS w h), t_TS_ok, n_TS, by decide, rfl, Or.inr ⟨"ServerDesk", va_Nw.use rfl (hN _ (List.mem_of_getElem? (i := 9) (by decide +kernel)))⟩, fun _ => ⟨rfl, by decide +kernel⟩, fun h => absurd h (by decide)⟩,
    List.forall_mem_cons.mpr ⟨⟨R_LO, F_LO, 5, t_LO, rfl, fun w h => hW w (u_LO w h), t_LO_ok, n_LO, by decide, rfl, Or.inl (hts _ (hW _ (vw_t 162 (by decide +kernel) (by decide +kernel)))), fun h => absurd h (by decide), fun h => absurd h (by decide)⟩,
    List.forall_mem_cons.mpr ⟨⟨R_LO, F_LO, 5, t_LO, rfl, fun w h => hW w (u_LO w h), t_LO_ok, n_LO, by decide, rfl, Or.inl (hts _ (hW _ (vw_t 163 (by decide +kernel) (by decide +kernel)))), fun h => absurd h (by decide), fun h => absurd h (by decide)⟩,
    List.forall_mem_cons.mpr ⟨⟨R_LO, F_LO, 5, t_LO, rfl, fun w h => hW w (u_LO w h), t_LO_ok, n_LO, by decide, rfl, Or.inl (hts _ (hW _ (vw_t 164 (by decide +kernel) (by decide +kernel)))), fun h => absurd h (by decide), fun h => absurd h (by decide)⟩,
    List.forall_mem_cons.mpr ⟨⟨R_LO, F_LO, 5, t_LO, rfl, fun w h => hW w (u_LO w h), t_LO_ok, n_LO, by decide, rfl, Or.inl (hts _ (hW _ (vw_t 165 (by decide +kernel) (by decide +kernel)))), fun h => absurd h (by decide), fun h => absurd h (by decide)⟩,
    List.forall_mem_cons.mpr ⟨⟨R_LO, F_LO, 5, t_LO, rfl, fun w h => hW w (u_LO w h), t_LO_ok, n_LO, by decide, rfl, Or.inl (hts _ (hW _ (vw_t 166 (by decide +kernel) (by decide +kernel)))), fun h => absurd h (by decide), fun h => absurd h (by decide)⟩,
    fun _ h => absurd h List.not_mem_nil⟩⟩⟩⟩⟩⟩⟩⟩⟩⟩⟩
  intro idx ci j q h
  exact all _ (am_find_mem h)
def fl_SM : List (Nat × Nat × Nat × Nat) := [(66, 1, 4, 0), (50, 1, 5, 1), (18, 6, 0, 0), (27, 6, 1, 0), (9, 6, 2, 0), (15, 6, 3, 0)]
def fd_SM : Nat → Option (Nat × Nat × Nat) := am_find fl_SM
theorem fd_SM_66 : fd_SM 66 = some (1, 4, 0) := rfl
theorem fd_SM_50 : fd_SM 50 = some (1, 5, 1) := rfl
theorem fd_SM_18 : fd_SM 18 = some (6, 0, 0) := rfl
theorem fd_SM_27 : fd_SM 27 = some (6, 1, 0) := rfl
theorem fd_SM_9 : fd_SM 9 = some (6, 2, 0) := rfl
theorem fd_SM_15 : fd_SM 15 = some (6, 3, 0) := rfl
theorem fd_SM_ok (args : Array Value) (s : State) {Ts : List Jvm.Cond} (hW : ∀ w ∈ vw_W, w ∈ Ts) (hts : ∀ w ∈ Ts, w.before args s = true) (hN : ∀ w ∈ vw_N, va_Nw w s) : ∀ idx ci j q, fd_SM idx = some (ci, j, q) → am_FOK vw_cl R_SM args s Ts idx ci j q := by
  have all : ∀ z ∈ fl_SM, am_FOK vw_cl R_SM args s Ts z.1 z.2.1 z.2.2.1 z.2.2.2 := List.forall_mem_cons.mpr ⟨⟨R_TS, F_TS, 7, t_TS, rfl, fun w h => hW w (u_TS w h), t_TS_ok, n_TS, by decide, rfl, Or.inr ⟨"ServerDesk", va_Nw.use rfl (hN _ (List.mem_of_getElem? (i := 6) (by decide +kernel)))⟩, fun h => absurd h (by decide), fun h => absurd h (by decide)⟩,
    List.forall_mem_cons.mpr ⟨⟨R_TS, F_TS, 7, t_TS, rfl, fun w h => hW w (u_TS w h), t_TS_ok, n_TS, by decide, rfl, Or.inr ⟨"ServerDesk", va_Nw.use rfl (hN _ (List.mem_of_getElem? (i := 11) (by decide +kernel)))⟩, fun _ => ⟨rfl, by decide +kernel⟩, fun h => absurd h (by decide)⟩,
    List.forall_mem_cons.mpr ⟨⟨R_SM, F_SM, 4, t_SM, rfl, fun w h => hW w (u_SM w h), t_SM_ok, n_SM, by decide, rfl, Or.inl (hts _ (hW _ (vw_t 178 (by decide +kernel) (by decide +kernel)))), fun h => absurd h (by decide), fun h => absurd h (by decide)⟩,
    List.forall_mem_cons.mpr ⟨⟨R_SM, F_SM, 4, t_SM, rfl, fun w h => hW w (u_SM w h), t_SM_ok, n_SM, by decide, rfl, Or.inl (hts _ (hW _ (vw_t 179 (by decide +kernel) (by decide +kernel)))), fun h => absurd h (by decide), fun h => absurd h (by decide)⟩,
    List.forall_mem_cons.mpr ⟨⟨R_SM, F_SM, 4, t_SM, rfl, fun w h => hW w (u_SM w h), t_SM_ok, n_SM, by decide, rfl, Or.inl (hts _ (hW _ (vw_t 180 (by decide +kernel) (by decide +kernel)))), fun h => absurd h (by decide), fun h => absurd h (by decide)⟩,
    List.forall_mem_cons.mpr ⟨⟨R_SM, F_SM, 4, t_SM, rfl, fun w h => hW w (u_SM w h), t_SM_ok, n_SM, by decide, rfl, Or.inl (hts _ (hW _ (vw_t 181 (by decide +kernel) (by decide +kernel)))), fun h => absurd h (by decide), fun h => absurd h (by decide)⟩,
    fun _ h => absurd h List.not_mem_nil⟩⟩⟩⟩⟩⟩
  intro idx ci j q h
  exact all _ (am_find_mem h)
def fl_BU : List (Nat × Nat × Nat × Nat) := [(40, 2, 0, 0), (43, 2, 1, 0), (9, 7, 0, 0), (15, 7, 1, 1), (19, 7, 2, 1), (22, 7, 3, 1), (25, 7, 4, 1)]
def fd_BU : Nat → Option (Nat × Nat × Nat) := am_find fl_BU
theorem fd_BU_40 : fd_BU 40 = some (2, 0, 0) := rfl
theorem fd_BU_43 : fd_BU 43 = some (2, 1, 0) := rfl
theorem fd_BU_9 : fd_BU 9 = some (7, 0, 0) := rfl
theorem fd_BU_15 : fd_BU 15 = some (7, 1, 1) := rfl
theorem fd_BU_19 : fd_BU 19 = some (7, 2, 1) := rfl
theorem fd_BU_22 : fd_BU 22 = some (7, 3, 1) := rfl
theorem fd_BU_25 : fd_BU 25 = some (7, 4, 1) := rfl
theorem fd_BU_ok (args : Array Value) (s : State) {Ts : List Jvm.Cond} (hW : ∀ w ∈ vw_W, w ∈ Ts) (hts : ∀ w ∈ Ts, w.before args s = true) (hN : ∀ w ∈ vw_N, va_Nw w s) : ∀ idx ci j q, fd_BU idx = some (ci, j, q) → am_FOK vw_cl R_BU args s Ts idx ci j q := by
  have all : ∀ z ∈ fl_BU, am_FOK vw_cl R_BU args s Ts z.1 z.2.1 z.2.2.1 z.2.2.2 := List.forall_mem_cons.mpr ⟨⟨R_RB, F_RB, 3, t_RB, rfl, fun w h => hW w (u_RB w h), t_RB_ok, n_RB, by decide, rfl, Or.inr ⟨"ServerDesk", va_Nw.use rfl (hN _ (List.mem_of_getElem? (i := 15) (by decide +kernel)))⟩, fun h => absurd h (by decide), fun h => absurd h (by decide)⟩,
    List.forall_mem_cons.mpr ⟨⟨R_RB, F_RB, 3, t_RB, rfl, fun w h => hW w (u_RB w h), t_RB_ok, n_RB, by decide, rfl, Or.inr ⟨"ServerDesk", va_Nw.use rfl (hN _ (List.mem_of_getElem? (i := 16) (by decide +kernel)))⟩, fun h => absurd h (by decide), fun h => absurd h (by decide)⟩,
    List.forall_mem_cons.mpr ⟨⟨R_BU, F_BU, 5, t_BU, rfl, fun w h => hW w (u_BU w h), t_BU_ok, n_BU, by decide, rfl, Or.inl (hts _ (hW _ (vw_t 231 (by decide +kernel) (by decide +kernel)))), fun h => absurd h (by decide), fun h => absurd h (by decide)⟩,
    List.forall_mem_cons.mpr ⟨⟨R_BU, F_BU, 5, t_BU, rfl, fun w h => hW w (u_BU w h), t_BU_ok, n_BU, by decide, rfl, Or.inl (hts _ (hW _ (vw_t 232 (by decide +kernel) (by decide +kernel)))), fun _ => ⟨rfl, by decide +kernel⟩, fun h => absurd h (by decide)⟩,
    List.forall_mem_cons.mpr ⟨⟨R_BU, F_BU, 5, t_BU, rfl, fun w h => hW w (u_BU w h), t_BU_ok, n_BU, by decide, rfl, Or.inl (hts _ (hW _ (vw_t 233 (by decide +kernel) (by decide +kernel)))), fun _ => ⟨rfl, by decide +kernel⟩, fun h => absurd h (by decide)⟩,
    List.forall_mem_cons.mpr ⟨⟨R_BU, F_BU, 5, t_BU, rfl, fun w h => hW w (u_BU w h), t_BU_ok, n_BU, by decide, rfl, Or.inl (hts _ (hW _ (vw_t 234 (by decide +kernel) (by decide +kernel)))), fun _ => ⟨rfl, by decide +kernel⟩, fun h => absurd h (by decide)⟩,
    List.forall_mem_cons.mpr ⟨⟨R_BU, F_BU, 5, t_BU, rfl, fun w h => hW w (u_BU w h), t_BU_ok, n_BU, by decide, rfl, Or.inl (hts _ (hW _ (vw_t 235 (by decide +kernel) (by decide +kernel)))), fun _ => ⟨rfl, by decide +kernel⟩, fun h => absurd h (by decide)⟩,
    fun _ h => absurd h List.not_mem_nil⟩⟩⟩⟩⟩⟩⟩
  intro idx ci j q h
  exact all _ (am_find_mem h)
def fl_QU : List (Nat × Nat × Nat × Nat) := [(34, 3, 0, 0), (37, 3, 1, 0), (40, 3, 2, 0), (29, 3, 3, 1), (25, 8, 0, 0), (9, 8, 1, 0), (15, 8, 2, 0), (18, 8, 3, 1), (22, 8, 4, 1)]
def fd_QU : Nat → Option (Nat × Nat × Nat) := am_find fl_QU
theorem fd_QU_34 : fd_QU 34 = some (3, 0, 0) := rfl
theorem fd_QU_37 : fd_QU 37 = some (3, 1, 0) := rfl
theorem fd_QU_40 : fd_QU 40 = some (3, 2, 0) := rfl
theorem fd_QU_29 : fd_QU 29 = some (3, 3, 1) := rfl
theorem fd_QU_25 : fd_QU 25 = some (8, 0, 0) := rfl
theorem fd_QU_9 : fd_QU 9 = some (8, 1, 0) := rfl
theorem fd_QU_15 : fd_QU 15 = some (8, 2, 0) := rfl
theorem fd_QU_18 : fd_QU 18 = some (8, 3, 1) := rfl
theorem fd_QU_22 : fd_QU 22 = some (8, 4, 1) := rfl
theorem fd_QU_ok (args : Array Value) (s : State) {Ts : List Jvm.Cond} (hW : ∀ w ∈ vw_W, w ∈ Ts) (hts : ∀ w ∈ Ts, w.before args s = true) (hN : ∀ w ∈ vw_N, va_Nw w s) : ∀ idx ci j q, fd_QU idx = some (ci, j, q) → am_FOK vw_cl R_QU args s Ts idx ci j q := by
  have all : ∀ z ∈ fl_QU, am_FOK vw_cl R_QU args s Ts z.1 z.2.1 z.2.2.1 z.2.2.2 := List.forall_mem_cons.mpr ⟨⟨R_JL, F_JL, 4, t_JL, rfl, fun w h => hW w (u_JL w h), t_JL_ok, n_JL, by decide, rfl, Or.inr ⟨"ServerDesk", va_Nw.use rfl (hN _ (List.mem_of_getElem? (i := 19) (by decide +kernel)))⟩, fun h => absurd h (by decide), fun h => absurd h (by decide)⟩,
    List.forall_mem_cons.mpr ⟨⟨R_JL, F_JL, 4, t_JL, rfl, fun w h => hW w (u_JL w h), t_JL_ok, n_JL, by decide, rfl, Or.inr ⟨"ServerDesk", va_Nw.use rfl (hN _ (List.mem_of_getElem? (i := 21) (by decide +kernel)))⟩, fun h => absurd h (by decide), fun h => absurd h (by decide)⟩,
    List.forall_mem_cons.mpr ⟨⟨R_JL, F_JL, 4, t_JL, rfl, fun w h => hW w (u_JL w h), t_JL_ok, n_JL, by decide, rfl, Or.inr ⟨"ServerDesk", va_Nw.use rfl (hN _ (List.mem_of_getElem? (i := 22) (by decide +kernel)))⟩, fun h => absurd h (by decide), fun h => absurd h (by decide)⟩,
    List.forall_mem_cons.mpr ⟨⟨R_JL, F_JL, 4, t_JL, rfl, fun w h => hW w (u_JL w h), t_JL_ok, n_JL, by decide, rfl, Or.inr ⟨"ServerDesk", va_Nw.use rfl (hN _ (List.mem_of_getElem? (i := 23) (by decide +kernel)))⟩, fun _ => ⟨rfl, by decide +kernel⟩, fun h => absurd h (by decide)⟩,
    List.forall_mem_cons.mpr ⟨⟨R_QU, F_QU, 5, t_QU, rfl, fun w h => hW w (u_QU w h), t_QU_ok, n_QU, by decide, rfl, Or.inl (hts _ (hW _ (vw_t 205 (by decide +kernel) (by decide +kernel)))), fun h => absurd h (by decide), fun h => absurd h (by decide)⟩,
    List.forall_mem_cons.mpr ⟨⟨R_QU, F_QU, 5, t_QU, rfl, fun w h => hW w (u_QU w h), t_QU_ok, n_QU, by decide, rfl, Or.inl (hts _ (hW _ (vw_t 206 (by decide +kernel) (by decide +kernel)))), fun h => absurd h (by decide), fun h => absurd h (by decide)⟩,
    List.forall_mem_cons.mpr ⟨⟨R_QU, F_QU, 5, t_QU, rfl, fun w h => hW w (u_QU w h), t_QU_ok, n_QU, by decide, rfl, Or.inl (hts _ (hW _ (vw_t 207 (by decide +kernel) (by decide +kernel)))), fun h => absurd h (by decide), fun h => absurd h (by decide)⟩,
    List.forall_mem_cons.mpr ⟨⟨R_QU, F_QU, 5, t_QU, rfl, fun w h => hW w (u_QU w h), t_QU_ok, n_QU, by decide, rfl, Or.inl (hts _ (hW _ (vw_t 210 (by decide +kernel) (by decide +kernel)))), fun _ => ⟨rfl, by decide +kernel⟩, fun h => absurd h (by decide)⟩,
    List.forall_mem_cons.mpr ⟨⟨R_QU, F_QU, 5, t_QU, rfl, fun w h => hW w (u_QU w h), t_QU_ok, n_QU, by decide, rfl, Or.inl (hts _ (hW _ (vw_t 212 (by decide +kernel) (by decide +kernel)))), fun _ => ⟨rfl, by decide +kernel⟩, fun h => absurd h (by decide)⟩,
    fun _ h => absurd h List.not_mem_nil⟩⟩⟩⟩⟩⟩⟩⟩⟩
  intro idx ci j q h
  exact all _ (am_find_mem h)
def fl_CO : List (Nat × Nat × Nat × Nat) := [(103, 1, 4, 0), (76, 1, 5, 1), (84, 7, 4, 1), (18, 9, 0, 0), (22, 9, 1, 0), (31, 9, 2, 0), (40, 9, 3, 0), (47, 9, 4, 0), (9, 9, 5, 1), (15, 9, 6, 1)]
def fd_CO : Nat → Option (Nat × Nat × Nat) := am_find fl_CO
theorem fd_CO_103 : fd_CO 103 = some (1, 4, 0) := rfl
theorem fd_CO_76 : fd_CO 76 = some (1, 5, 1) := rfl
theorem fd_CO_84 : fd_CO 84 = some (7, 4, 1) := rfl
theorem fd_CO_18 : fd_CO 18 = some (9, 0, 0) := rfl
theorem fd_CO_22 : fd_CO 22 = some (9, 1, 0) := rfl
theorem fd_CO_31 : fd_CO 31 = some (9, 2, 0) := rfl
theorem fd_CO_40 : fd_CO 40 = some (9, 3, 0) := rfl
theorem fd_CO_47 : fd_CO 47 = some (9, 4, 0) := rfl
theorem fd_CO_9 : fd_CO 9 = some (9, 5, 1) := rfl
theorem fd_CO_15 : fd_CO 15 = some (9, 6, 1) := rfl
theorem fd_CO_ok (args : Array Value) (s : State) {Ts : List Jvm.Cond} (hW : ∀ w ∈ vw_W, w ∈ Ts) (hts : ∀ w ∈ Ts, w.before args s = true) (hN : ∀ w ∈ vw_N, va_Nw w s) : ∀ idx ci j q, fd_CO idx = some (ci, j, q) → am_FOK vw_cl R_CO args s Ts idx ci j q := by
  have all : ∀ z ∈ fl_CO, am_FOK vw_cl R_CO args s Ts z.1 z.2.1 z.2.2.1 z.2.2.2 := List.forall_mem_cons.mpr ⟨⟨R_TS, F_TS, 7, t_TS, rfl, fun w h => hW w (u_TS w h), t_TS_ok, n_TS, by decide, rfl, Or.inr ⟨"ServerDesk", va_Nw.use rfl (hN _ (List.mem_of_getElem? (i := 7) (by decide +kernel)))⟩, fun h => absurd h (by decide), fun h => absurd h (by decide)⟩,
    List.forall_mem_cons.mpr ⟨⟨R_TS, F_TS, 7, t_TS, rfl, fun w h => hW w (u_TS w h), t_TS_ok, n_TS, by decide, rfl, Or.inr ⟨"ServerDesk", va_Nw.use rfl (hN _ (List.mem_of_getElem? (i := 12) (by decide +kernel)))⟩, fun _ => ⟨rfl, by decide +kernel⟩, fun h => absurd h (by decide)⟩,
    List.forall_mem_cons.mpr ⟨⟨R_BU, F_BU, 5, t_BU, rfl, fun w h => hW w (u_BU w h), t_BU_ok, n_BU, by decide, rfl, Or.inr ⟨"ServerDesk", va_Nw.use rfl (hN _ (List.mem_of_getElem? (i := 36) (by decide +kernel)))⟩, fun _ => ⟨rfl, by decide +kernel⟩, fun h => absurd h (by decide)⟩,
    List.forall_mem_cons.mpr ⟨⟨R_CO, F_CO, 7, t_CO, rfl, fun w h => hW w (u_CO w h), t_CO_ok, n_CO, by decide, rfl, Or.inl (hts _ (hW _ (vw_t 249 (by decide +kernel) (by decide +kernel)))), fun h => absurd h (by decide), fun h => absurd h (by decide)⟩,
    List.forall_mem_cons.mpr ⟨⟨R_CO, F_CO, 7, t_CO, rfl, fun w h => hW w (u_CO w h), t_CO_ok, n_CO, by decide, rfl, Or.inl (hts _ (hW _ (vw_t 251 (by decide +kernel) (by decide +kernel)))), fun h => absurd h (by decide), fun h => absurd h (by decide)⟩,
    List.forall_mem_cons.mpr ⟨⟨R_CO, F_CO, 7, t_CO, rfl, fun w h => hW w (u_CO w h), t_CO_ok, n_CO, by decide, rfl, Or.inl (hts _ (hW _ (vw_t 253 (by decide +kernel) (by decide +kernel)))), fun h => absurd h (by decide), fun h => absurd h (by decide)⟩,
    List.forall_mem_cons.mpr ⟨⟨R_CO, F_CO, 7, t_CO, rfl, fun w h => hW w (u_CO w h), t_CO_ok, n_CO, by decide, rfl, Or.inl (hts _ (hW _ (vw_t 256 (by decide +kernel) (by decide +kernel)))), fun h => absurd h (by decide), fun h => absurd h (by decide)⟩,
    List.forall_mem_cons.mpr ⟨⟨R_CO, F_CO, 7, t_CO, rfl, fun w h => hW w (u_CO w h), t_CO_ok, n_CO, by decide, rfl, Or.inl (hts _ (hW _ (vw_t 259 (by decide +kernel) (by decide +kernel)))), fun h => absurd h (by decide), fun h => absurd h (by decide)⟩,
    List.forall_mem_cons.mpr ⟨⟨R_CO, F_CO, 7, t_CO, rfl, fun w h => hW w (u_CO w h), t_CO_ok, n_CO, by decide, rfl, Or.inl (hts _ (hW _ (vw_t 261 (by decide +kernel) (by decide +kernel)))), fun _ => ⟨rfl, by decide +kernel⟩, fun h => absurd h (by decide)⟩,
    List.forall_mem_cons.mpr ⟨⟨R_CO, F_CO, 7, t_CO, rfl, fun w h => hW w (u_CO w h), t_CO_ok, n_CO, by decide, rfl, Or.inl (hts _ (hW _ (vw_t 262 (by decide +kernel) (by decide +kernel)))), fun _ => ⟨rfl, by decide +kernel⟩, fun h => absurd h (by decide)⟩,
    fun _ h => absurd h List.not_mem_nil⟩⟩⟩⟩⟩⟩⟩⟩⟩⟩
  intro idx ci j q h
  exact all _ (am_find_mem h)
def fl_RF : List (Nat × Nat × Nat × Nat) := [(115, 1, 5, 1), (96, 3, 0, 0), (70, 4, 0, 0), (78, 4, 1, 0), (81, 4, 2, 0), (65, 4, 3, 1), (93, 8, 2, 0), (90, 8, 3, 1), (111, 9, 0, 0), (118, 9, 1, 0), (74, 9, 2, 0), (42, 9, 3, 0), (60, 9, 6, 1), (21, 10, 0, 0), (25, 10, 1, 0), (29, 10, 2, 0), (9, 10, 3, 1), (15, 10, 4, 1), (18, 10, 5, 1)]
def fd_RF : Nat → Option (Nat × Nat × Nat) := am_find fl_RF
theorem fd_RF_115 : fd_RF 115 = some (1, 5, 1) := rfl
theorem fd_RF_96 : fd_RF 96 = some (3, 0, 0) := rfl
theorem fd_RF_70 : fd_RF 70 = some (4, 0, 0) := rfl
theorem fd_RF_78 : fd_RF 78 = some (4, 1, 0) := rfl
theorem fd_RF_81 : fd_RF 81 = some (4, 2, 0) := rfl
theorem fd_RF_65 : fd_RF 65 = some (4, 3, 1) := rfl
theorem fd_RF_93 : fd_RF 93 = some (8, 2, 0) := rfl
theorem fd_RF_90 : fd_RF 90 = some (8, 3, 1) := rfl
theorem fd_RF_111 : fd_RF 111 = some (9, 0, 0) := rfl
theorem fd_RF_118 : fd_RF 118 = some (9, 1, 0) := rfl
theorem fd_RF_74 : fd_RF 74 = some (9, 2, 0) := rfl
theorem fd_RF_42 : fd_RF 42 = some (9, 3, 0) := rfl
theorem fd_RF_60 : fd_RF 60 = some (9, 6, 1) := rfl
theorem fd_RF_21 : fd_RF 21 = some (10, 0, 0) := rfl
theorem fd_RF_25 : fd_RF 25 = some (10, 1, 0) := rfl
theorem fd_RF_29 : fd_RF 29 = some (10, 2, 0) := rfl
theorem fd_RF_9 : fd_RF 9 = some (10, 3, 1) := rfl
theorem fd_RF_15 : fd_RF 15 = some (10, 4, 1) := rfl
theorem fd_RF_18 : fd_RF 18 = some (10, 5, 1) := rfl
theorem fd_RF_ok (args : Array Value) (s : State) {Ts : List Jvm.Cond} (hW : ∀ w ∈ vw_W, w ∈ Ts) (hts : ∀ w ∈ Ts, w.before args s = true) (hN : ∀ w ∈ vw_N, va_Nw w s) : ∀ idx ci j q, fd_RF idx = some (ci, j, q) → am_FOK vw_cl R_RF args s Ts idx ci j q := by
  have all : ∀ z ∈ fl_RF, am_FOK vw_cl R_RF args s Ts z.1 z.2.1 z.2.2.1 z.2.2.2 := List.forall_mem_cons.mpr ⟨⟨R_TS, F_TS, 7, t_TS, rfl, fun w h => hW w (u_TS w h), t_TS_ok, n_TS, by decide, rfl, Or.inr ⟨"ServerDesk", va_Nw.use rfl (hN _ (List.mem_of_getElem? (i := 13) (by decide +kernel)))⟩, fun _ => ⟨rfl, by decide +kernel⟩, fun h => absurd h (by decide)⟩,
    List.forall_mem_cons.mpr ⟨⟨R_JL, F_JL, 4, t_JL, rfl, fun w h => hW w (u_JL w h), t_JL_ok, n_JL, by decide, rfl, Or.inr ⟨"ServerDesk", va_Nw.use rfl (hN _ (List.mem_of_getElem? (i := 20) (by decide +kernel)))⟩, fun h => absurd h (by decide), fun h => absurd h (by decide)⟩,
    List.forall_mem_cons.mpr ⟨⟨R_EL, F_EL, 4, t_EL, rfl, fun w h => hW w (u_EL w h), t_EL_ok, n_EL, by decide, rfl, Or.inr ⟨"ServerDesk", va_Nw.use rfl (hN _ (List.mem_of_getElem? (i := 26) (by decide +kernel)))⟩, fun h => absurd h (by decide), fun h => absurd h (by decide)⟩,
    List.forall_mem_cons.mpr ⟨⟨R_EL, F_EL, 4, t_EL, rfl, fun w h => hW w (u_EL w h), t_EL_ok, n_EL, by decide, rfl, Or.inr ⟨"ServerDesk", va_Nw.use rfl (hN _ (List.mem_of_getElem? (i := 27) (by decide +kernel)))⟩, fun h => absurd h (by decide), fun h => absurd h (by decide)⟩,
    List.forall_mem_cons.mpr ⟨⟨R_EL, F_EL, 4, t_EL, rfl, fun w h => hW w (u_EL w h), t_EL_ok, n_EL, by decide, rfl, Or.inr ⟨"ServerDesk", va_Nw.use rfl (hN _ (List.mem_of_getElem? (i := 28) (by decide +kernel)))⟩, fun h => absurd h (by decide), fun h => absurd h (by decide)⟩,
    List.forall_mem_cons.mpr ⟨⟨R_EL, F_EL, 4, t_EL, rfl, fun w h => hW w (u_EL w h), t_EL_ok, n_EL, by decide, rfl, Or.inr ⟨"ServerDesk", va_Nw.use rfl (hN _ (List.mem_of_getElem? (i := 29) (by decide +kernel)))⟩, fun _ => ⟨rfl, by decide +kernel⟩, fun h => absurd h (by decide)⟩,
    List.forall_mem_cons.mpr ⟨⟨R_QU, F_QU, 5, t_QU, rfl, fun w h => hW w (u_QU w h), t_QU_ok, n_QU, by decide, rfl, Or.inr ⟨"ServerDesk", va_Nw.use rfl (hN _ (List.mem_of_getElem? (i := 31) (by decide +kernel)))⟩, fun h => absurd h (by decide), fun h => absurd h (by decide)⟩,
    List.forall_mem_cons.mpr ⟨⟨R_QU, F_QU, 5, t_QU, rfl, fun w h => hW w (u_QU w h), t_QU_ok, n_QU, by decide, rfl, Or.inr ⟨"ServerDesk", va_Nw.use rfl (hN _ (List.mem_of_getElem? (i := 33) (by decide +kernel)))⟩, fun _ => ⟨rfl, by decide +kernel⟩, fun h => absurd h (by decide)⟩,
    List.forall_mem_cons.mpr ⟨⟨R_CO, F_CO, 7, t_CO, rfl, fun w h => hW w (u_CO w h), t_CO_ok, n_CO, by decide, rfl, Or.inr ⟨"ServerDesk", va_Nw.use rfl (hN _ (List.mem_of_getElem? (i := 38) (by decide +kernel)))⟩, fun h => absurd h (by decide), fun h => absurd h (by decide)⟩,
    List.forall_mem_cons.mpr ⟨⟨R_CO, F_CO, 7, t_CO, rfl, fun w h => hW w (u_CO w h), t_CO_ok, n_CO, by decide, rfl, Or.inr ⟨"ServerDesk", va_Nw.use rfl (hN _ (List.mem_of_getElem? (i := 39) (by decide +kernel)))⟩, fun h => absurd h (by decide), fun h => absurd h (by decide)⟩,
    List.forall_mem_cons.mpr ⟨⟨R_CO, F_CO, 7, t_CO, rfl, fun w h => hW w (u_CO w h), t_CO_ok, n_CO, by decide, rfl, Or.inr ⟨"ServerDesk", va_Nw.use rfl (hN _ (List.mem_of_getElem? (i := 40) (by decide +kernel)))⟩, fun h => absurd h (by decide), fun h => absurd h (by decide)⟩,
    List.forall_mem_cons.mpr ⟨⟨R_CO, F_CO, 7, t_CO, rfl, fun w h => hW w (u_CO w h), t_CO_ok, n_CO, by decide, rfl, Or.inr ⟨"ServerDesk", va_Nw.use rfl (hN _ (List.mem_of_getElem? (i := 42) (by decide +kernel)))⟩, fun h => absurd h (by decide), fun h => absurd h (by decide)⟩,
    List.forall_mem_cons.mpr ⟨⟨R_CO, F_CO, 7, t_CO, rfl, fun w h => hW w (u_CO w h), t_CO_ok, n_CO, by decide, rfl, Or.inr ⟨"ServerDesk", va_Nw.use rfl (hN _ (List.mem_of_getElem? (i := 45) (by decide +kernel)))⟩, fun _ => ⟨rfl, by decide +kernel⟩, fun h => absurd h (by decide)⟩,
    List.forall_mem_cons.mpr ⟨⟨R_RF, F_RF, 6, t_RF, rfl, fun w h => hW w (u_RF w h), t_RF_ok, n_RF, by decide, rfl, Or.inl (hts _ (hW _ (vw_t 286 (by decide +kernel) (by decide +kernel)))), fun h => absurd h (by decide), fun h => absurd h (by decide)⟩,
    List.forall_mem_cons.mpr ⟨⟨R_RF, F_RF, 6, t_RF, rfl, fun w h => hW w (u_RF w h), t_RF_ok, n_RF, by decide, rfl, Or.inl (hts _ (hW _ (vw_t 287 (by decide +kernel) (by decide +kernel)))), fun h => absurd h (by decide), fun h => absurd h (by decide)⟩,
    List.forall_mem_cons.mpr ⟨⟨R_RF, F_RF, 6, t_RF, rfl, fun w h => hW w (u_RF w h), t_RF_ok, n_RF, by decide, rfl, Or.inl (hts _ (hW _ (vw_t 288 (by decide +kernel) (by decide +kernel)))), fun h => absurd h (by decide), fun h => absurd h (by decide)⟩,
    List.forall_mem_cons.mpr ⟨⟨R_RF, F_RF, 6, t_RF, rfl, fun w h => hW w (u_RF w h), t_RF_ok, n_RF, by decide, rfl, Or.inl (hts _ (hW _ (vw_t 289 (by decide +kernel) (by decide +kernel)))), fun _ => ⟨rfl, by decide +kernel⟩, fun h => absurd h (by decide)⟩,
    List.forall_mem_cons.mpr ⟨⟨R_RF, F_RF, 6, t_RF, rfl, fun w h => hW w (u_RF w h), t_RF_ok, n_RF, by decide, rfl, Or.inl (hts _ (hW _ (vw_t 291 (by decide +kernel) (by decide +kernel)))), fun _ => ⟨rfl, by decide +kernel⟩, fun h => absurd h (by decide)⟩,
    List.forall_mem_cons.mpr ⟨⟨R_RF, F_RF, 6, t_RF, rfl, fun w h => hW w (u_RF w h), t_RF_ok, n_RF, by decide, rfl, Or.inl (hts _ (hW _ (vw_t 293 (by decide +kernel) (by decide +kernel)))), fun _ => ⟨rfl, by decide +kernel⟩, fun h => absurd h (by decide)⟩,
    fun _ h => absurd h List.not_mem_nil⟩⟩⟩⟩⟩⟩⟩⟩⟩⟩⟩⟩⟩⟩⟩⟩⟩⟩⟩
  intro idx ci j q h
  exact all _ (am_find_mem h)
def fl_MO : List (Nat × Nat × Nat × Nat) := [(92, 11, 0, 1), (96, 11, 1, 1), (7, 11, 2, 0), (13, 11, 3, 0), (16, 11, 4, 0), (19, 11, 5, 0), (22, 11, 6, 0), (125, 11, 7, 1), (25, 11, 8, 0), (28, 11, 9, 0), (111, 11, 10, 2), (185, 11, 11, 1), (31, 11, 12, 0), (34, 11, 13, 0), (37, 11, 14, 0), (204, 11, 15, 1), (41, 11, 16, 0), (44, 11, 17, 0), (47, 11, 18, 0), (132, 11, 19, 1), (135, 11, 20, 1), (50, 11, 21, 0), (53, 11, 22, 0), (56, 11, 23, 0), (138, 11, 24, 1), (59, 11, 25, 0), (141, 11, 26, 1), (62, 11, 27, 0), (65, 11, 28, 0), (144, 11, 29, 1), (68, 11, 30, 0), (211, 11, 31, 1), (214, 11, 32, 1), (217, 11, 33, 1), (220, 11, 34, 1), (223, 11, 35, 1), (71, 11, 36, 0), (74, 11, 37, 0), (77, 11, 38, 0), (80, 11, 39, 0), (83, 11, 40, 0), (86, 11, 41, 0), (89, 11, 42, 0), (226, 11, 43, 1), (229, 11, 44, 1), (232, 11, 45, 1)]
def fd_MO : Nat → Option (Nat × Nat × Nat) := am_find fl_MO
theorem fd_MO_92 : fd_MO 92 = some (11, 0, 1) := rfl
theorem fd_MO_96 : fd_MO 96 = some (11, 1, 1) := rfl
theorem fd_MO_7 : fd_MO 7 = some (11, 2, 0) := rfl
theorem fd_MO_13 : fd_MO 13 = some (11, 3, 0) := rfl
theorem fd_MO_16 : fd_MO 16 = some (11, 4, 0) := rfl
theorem fd_MO_19 : fd_MO 19 = some (11, 5, 0) := rfl
theorem fd_MO_22 : fd_MO 22 = some (11, 6, 0) := rfl
theorem fd_MO_125 : fd_MO 125 = some (11, 7, 1) := rfl
theorem fd_MO_25 : fd_MO 25 = some (11, 8, 0) := rfl
theorem fd_MO_28 : fd_MO 28 = some (11, 9, 0) := rfl
theorem fd_MO_111 : fd_MO 111 = some (11, 10, 2) := rfl
theorem fd_MO_185 : fd_MO 185 = some (11, 11, 1) := rfl
theorem fd_MO_31 : fd_MO 31 = some (11, 12, 0) := rfl
theorem fd_MO_34 : fd_MO 34 = some (11, 13, 0) := rfl
theorem fd_MO_37 : fd_MO 37 = some (11, 14, 0) := rfl
theorem fd_MO_204 : fd_MO 204 = some (11, 15, 1) := rfl
theorem fd_MO_41 : fd_MO 41 = some (11, 16, 0) := rfl
theorem fd_MO_44 : fd_MO 44 = some (11, 17, 0) := rfl
theorem fd_MO_47 : fd_MO 47 = some (11, 18, 0) := rfl
theorem fd_MO_132 : fd_MO 132 = some (11, 19, 1) := rfl
theorem fd_MO_135 : fd_MO 135 = some (11, 20, 1) := rfl
theorem fd_MO_50 : fd_MO 50 = some (11, 21, 0) := rfl
theorem fd_MO_53 : fd_MO 53 = some (11, 22, 0) := rfl
theorem fd_MO_56 : fd_MO 56 = some (11, 23, 0) := rfl
theorem fd_MO_138 : fd_MO 138 = some (11, 24, 1) := rfl
theorem fd_MO_59 : fd_MO 59 = some (11, 25, 0) := rfl
theorem fd_MO_141 : fd_MO 141 = some (11, 26, 1) := rfl
theorem fd_MO_62 : fd_MO 62 = some (11, 27, 0) := rfl
theorem fd_MO_65 : fd_MO 65 = some (11, 28, 0) := rfl
theorem fd_MO_144 : fd_MO 144 = some (11, 29, 1) := rfl
theorem fd_MO_68 : fd_MO 68 = some (11, 30, 0) := rfl
theorem fd_MO_211 : fd_MO 211 = some (11, 31, 1) := rfl
theorem fd_MO_214 : fd_MO 214 = some (11, 32, 1) := rfl
theorem fd_MO_217 : fd_MO 217 = some (11, 33, 1) := rfl
theorem fd_MO_220 : fd_MO 220 = some (11, 34, 1) := rfl
theorem fd_MO_223 : fd_MO 223 = some (11, 35, 1) := rfl
theorem fd_MO_71 : fd_MO 71 = some (11, 36, 0) := rfl
theorem fd_MO_74 : fd_MO 74 = some (11, 37, 0) := rfl
theorem fd_MO_77 : fd_MO 77 = some (11, 38, 0) := rfl
theorem fd_MO_80 : fd_MO 80 = some (11, 39, 0) := rfl
theorem fd_MO_83 : fd_MO 83 = some (11, 40, 0) := rfl
theorem fd_MO_86 : fd_MO 86 = some (11, 41, 0) := rfl
theorem fd_MO_89 : fd_MO 89 = some (11, 42, 0) := rfl
theorem fd_MO_226 : fd_MO 226 = some (11, 43, 1) := rfl
theorem fd_MO_229 : fd_MO 229 = some (11, 44, 1) := rfl
theorem fd_MO_232 : fd_MO 232 = some (11, 45, 1) := rfl
theorem fd_MO_ok (args : Array Value) (s : State) {Ts : List Jvm.Cond} (hW : ∀ w ∈ vw_W, w ∈ Ts) (hts : ∀ w ∈ Ts, w.before args s = true) (hN : ∀ w ∈ vw_N, va_Nw w s) : ∀ idx ci j q, fd_MO idx = some (ci, j, q) → am_FOK vw_cl R_MO args s Ts idx ci j q := by
  have all : ∀ z ∈ fl_MO, am_FOK vw_cl R_MO args s Ts z.1 z.2.1 z.2.2.1 z.2.2.2 := List.forall_mem_cons.mpr ⟨⟨R_MO, F_MO, 46, t_MO, rfl, fun w h => hW w (u_MO w h), t_MO_ok, n_MO, by decide, rfl, Or.inl (hts _ (hW _ (vw_t 803 (by decide +kernel) (by decide +kernel)))), fun _ => ⟨rfl, by decide +kernel⟩, fun h => absurd h (by decide)⟩,
    List.forall_mem_cons.mpr ⟨⟨R_MO, F_MO, 46, t_MO, rfl, fun w h => hW w (u_MO w h), t_MO_ok, n_MO, by decide, rfl, Or.inl (hts _ (hW _ (vw_t 804 (by decide +kernel) (by decide +kernel)))), fun _ => ⟨rfl, by decide +kernel⟩, fun h => absurd h (by decide)⟩,
    List.forall_mem_cons.mpr ⟨⟨R_MO, F_MO, 46, t_MO, rfl, fun w h => hW w (u_MO w h), t_MO_ok, n_MO, by decide, rfl, Or.inl (hts _ (hW _ (vw_t 805 (by decide +kernel) (by decide +kernel)))), fun h => absurd h (by decide), fun h => absurd h (by decide)⟩,
    List.forall_mem_cons.mpr ⟨⟨R_MO, F_MO, 46, t_MO, rfl, fun w h => hW w (u_MO w h), t_MO_ok, n_MO, by decide, rfl, Or.inl (hts _ (hW _ (vw_t 806 (by decide +kernel) (by decide +kernel)))), fun h => absurd h (by decide), fun h => absurd h (by decide)⟩,
    List.forall_mem_cons.mpr ⟨⟨R_MO, F_MO, 46, t_MO, rfl, fun w h => hW w (u_MO w h), t_MO_ok, n_MO, by decide, rfl, Or.inl (hts _ (hW _ (vw_t 807 (by decide +kernel) (by decide +kernel)))), fun h => absurd h (by decide), fun h => absurd h (by decide)⟩,
    List.forall_mem_cons.mpr ⟨⟨R_MO, F_MO, 46, t_MO, rfl, fun w h => hW w (u_MO w h), t_MO_ok, n_MO, by decide, rfl, Or.inl (hts _ (hW _ (vw_t 808 (by decide +kernel) (by decide +kernel)))), fun h => absurd h (by decide), fun h => absurd h (by decide)⟩,
    List.forall_mem_cons.mpr ⟨⟨R_MO, F_MO, 46, t_MO, rfl, fun w h => hW w (u_MO w h), t_MO_ok, n_MO, by decide, rfl, Or.inl (hts _ (hW _ (vw_t 809 (by decide +kernel) (by decide +kernel)))), fun h => absurd h (by decide), fun h => absurd h (by decide)⟩,
    List.forall_mem_cons.mpr ⟨⟨R_MO, F_MO, 46, t_MO, rfl, fun w h => hW w (u_MO w h), t_MO_ok, n_MO, by decide, rfl, Or.inl (hts _ (hW _ (vw_t 810 (by decide +kernel) (by decide +kernel)))), fun _ => ⟨rfl, by decide +kernel⟩, fun h => absurd h (by decide)⟩,
    List.forall_mem_cons.mpr ⟨⟨R_MO, F_MO, 46, t_MO, rfl, fun w h => hW w (u_MO w h), t_MO_ok, n_MO, by decide, rfl, Or.inl (hts _ (hW _ (vw_t 811 (by decide +kernel) (by decide +kernel)))), fun h => absurd h (by decide), fun h => absurd h (by decide)⟩,
    List.forall_mem_cons.mpr ⟨⟨R_MO, F_MO, 46, t_MO, rfl, fun w h => hW w (u_MO w h), t_MO_ok, n_MO, by decide, rfl, Or.inl (hts _ (hW _ (vw_t 812 (by decide +kernel) (by decide +kernel)))), fun h => absurd h (by decide), fun h => absurd h (by decide)⟩,
    List.forall_mem_cons.mpr ⟨⟨R_MO, F_MO, 46, t_MO, rfl, fun w h => hW w (u_MO w h), t_MO_ok, n_MO, by decide, rfl, Or.inl (hts _ (hW _ (vw_t 813 (by decide +kernel) (by decide +kernel)))), fun h => absurd h (by decide), fun _ => ⟨rfl, by decide +kernel⟩⟩,
    List.forall_mem_cons.mpr ⟨⟨R_MO, F_MO, 46, t_MO, rfl, fun w h => hW w (u_MO w h), t_MO_ok, n_MO, by decide, rfl, Or.inl (hts _ (hW _ (vw_t 814 (by decide +kernel) (by decide +kernel)))), fun _ => ⟨rfl, by decide +kernel⟩, fun h => absurd h (by decide)⟩,
    List.forall_mem_cons.mpr ⟨⟨R_MO, F_MO, 46, t_MO, rfl, fun w h => hW w (u_MO w h), t_MO_ok, n_MO, by decide, rfl, Or.inl (hts _ (hW _ (vw_t 815 (by decide +kernel) (by decide +kernel)))), fun h => absurd h (by decide), fun h => absurd h (by decide)⟩,
    List.forall_mem_cons.mpr ⟨⟨R_MO, F_MO, 46, t_MO, rfl, fun w h => hW w (u_MO w h), t_MO_ok, n_MO, by decide, rfl, Or.inl (hts _ (hW _ (vw_t 816 (by decide +kernel) (by decide +kernel)))), fun h => absurd h (by decide), fun h => absurd h (by decide)⟩,
    List.forall_mem_cons.mpr ⟨⟨R_MO, F_MO, 46, t_MO, rfl, fun w h => hW w (u_MO w h), t_MO_ok, n_MO, by decide, rfl, Or.inl (hts _ (hW _ (vw_t 817 (by decide +kernel) (by decide +kernel)))), fun h => absurd h (by decide), fun h => absurd h (by decide)⟩,
    List.forall_mem_cons.mpr ⟨⟨R_MO, F_MO, 46, t_MO, rfl, fun w h => hW w (u_MO w h), t_MO_ok, n_MO, by decide, rfl, Or.inl (hts _ (hW _ (vw_t 818 (by decide +kernel) (by decide +kernel)))), fun _ => ⟨rfl, by decide +kernel⟩, fun h => absurd h (by decide)⟩,
    List.forall_mem_cons.mpr ⟨⟨R_MO, F_MO, 46, t_MO, rfl, fun w h => hW w (u_MO w h), t_MO_ok, n_MO, by decide, rfl, Or.inl (hts _ (hW _ (vw_t 819 (by decide +kernel) (by decide +kernel)))), fun h => absurd h (by decide), fun h => absurd h (by decide)⟩,
    List.forall_mem_cons.mpr ⟨⟨R_MO, F_MO, 46, t_MO, rfl, fun w h => hW w (u_MO w h), t_MO_ok, n_MO, by decide, rfl, Or.inl (hts _ (hW _ (vw_t 820 (by decide +kernel) (by decide +kernel)))), fun h => absurd h (by decide), fun h => absurd h (by decide)⟩,
    List.forall_mem_cons.mpr ⟨⟨R_MO, F_MO, 46, t_MO, rfl, fun w h => hW w (u_MO w h), t_MO_ok, n_MO, by decide, rfl, Or.inl (hts _ (hW _ (vw_t 821 (by decide +kernel) (by decide +kernel)))), fun h => absurd h (by decide), fun h => absurd h (by decide)⟩,
    List.forall_mem_cons.mpr ⟨⟨R_MO, F_MO, 46, t_MO, rfl, fun w h => hW w (u_MO w h), t_MO_ok, n_MO, by decide, rfl, Or.inl (hts _ (hW _ (vw_t 822 (by decide +kernel) (by decide +kernel)))), fun _ => ⟨rfl, by decide +kernel⟩, fun h => absurd h (by decide)⟩,
    List.forall_mem_cons.mpr ⟨⟨R_MO, F_MO, 46, t_MO, rfl, fun w h => hW w (u_MO w h), t_MO_ok, n_MO, by decide, rfl, Or.inl (hts _ (hW _ (vw_t 823 (by decide +kernel) (by decide +kernel)))), fun _ => ⟨rfl, by decide +kernel⟩, fun h => absurd h (by decide)⟩,
    List.forall_mem_cons.mpr ⟨⟨R_MO, F_MO, 46, t_MO, rfl, fun w h => hW w (u_MO w h), t_MO_ok, n_MO, by decide, rfl, Or.inl (hts _ (hW _ (vw_t 824 (by decide +kernel) (by decide +kernel)))), fun h => absurd h (by decide), fun h => absurd h (by decide)⟩,
    List.forall_mem_cons.mpr ⟨⟨R_MO, F_MO, 46, t_MO, rfl, fun w h => hW w (u_MO w h), t_MO_ok, n_MO, by decide, rfl, Or.inl (hts _ (hW _ (vw_t 825 (by decide +kernel) (by decide +kernel)))), fun h => absurd h (by decide), fun h => absurd h (by decide)⟩,
    List.forall_mem_cons.mpr ⟨⟨R_MO, F_MO, 46, t_MO, rfl, fun w h => hW w (u_MO w h), t_MO_ok, n_MO, by decide, rfl, Or.inl (hts _ (hW _ (vw_t 826 (by decide +kernel) (by decide +kernel)))), fun h => absurd h (by decide), fun h => absurd h (by decide)⟩,
    List.forall_mem_cons.mpr ⟨⟨R_MO, F_MO, 46, t_MO, rfl, fun w h => hW w (u_MO w h), t_MO_ok, n_MO, by decide, rfl, Or.inl (hts _ (hW _ (vw_t 827 (by decide +kernel) (by decide +kernel)))), fun _ => ⟨rfl, by decide +kernel⟩, fun h => absurd h (by decide)⟩,
    List.forall_mem_cons.mpr ⟨⟨R_MO, F_MO, 46, t_MO, rfl, fun w h => hW w (u_MO w h), t_MO_ok, n_MO, by decide, rfl, Or.inl (hts _ (hW _ (vw_t 828 (by decide +kernel) (by decide +kernel)))), fun h => absurd h (by decide), fun h => absurd h (by decide)⟩,
    List.forall_mem_cons.mpr ⟨⟨R_MO, F_MO, 46, t_MO, rfl, fun w h => hW w (u_MO w h), t_MO_ok, n_MO, by decide, rfl, Or.inl (hts _ (hW _ (vw_t 829 (by decide +kernel) (by decide +kernel)))), fun _ => ⟨rfl, by decide +kernel⟩, fun h => absurd h (by decide)⟩,
    List.forall_mem_cons.mpr ⟨⟨R_MO, F_MO, 46, t_MO, rfl, fun w h => hW w (u_MO w h), t_MO_ok, n_MO, by decide, rfl, Or.inl (hts _ (hW _ (vw_t 830 (by decide +kernel) (by decide +kernel)))), fun h => absurd h (by decide), fun h => absurd h (by decide)⟩,
    List.forall_mem_cons.mpr ⟨⟨R_MO, F_MO, 46, t_MO, rfl, fun w h => hW w (u_MO w h), t_MO_ok, n_MO, by decide, rfl, Or.inl (hts _ (hW _ (vw_t 831 (by decide +kernel) (by decide +kernel)))), fun h => absurd h (by decide), fun h => absurd h (by decide)⟩,
    List.forall_mem_cons.mpr ⟨⟨R_MO, F_MO, 46, t_MO, rfl, fun w h => hW w (u_MO w h), t_MO_ok, n_MO, by decide, rfl, Or.inl (hts _ (hW _ (vw_t 832 (by decide +kernel) (by decide +kernel)))), fun _ => ⟨rfl, by decide +kernel⟩, fun h => absurd h (by decide)⟩,
    List.forall_mem_cons.mpr ⟨⟨R_MO, F_MO, 46, t_MO, rfl, fun w h => hW w (u_MO w h), t_MO_ok, n_MO, by decide, rfl, Or.inl (hts _ (hW _ (vw_t 833 (by decide +kernel) (by decide +kernel)))), fun h => absurd h (by decide), fun h => absurd h (by decide)⟩,
    List.forall_mem_cons.mpr ⟨⟨R_MO, F_MO, 46, t_MO, rfl, fun w h => hW w (u_MO w h), t_MO_ok, n_MO, by decide, rfl, Or.inl (hts _ (hW _ (vw_t 834 (by decide +kernel) (by decide +kernel)))), fun _ => ⟨rfl, by decide +kernel⟩, fun h => absurd h (by decide)⟩,
    List.forall_mem_cons.mpr ⟨⟨R_MO, F_MO, 46, t_MO, rfl, fun w h => hW w (u_MO w h), t_MO_ok, n_MO, by decide, rfl, Or.inl (hts _ (hW _ (vw_t 835 (by decide +kernel) (by decide +kernel)))), fun _ => ⟨rfl, by decide +kernel⟩, fun h => absurd h (by decide)⟩,
    List.forall_mem_cons.mpr ⟨⟨R_MO, F_MO, 46, t_MO, rfl, fun w h => hW w (u_MO w h), t_MO_ok, n_MO, by decide, rfl, Or.inl (hts _ (hW _ (vw_t 836 (by decide +kernel) (by decide +kernel)))), fun _ => ⟨rfl, by decide +kernel⟩, fun h => absurd h (by decide)⟩,
    List.forall_mem_cons.mpr ⟨⟨R_MO, F_MO, 46, t_MO, rfl, fun w h => hW w (u_MO w h), t_MO_ok, n_MO, by decide, rfl, Or.inl (hts _ (hW _ (vw_t 837 (by decide +kernel) (by decide +kernel)))), fun _ => ⟨rfl, by decide +kernel⟩, fun h => absurd h (by decide)⟩,
    List.forall_mem_cons.mpr ⟨⟨R_MO, F_MO, 46, t_MO, rfl, fun w h => hW w (u_MO w h), t_MO_ok, n_MO, by decide, rfl, Or.inl (hts _ (hW _ (vw_t 838 (by decide +kernel) (by decide +kernel)))), fun _ => ⟨rfl, by decide +kernel⟩, fun h => absurd h (by decide)⟩,
    List.forall_mem_cons.mpr ⟨⟨R_MO, F_MO, 46, t_MO, rfl, fun w h => hW w (u_MO w h), t_MO_ok, n_MO, by decide, rfl, Or.inl (hts _ (hW _ (vw_t 839 (by decide +kernel) (by decide +kernel)))), fun h => absurd h (by decide), fun h => absurd h (by decide)⟩,
    List.forall_mem_cons.mpr ⟨⟨R_MO, F_MO, 46, t_MO, rfl, fun w h => hW w (u_MO w h), t_MO_ok, n_MO, by decide, rfl, Or.inl (hts _ (hW _ (vw_t 840 (by decide +kernel) (by decide +kernel)))), fun h => absurd h (by decide), fun h => absurd h (by decide)⟩,
    List.forall_mem_cons.mpr ⟨⟨R_MO, F_MO, 46, t_MO, rfl, fun w h => hW w (u_MO w h), t_MO_ok, n_MO, by decide, rfl, Or.inl (hts _ (hW _ (vw_t 841 (by decide +kernel) (by decide +kernel)))), fun h => absurd h (by decide), fun h => absurd h (by decide)⟩,
    List.forall_mem_cons.mpr ⟨⟨R_MO, F_MO, 46, t_MO, rfl, fun w h => hW w (u_MO w h), t_MO_ok, n_MO, by decide, rfl, Or.inl (hts _ (hW _ (vw_t 842 (by decide +kernel) (by decide +kernel)))), fun h => absurd h (by decide), fun h => absurd h (by decide)⟩,
    List.forall_mem_cons.mpr ⟨⟨R_MO, F_MO, 46, t_MO, rfl, fun w h => hW w (u_MO w h), t_MO_ok, n_MO, by decide, rfl, Or.inl (hts _ (hW _ (vw_t 843 (by decide +kernel) (by decide +kernel)))), fun h => absurd h (by decide), fun h => absurd h (by decide)⟩,
    List.forall_mem_cons.mpr ⟨⟨R_MO, F_MO, 46, t_MO, rfl, fun w h => hW w (u_MO w h), t_MO_ok, n_MO, by decide, rfl, Or.inl (hts _ (hW _ (vw_t 844 (by decide +kernel) (by decide +kernel)))), fun h => absurd h (by decide), fun h => absurd h (by decide)⟩,
    List.forall_mem_cons.mpr ⟨⟨R_MO, F_MO, 46, t_MO, rfl, fun w h => hW w (u_MO w h), t_MO_ok, n_MO, by decide, rfl, Or.inl (hts _ (hW _ (vw_t 845 (by decide +kernel) (by decide +kernel)))), fun h => absurd h (by decide), fun h => absurd h (by decide)⟩,
    List.forall_mem_cons.mpr ⟨⟨R_MO, F_MO, 46, t_MO, rfl, fun w h => hW w (u_MO w h), t_MO_ok, n_MO, by decide, rfl, Or.inl (hts _ (hW _ (vw_t 846 (by decide +kernel) (by decide +kernel)))), fun _ => ⟨rfl, by decide +kernel⟩, fun h => absurd h (by decide)⟩,
    List.forall_mem_cons.mpr ⟨⟨R_MO, F_MO, 46, t_MO, rfl, fun w h => hW w (u_MO w h), t_MO_ok, n_MO, by decide, rfl, Or.inl (hts _ (hW _ (vw_t 847 (by decide +kernel) (by decide +kernel)))), fun _ => ⟨rfl, by decide +kernel⟩, fun h => absurd h (by decide)⟩,
    List.forall_mem_cons.mpr ⟨⟨R_MO, F_MO, 46, t_MO, rfl, fun w h => hW w (u_MO w h), t_MO_ok, n_MO, by decide, rfl, Or.inl (hts _ (hW _ (vw_t 848 (by decide +kernel) (by decide +kernel)))), fun _ => ⟨rfl, by decide +kernel⟩, fun h => absurd h (by decide)⟩,
    fun _ h => absurd h List.not_mem_nil⟩⟩⟩⟩⟩⟩⟩⟩⟩⟩⟩⟩⟩⟩⟩⟩⟩⟩⟩⟩⟩⟩⟩⟩⟩⟩⟩⟩⟩⟩⟩⟩⟩⟩⟩⟩⟩⟩⟩⟩⟩⟩⟩⟩⟩⟩
  intro idx ci j q h
  exact all _ (am_find_mem h)
end
