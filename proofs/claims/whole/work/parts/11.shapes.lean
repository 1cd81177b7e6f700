/-! shapes and fields, printed by program (wip/whole/gen_tabs.py) -/
def am_find {α : Type} : List (Nat × α) → Nat → Option α
  | [], _ => none
  | (i, a) :: r, k => if k = i then some a else am_find r k
theorem am_find_mem {α : Type} : ∀ {l : List (Nat × α)} {k : Nat} {a : α}, am_find l k = some a → (k, a) ∈ l
  | [], k, a, h => by cases h
  | (i, b) :: r, k, a, h => by
    unfold am_find at h
    split at h
    · rename_i e
      subst e
      cases h
      exact List.mem_cons_self
    · exact List.mem_cons_of_mem _ (am_find_mem h)
def vw_S : List am_S := [.inr (0, [some 1, some 7, some 10, some 14, some 18, some 26, some 48, some 49, none, none]), .inr (1, [some 2, some 3, some 4, some 5, some 6, none, none]), .inl (0, 5), .inl (0, 5), .inl (0, 5), .inl (0, 5), .inl (0, 5), .inr (2, [some 8, some 9, none]), .inl (0, 4), .inl (0, 4), .inr (3, [some 11, some 12, some 13, none]), .inl (0, 40), .inl (0, 40), .inl (1, 40), .inr (4, [some 15, some 16, some 17, none]), .inl (0, 200), .inl (0, 200), .inl (0, 200), .inr (6, [some 1, some 19, some 24, some 25]), .inr (5, [some 1, some 20, some 21, some 22, some 23]), .inl (0, 5), .inl (0, 5), .inl (0, 5), .inl (0, 5), .inl (0, 5), .inl (0, 5), .inr (9, [some 1, some 18, some 27, some 32, some 35, none, none]), .inr (5, [some 1, some 28, some 29, some 30, some 31]), .inl (0, 5), .inl (0, 5), .inl (0, 5), .inl (0, 5), .inr (8, [some 10, some 33, some 34, none, none]), .inl (0, 40), .inl (0, 40), .inr (7, [some 36, none, none, none, none]), .inl (0, 60), .inr (9, [some 1, some 18, some 38, some 43, some 46, none, none]), .inr (5, [some 1, some 39, some 40, some 41, some 42]), .inl (0, 5), .inl (0, 5), .inl (0, 5), .inl (0, 5), .inr (8, [some 10, some 44, some 45, none, none]), .inl (0, 40), .inl (0, 40), .inr (7, [some 47, none, none, none, none]), .inl (0, 60), .inr (10, [some 37, some 10, some 14, none, none, none]), .inl (0, 2000), .inr (11, [none, none, some 51, some 52, some 53, some 54, some 55, none, some 56, some 57, none, none, some 58, some 59, some 60, none, some 61, some 62, some 63, none, none, some 64, some 65, some 66, none, some 67, none, some 68, some 69, none, some 70, none, none, none, none, none, some 71, some 72, some 73, some 74, some 75, some 76, some 77, none, none, none]), .inl (0, 5), .inl (0, 5), .inl (0, 5), .inl (0, 5), .inl (0, 5), .inl (0, 4), .inl (0, 4), .inl (0, 40), .inl (0, 40), .inl (1, 40), .inl (0, 200), .inl (0, 200), .inl (0, 200), .inl (0, 5), .inl (0, 5), .inl (0, 5), .inl (0, 2001), .inl (0, 40), .inl (0, 40), .inl (0, 2001), .inl (0, 5), .inl (0, 5), .inl (0, 5), .inl (0, 2001), .inl (0, 40), .inl (0, 40), .inl (0, 2001), .inl (2, 1)]
theorem sg_0 : vw_S[0]? = some (.inr (0, [some 1, some 7, some 10, some 14, some 18, some 26, some 48, some 49, none, none])) := rfl
theorem sg_1 : vw_S[1]? = some (.inr (1, [some 2, some 3, some 4, some 5, some 6, none, none])) := rfl
theorem sg_2 : vw_S[2]? = some (.inl (0, 5)) := rfl
theorem sg_3 : vw_S[3]? = some (.inl (0, 5)) := rfl
theorem sg_4 : vw_S[4]? = some (.inl (0, 5)) := rfl
theorem sg_5 : vw_S[5]? = some (.inl (0, 5)) := rfl
theorem sg_6 : vw_S[6]? = some (.inl (0, 5)) := rfl
theorem sg_7 : vw_S[7]? = some (.inr (2, [some 8, some 9, none])) := rfl
theorem sg_8 : vw_S[8]? = some (.inl (0, 4)) := rfl
theorem sg_9 : vw_S[9]? = some (.inl (0, 4)) := rfl
theorem sg_10 : vw_S[10]? = some (.inr (3, [some 11, some 12, some 13, none])) := rfl
theorem sg_11 : vw_S[11]? = some (.inl (0, 40)) := rfl
theorem sg_12 : vw_S[12]? = some (.inl (0, 40)) := rfl
theorem sg_13 : vw_S[13]? = some (.inl (1, 40)) := rfl
theorem sg_14 : vw_S[14]? = some (.inr (4, [some 15, some 16, some 17, none])) := rfl
theorem sg_15 : vw_S[15]? = some (.inl (0, 200)) := rfl
theorem sg_16 : vw_S[16]? = some (.inl (0, 200)) := rfl
theorem sg_17 : vw_S[17]? = some (.inl (0, 200)) := rfl
theorem sg_18 : vw_S[18]? = some (.inr (6, [some 1, some 19, some 24, some 25])) := rfl
theorem sg_19 : vw_S[19]? = some (.inr (5, [some 1, some 20, some 21, some 22, some 23])) := rfl
theorem sg_20 : vw_S[20]? = some (.inl (0, 5)) := rfl
theorem sg_21 : vw_S[21]? = some (.inl (0, 5)) := rfl
theorem sg_22 : vw_S[22]? = some (.inl (0, 5)) := rfl
theorem sg_23 : vw_S[23]? = some (.inl (0, 5)) := rfl
theorem sg_24 : vw_S[24]? = some (.inl (0, 5)) := rfl
theorem sg_25 : vw_S[25]? = some (.inl (0, 5)) := rfl
theorem sg_26 : vw_S[26]? = some (.inr (9, [some 1, some 18, some 27, some 32, some 35, none, none])) := rfl
theorem sg_27 : vw_S[27]? = some (.inr (5, [some 1, some 28, some 29, some 30, some 31])) := rfl
theorem sg_28 : vw_S[28]? = some (.inl (0, 5)) := rfl
theorem sg_29 : vw_S[29]? = some (.inl (0, 5)) := rfl
theorem sg_30 : vw_S[30]? = some (.inl (0, 5)) := rfl
theorem sg_31 : vw_S[31]? = some (.inl (0, 5)) := rfl
theorem sg_32 : vw_S[32]? = some (.inr (8, [some 10, some 33, some 34, none, none])) := rfl
theorem sg_33 : vw_S[33]? = some (.inl (0, 40)) := rfl
theorem sg_34 : vw_S[34]? = some (.inl (0, 40)) := rfl
theorem sg_35 : vw_S[35]? = some (.inr (7, [some 36, none, none, none, none])) := rfl
theorem sg_36 : vw_S[36]? = some (.inl (0, 60)) := rfl
theorem sg_37 : vw_S[37]? = some (.inr (9, [some 1, some 18, some 38, some 43, some 46, none, none])) := rfl
theorem sg_38 : vw_S[38]? = some (.inr (5, [some 1, some 39, some 40, some 41, some 42])) := rfl
theorem sg_39 : vw_S[39]? = some (.inl (0, 5)) := rfl
theorem sg_40 : vw_S[40]? = some (.inl (0, 5)) := rfl
theorem sg_41 : vw_S[41]? = some (.inl (0, 5)) := rfl
theorem sg_42 : vw_S[42]? = some (.inl (0, 5)) := rfl
theorem sg_43 : vw_S[43]? = some (.inr (8, [some 10, some 44, some 45, none, none])) := rfl
theorem sg_44 : vw_S[44]? = some (.inl (0, 40)) := rfl
theorem sg_45 : vw_S[45]? = some (.inl (0, 40)) := rfl
theorem sg_46 : vw_S[46]? = some (.inr (7, [some 47, none, none, none, none])) := rfl
theorem sg_47 : vw_S[47]? = some (.inl (0, 60)) := rfl
theorem sg_48 : vw_S[48]? = some (.inr (10, [some 37, some 10, some 14, none, none, none])) := rfl
theorem sg_49 : vw_S[49]? = some (.inl (0, 2000)) := rfl
theorem sg_50 : vw_S[50]? = some (.inr (11, [none, none, some 51, some 52, some 53, some 54, some 55, none, some 56, some 57, none, none, some 58, some 59, some 60, none, some 61, some 62, some 63, none, none, some 64, some 65, some 66, none, some 67, none, some 68, some 69, none, some 70, none, none, none, none, none, some 71, some 72, some 73, some 74, some 75, some 76, some 77, none, none, none])) := rfl
theorem sg_51 : vw_S[51]? = some (.inl (0, 5)) := rfl
theorem sg_52 : vw_S[52]? = some (.inl (0, 5)) := rfl
theorem sg_53 : vw_S[53]? = some (.inl (0, 5)) := rfl
theorem sg_54 : vw_S[54]? = some (.inl (0, 5)) := rfl
theorem sg_55 : vw_S[55]? = some (.inl (0, 5)) := rfl
theorem sg_56 : vw_S[56]? = some (.inl (0, 4)) := rfl
theorem sg_57 : vw_S[57]? = some (.inl (0, 4)) := rfl
theorem sg_58 : vw_S[58]? = some (.inl (0, 40)) := rfl
theorem sg_59 : vw_S[59]? = some (.inl (0, 40)) := rfl
theorem sg_60 : vw_S[60]? = some (.inl (1, 40)) := rfl
theorem sg_61 : vw_S[61]? = some (.inl (0, 200)) := rfl
theorem sg_62 : vw_S[62]? = some (.inl (0, 200)) := rfl
theorem sg_63 : vw_S[63]? = some (.inl (0, 200)) := rfl
theorem sg_64 : vw_S[64]? = some (.inl (0, 5)) := rfl
theorem sg_65 : vw_S[65]? = some (.inl (0, 5)) := rfl
theorem sg_66 : vw_S[66]? = some (.inl (0, 5)) := rfl
theorem sg_67 : vw_S[67]? = some (.inl (0, 2001)) := rfl
theorem sg_68 : vw_S[68]? = some (.inl (0, 40)) := rfl
theorem sg_69 : vw_S[69]? = some (.inl (0, 40)) := rfl
theorem sg_70 : vw_S[70]? = some (.inl (0, 2001)) := rfl
theorem sg_71 : vw_S[71]? = some (.inl (0, 5)) := rfl
theorem sg_72 : vw_S[72]? = some (.inl (0, 5)) := rfl
theorem sg_73 : vw_S[73]? = some (.inl (0, 5)) := rfl
theorem sg_74 : vw_S[74]? = some (.inl (0, 2001)) := rfl
theorem sg_75 : vw_S[75]? = some (.inl (0, 40)) := rfl
theorem sg_76 : vw_S[76]? = some (.inl (0, 40)) := rfl
theorem sg_77 : vw_S[77]? = some (.inl (0, 2001)) := rfl
theorem sg_78 : vw_S[78]? = some (.inl (2, 1)) := rfl
theorem vw_Sz : ∀ (id e n : Nat), vw_S[id]? = some (.inl (e, n)) → n < 2147483648 := by
  intro id e n h
  have h1 : (.inl (e, n) : am_S) ∈ vw_S := List.mem_of_getElem? h
  have h2 : ∀ z ∈ vw_S, (match z with
    | .inl q => decide (q.2 < 2147483648)
    | .inr _ => true) = true := by decide +kernel
  simpa using h2 _ h1
theorem vw_G {Ts : List Jvm.Cond} {y : MethodName} {b : ByteArray} {n : Nat} {r : Option FieldType} (hW : ∀ w ∈ vw_W, w ∈ Ts) (hc : Jvm.Cond.code y b n r ∈ vw_W) : GoodIn Ts (Jvm.Cond.code y b n r :: vw_W) := by
  have h : ∀ w ∈ vw_W, w ∈ Ts ∧ ((w.onTables && w.keeps) = true ∨ ∃ ty, w = .arrayClass ty) := fun w hw => ⟨hW w hw, good_of_word (List.mem_filter.mp hw).2⟩
  intro w hw
  rcases List.mem_cons.mp hw with rfl | hw
  · exact h _ hc
  · exact h w hw
def fl_SD : List (Nat × Nat × Nat × Nat) := [(174, 1, 2, 0), (87, 1, 5, 1), (231, 1, 6, 1), (127, 2, 2, 1), (145, 3, 3, 1), (179, 4, 3, 1), (195, 8, 2, 0), (228, 8, 4, 1), (238, 7, 4, 1), (166, 9, 2, 0), (156, 9, 3, 0), (234, 9, 4, 0), (224, 9, 6, 1), (218, 10, 3, 1), (221, 10, 4, 1), (227, 10, 5, 1), (10, 0, 0, 0), (19, 0, 1, 0), (26, 0, 2, 0), (33, 0, 3, 0), (42, 0, 4, 0), (51, 0, 5, 0), (60, 0, 6, 0), (64, 0, 7, 0), (68, 0, 8, 2), (72, 0, 9, 1)]
def fd_SD : Nat → Option (Nat × Nat × Nat) := am_find fl_SD
theorem fd_SD_174 : fd_SD 174 = some (1, 2, 0) := rfl
theorem fd_SD_87 : fd_SD 87 = some (1, 5, 1) := rfl
theorem fd_SD_231 : fd_SD 231 = some (1, 6, 1) := rfl
theorem fd_SD_127 : fd_SD 127 = some (2, 2, 1) := rfl
theorem fd_SD_145 : fd_SD 145 = some (3, 3, 1) := rfl
theorem fd_SD_179 : fd_SD 179 = some (4, 3, 1) := rfl
theorem fd_SD_195 : fd_SD 195 = some (8, 2, 0) := rfl
theorem fd_SD_228 : fd_SD 228 = some (8, 4, 1) := rfl
theorem fd_SD_238 : fd_SD 238 = some (7, 4, 1) := rfl
theorem fd_SD_166 : fd_SD 166 = some (9, 2, 0) := rfl
theorem fd_SD_156 : fd_SD 156 = some (9, 3, 0) := rfl
theorem fd_SD_234 : fd_SD 234 = some (9, 4, 0) := rfl
theorem fd_SD_224 : fd_SD 224 = some (9, 6, 1) := rfl
theorem fd_SD_218 : fd_SD 218 = some (10, 3, 1) := rfl
theorem fd_SD_221 : fd_SD 221 = some (10, 4, 1) := rfl
theorem fd_SD_227 : fd_SD 227 = some (10, 5, 1) := rfl
theorem fd_SD_10 : fd_SD 10 = some (0, 0, 0) := rfl
theorem fd_SD_19 : fd_SD 19 = some (0, 1, 0) := rfl
theorem fd_SD_26 : fd_SD 26 = some (0, 2, 0) := rfl
theorem fd_SD_33 : fd_SD 33 = some (0, 3, 0) := rfl
theorem fd_SD_42 : fd_SD 42 = some (0, 4, 0) := rfl
theorem fd_SD_51 : fd_SD 51 = some (0, 5, 0) := rfl
theorem fd_SD_60 : fd_SD 60 = some (0, 6, 0) := rfl
theorem fd_SD_64 : fd_SD 64 = some (0, 7, 0) := rfl
theorem fd_SD_68 : fd_SD 68 = some (0, 8, 2) := rfl
theorem fd_SD_72 : fd_SD 72 = some (0, 9, 1) := rfl
theorem fd_SD_ok (args : Array Value) (s : State) {Ts : List Jvm.Cond} (hW : ∀ w ∈ vw_W, w ∈ Ts) (hts : ∀ w ∈ Ts, w.before args s = true) (hN : ∀ w ∈ vw_N, va_Nw w s) : ∀ idx ci j q, fd_SD idx = some (ci, j, q) → am_FOK vw_cl R_SD args s Ts idx ci j q := by
  have all : ∀ z ∈ fl_SD, am_FOK vw_cl R_SD args s Ts z.1 z.2.1 z.2.2.1 z.2.2.2 := List.forall_mem_cons.mpr ⟨⟨R_TS, F_TS, 7, t_TS, rfl, fun w h => hW w (u_TS w h), t_TS_ok, n_TS, by decide, rfl, Or.inr ⟨"ServerDesk", va_Nw.use rfl (hN _ (List.mem_of_getElem? (i := 4) (by decide +kernel)))⟩, fun h => absurd h (by decide), fun h => absurd h (by decide)⟩,
    List.forall_mem_cons.mpr ⟨⟨R_TS, F_TS, 7, t_TS, rfl, fun w h => hW w (u_TS w h), t_TS_ok, n_TS, by decide, rfl, Or.inr ⟨"ServerDesk", va_Nw.use rfl (hN _ (List.mem_of_getElem? (i := 10) (by decide +kernel)))⟩, fun _ => ⟨rfl, by decide +kernel⟩, fun h => absurd h (by decide)⟩,
    List.forall_mem_cons.mpr ⟨⟨R_TS, F_TS, 7, t_TS, rfl, fun w h => hW w (u_TS w h), t_TS_ok, n_TS, by decide, rfl, Or.inr ⟨"ServerDesk", va_Nw.use rfl (hN _ (List.mem_of_getElem? (i := 14) (by decide +kernel)))⟩, fun _ => ⟨rfl, by decide +kernel⟩, fun h => absurd h (by decide)⟩,
    List.forall_mem_cons.mpr ⟨⟨R_RB, F_RB, 3, t_RB, rfl, fun w h => hW w (u_RB w h), t_RB_ok, n_RB, by decide, rfl, Or.inr ⟨"ServerDesk", va_Nw.use rfl (hN _ (List.mem_of_getElem? (i := 17) (by decide +kernel)))⟩, fun _ => ⟨rfl, by decide +kernel⟩, fun h => absurd h (by decide)⟩,
    List.forall_mem_cons.mpr ⟨⟨R_JL, F_JL, 4, t_JL, rfl, fun w h => hW w (u_JL w h), t_JL_ok, n_JL, by decide, rfl, Or.inr ⟨"ServerDesk", va_Nw.use rfl (hN _ (List.mem_of_getElem? (i := 24) (by decide +kernel)))⟩, fun _ => ⟨rfl, by decide +kernel⟩, fun h => absurd h (by decide)⟩,
    List.forall_mem_cons.mpr ⟨⟨R_EL, F_EL, 4, t_EL, rfl, fun w h => hW w (u_EL w h), t_EL_ok, n_EL, by decide, rfl, Or.inr ⟨"ServerDesk", va_Nw.use rfl (hN _ (List.mem_of_getElem? (i := 30) (by decide +kernel)))⟩, fun _ => ⟨rfl, by decide +kernel⟩, fun h => absurd h (by decide)⟩,
    List.forall_mem_cons.mpr ⟨⟨R_QU, F_QU, 5, t_QU, rfl, fun w h => hW w (u_QU w h), t_QU_ok, n_QU, by decide, rfl, Or.inr ⟨"ServerDesk", va_Nw.use rfl (hN _ (List.mem_of_getElem? (i := 32) (by decide +kernel)))⟩, fun h => absurd h (by decide), fun h => absurd h (by decide)⟩,
    List.forall_mem_cons.mpr ⟨⟨R_QU, F_QU, 5, t_QU, rfl, fun w h => hW w (u_QU w h), t_QU_ok, n_QU, by decide, rfl, Or.inr ⟨"ServerDesk", va_Nw.use rfl (hN _ (List.mem_of_getElem? (i := 34) (by decide +kernel)))⟩, fun _ => ⟨rfl, by decide +kernel⟩, fun h => absurd h (by decide)⟩,
    List.forall_mem_cons.mpr ⟨⟨R_BU, F_BU, 5, t_BU, rfl, fun w h => hW w (u_BU w h), t_BU_ok, n_BU, by decide, rfl, Or.inr ⟨"ServerDesk", va_Nw.use rfl (hN _ (List.mem_of_getElem? (i := 37) (by decide +kernel)))⟩, fun _ => ⟨rfl, by decide +kernel⟩, fun h => absurd h (by decide)⟩,
    List.forall_mem_cons.mpr ⟨⟨R_CO, F_CO, 7, t_CO, rfl, fun w h => hW w (u_CO w h), t_CO_ok, n_CO, by decide, rfl, Or.inr ⟨"ServerDesk", va_Nw.use rfl (hN _ (List.mem_of_getElem? (i := 41) (by decide +kernel)))⟩, fun h => absurd h (by decide), fun h => absurd h (by decide)⟩,
    List.forall_mem_cons.mpr ⟨⟨R_CO, F_CO, 7, t_CO, rfl, fun w h => hW w (u_CO w h), t_CO_ok, n_CO, by decide, rfl, Or.inr ⟨"ServerDesk", va_Nw.use rfl (hN _ (List.mem_of_getElem? (i := 43) (by decide +kernel)))⟩, fun h => absurd h (by decide), fun h => absurd h (by decide)⟩,
    List.forall_mem_cons.mpr ⟨⟨R_CO, F_CO, 7, t_CO, rfl, fun w h => hW w (u_CO w h), t_CO_ok, n_CO, by decide, rfl, Or.inr ⟨"ServerDesk", va_Nw.use rfl (hN _ (List.mem_of_getElem? (i := 44) (by decide +kernel)))⟩, fun h => absurd h (by decide), fun h => absurd h (by decide)⟩,
    List.forall_mem_cons.mpr ⟨⟨R_CO, F_CO, 7, t_CO, rfl, fun w h => hW w (u_CO w h), t_CO_ok, n_CO, by decide, rfl, Or.inr ⟨"ServerDesk", va_Nw.use rfl (hN _ (List.mem_of_getElem? (i := 46) (by decide +kernel)))⟩, fun _ => ⟨rfl, by decide +kernel⟩, fun h => absurd h (by decide)⟩,
    List.forall_mem_cons.mpr ⟨⟨R_RF, F_RF, 6, t_RF, rfl, fun w h => hW w (u_RF w h), t_RF_ok, n_RF, by decide, rfl, Or.inr ⟨"ServerDesk", va_Nw.use rfl (hN _ (List.mem_of_getElem? (i := 47) (by decide +kernel)))⟩, fun _ => ⟨rfl, by decide +kernel⟩, fun h => absurd h (by decide)⟩,
    List.forall_mem_cons.mpr ⟨⟨R_RF, F_RF, 6, t_RF, rfl, fun w h => hW w (u_RF w h), t_RF_ok, n_RF, by decide, rfl, Or.inr ⟨"ServerDesk", va_Nw.use rfl (hN _ (List.mem_of_getElem? (i := 48) (by decide +kernel)))⟩, fun _ => ⟨rfl, by decide +kernel⟩, fun h => absurd h (by decide)⟩,
    List.forall_mem_cons.mpr ⟨⟨R_RF, F_RF, 6, t_RF, rfl, fun w h => hW w (u_RF w h), t_RF_ok, n_RF, by decide, rfl, Or.inr ⟨"ServerDesk", va_Nw.use rfl (hN _ (List.mem_of_getElem? (i := 49) (by decide +kernel)))⟩, fun _ => ⟨rfl, by decide +kernel⟩, fun h => absurd h (by decide)⟩,
    List.forall_mem_cons.mpr ⟨⟨R_SD, F_SD, 10, t_SD, rfl, fun w h => hW w (u_SD w h), t_SD_ok, n_SD, by decide, rfl, Or.inl (hts _ (hW _ (vw_t 308 (by decide +kernel) (by decide +kernel)))), fun h => absurd h (by decide), fun h => absurd h (by decide)⟩,
    List.forall_mem_cons.mpr ⟨⟨R_SD, F_SD, 10, t_SD, rfl, fun w h => hW w (u_SD w h), t_SD_ok, n_SD, by decide, rfl, Or.inl (hts _ (hW _ (vw_t 309 (by decide +kernel) (by decide +kernel)))), fun h => absurd h (by decide), fun h => absurd h (by decide)⟩,
    List.forall_mem_cons.mpr ⟨⟨R_SD, F_SD, 10, t_SD, rfl, fun w h => hW w (u_SD w h), t_SD_ok, n_SD, by decide, rfl, Or.inl (hts _ (hW _ (vw_t 310 (by decide +kernel) (by decide +kernel)))), fun h => absurd h (by decide), fun h => absurd h (by decide)⟩,
    List.forall_mem_cons.mpr ⟨⟨R_SD, F_SD, 10, t_SD, rfl, fun w h => hW w (u_SD w h), t_SD_ok, n_SD, by decide, rfl, Or.inl (hts _ (hW _ (vw_t 311 (by decide +kernel) (by decide +kernel)))), fun h => absurd h (by decide), fun h => absurd h (by decide)⟩,
    List.forall_mem_cons.mpr ⟨⟨R_SD, F_SD, 10, t_SD, rfl, fun w h => hW w (u_SD w h), t_SD_ok, n_SD, by decide, rfl, Or.inl (hts _ (hW _ (vw_t 312 (by decide +kernel) (by decide +kernel)))), fun h => absurd h (by decide), fun h => absurd h (by decide)⟩,
    List.forall_mem_cons.mpr ⟨⟨R_SD, F_SD, 10, t_SD, rfl, fun w h => hW w (u_SD w h), t_SD_ok, n_SD, by decide, rfl, Or.inl (hts _ (hW _ (vw_t 313 (by decide +kernel) (by decide +kernel)))), fun h => absurd h (by decide), fun h => absurd h (by decide)⟩,
    List.forall_mem_cons.mpr ⟨⟨R_SD, F_SD, 10, t_SD, rfl, fun w h => hW w (u_SD w h), t_SD_ok, n_SD, by decide, rfl, Or.inl (hts _ (hW _ (vw_t 314 (by decide +kernel) (by decide +kernel)))), fun h => absurd h (by decide), fun h => absurd h (by decide)⟩,
    List.forall_mem_cons.mpr ⟨⟨R_SD, F_SD, 10, t_SD, rfl, fun w h => hW w (u_SD w h), t_SD_ok, n_SD, by decide, rfl, Or.inl (hts _ (hW _ (vw_t 315 (by decide +kernel) (by decide +kernel)))), fun h => absurd h (by decide), fun h => absurd h (by decide)⟩,
    List.forall_mem_cons.mpr ⟨⟨R_SD, F_SD, 10, t_SD, rfl, fun w h => hW w (u_SD w h), t_SD_ok, n_SD, by decide, rfl, Or.inl (hts _ (hW _ (vw_t 316 (by decide +kernel) (by decide +kernel)))), fun h => absurd h (by decide), fun _ => ⟨rfl, by decide +kernel⟩⟩,
    List.forall_mem_cons.mpr ⟨⟨R_SD, F_SD, 10, t_SD, rfl, fun w h => hW w (u_SD w h), t_SD_ok, n_SD, by decide, rfl, Or.inl (hts _ (hW _ (vw_t 317 (by decide +kernel) (by decide +kernel)))), fun _ => ⟨rfl, by decide +kernel⟩, fun h => absurd h (by decide)⟩,
    fun _ h => absurd h List.not_mem_nil⟩⟩⟩⟩⟩⟩⟩⟩⟩⟩⟩⟩⟩⟩⟩⟩⟩⟩⟩⟩⟩⟩⟩⟩⟩⟩
  intro idx ci j q h
  exact all _ (am_find_mem h)
def fl_TS : List (Nat × Nat × Nat × Nat) := [(9, 1, 0, 0), (15, 1, 1, 0), (18, 1, 2, 0), (21, 1, 3, 0), (24, 1, 4, 0), (27, 1, 5, 1), (31, 1, 6, 1)]
def fd_TS : Nat → Option (Nat × Nat × Nat) := am_find fl_TS
theorem fd_TS_9 : fd_TS 9 = some (1, 0, 0) := rfl
theorem fd_TS_15 : fd_TS 15 = some (1, 1, 0) := rfl
theorem fd_TS_18 : fd_TS 18 = some (1, 2, 0) := rfl
theorem fd_TS_21 : fd_TS 21 = some (1, 3, 0) := rfl
theorem fd_TS_24 : fd_TS 24 = some (1, 4, 0) := rfl
theorem fd_TS_27 : fd_TS 27 = some (1, 5, 1) := rfl
theorem fd_TS_31 : fd_TS 31 = some (1, 6, 1) := rfl
theorem fd_TS_ok (args : Array Value) (s : State) {Ts : List Jvm.Cond} (hW : ∀ w ∈ vw_W, w ∈ Ts) (hts : ∀ w ∈ Ts, w.before args s = true) (hN : ∀ w ∈ vw_N, va_Nw w s) : ∀ idx ci j q, fd_TS idx = some (ci, j, q) → am_FOK vw_cl R_TS args s Ts idx ci j q := by
  have all : ∀ z ∈ fl_TS, am_FOK vw_cl R_TS args s Ts z.1 z.2.1 z.2.2.1 z.2.2.2 := List.forall_mem_cons.mpr ⟨⟨R_TS, F_TS, 7, t_TS, rfl, fun w h => hW w (u_TS w h), t_TS_ok, n_TS, by decide, rfl, Or.inl (hts _ (hW _ (vw_t 37 (by decide +kernel) (by decide +kernel)))), fun h => absurd h (by decide), fun h => absurd h (by decide)⟩,
    List.forall_mem_cons.mpr ⟨⟨R_TS, F_TS, 7, t_TS, rfl, fun w h => hW w (u_TS w h), t_TS_ok, n_TS, by decide, rfl, Or.inl (hts _ (hW _ (vw_t 39 (by decide +kernel) (by decide +kernel)))), fun h => absurd h (by decide), fun h => absurd h (by decide)⟩,
    List.forall_mem_cons.mpr ⟨⟨R_TS, F_TS, 7, t_TS, rfl, fun w h => hW w (u_TS w h), t_TS_ok, n_TS, by decide, rfl, Or.inl (hts _ (hW _ (vw_t 41 (by decide +kernel) (by decide +kernel)))), fun h => absurd h (by decide), fun h => absurd h (by decide)⟩,
    List.forall_mem_cons.mpr ⟨⟨R_TS, F_TS, 7, t_TS, rfl, fun w h => hW w (u_TS w h), t_TS_ok, n_TS, by decide, rfl, Or.inl (hts _ (hW _ (vw_t 44 (by decide +kernel) (by decide +kernel)))), fun h => absurd h (by decide), fun h => absurd h (by decide)⟩,
    List.forall_mem_cons.mpr ⟨⟨R_TS, F_TS, 7, t_TS, rfl, fun w h => hW w (u_TS w h), t_TS_ok, n_TS, by decide, rfl, Or.inl (hts _ (hW _ (vw_t 46 (by decide +kernel) (by decide +kernel)))), fun h => absurd h (by decide), fun h => absurd h (by decide)⟩,
    List.forall_mem_cons.mpr ⟨⟨R_TS, F_TS, 7, t_TS, rfl, fun w h => hW w (u_TS w h), t_TS_ok, n_TS, by decide, rfl, Or.inl (hts _ (hW _ (vw_t 50 (by decide +kernel) (by decide +kernel)))), fun _ => ⟨rfl, by decide +kernel⟩, fun h => absurd h (by decide)⟩,
    List.forall_mem_cons.mpr ⟨⟨R_TS, F_TS, 7, t_TS, rfl, fun w h => hW w (u_TS w h), t_TS_ok, n_TS, by decide, rfl, Or.inl (hts _ (hW _ (vw_t 56 (by decide +kernel) (by decide +kernel)))), fun _ => ⟨rfl, by decide +kernel⟩, fun h => absurd h (by decide)⟩,
    fun _ h => absurd h List.not_mem_nil⟩⟩⟩⟩⟩⟩⟩
  intro idx ci j q h
  exact all _ (am_find_mem h)
def fl_RB : List (Nat × Nat × Nat × Nat) := [(9, 2, 0, 0), (15, 2, 1, 0), (18, 2, 2, 1)]
def fd_RB : Nat → Option (Nat × Nat × Nat) := am_find fl_RB
theorem fd_RB_9 : fd_RB 9 = some (2, 0, 0) := rfl
theorem fd_RB_15 : fd_RB 15 = some (2, 1, 0) := rfl
theorem fd_RB_18 : fd_RB 18 = some (2, 2, 1) := rfl
theorem fd_RB_ok (args : Array Value) (s : State) {Ts : List Jvm.Cond} (hW : ∀ w ∈ vw_W, w ∈ Ts) (hts : ∀ w ∈ Ts, w.before args s = true) (hN : ∀ w ∈ vw_N, va_Nw w s) : ∀ idx ci j q, fd_RB idx = some (ci, j, q) → am_FOK vw_cl R_RB args s Ts idx ci j q := by
  have all : ∀ z ∈ fl_RB, am_FOK vw_cl R_RB args s Ts z.1 z.2.1 z.2.2.1 z.2.2.2 := List.forall_mem_cons.mpr ⟨⟨R_RB, F_RB, 3, t_RB, rfl, fun w h => hW w (u_RB w h), t_RB_ok, n_RB, by decide, rfl, Or.inl (hts _ (hW _ (vw_t 87 (by decide +kernel) (by decide +kernel)))), fun h => absurd h (by decide), fun h => absurd h (by decide)⟩,
    List.forall_mem_cons.mpr ⟨⟨R_RB, F_RB, 3, t_RB, rfl, fun w h => hW w (u_RB w h), t_RB_ok, n_RB, by decide, rfl, Or.inl (hts _ (hW _ (vw_t 89 (by decide +kernel) (by decide +kernel)))), fun h => absurd h (by decide), fun h => absurd h (by decide)⟩,
    List.forall_mem_cons.mpr ⟨⟨R_RB, F_RB, 3, t_RB, rfl, fun w h => hW w (u_RB w h), t_RB_ok, n_RB, by decide, rfl, Or.inl (hts _ (hW _ (vw_t 91 (by decide +kernel) (by decide +kernel)))), fun _ => ⟨rfl, by decide +kernel⟩, fun h => absurd h (by decide)⟩,
    fun _ h => absurd h List.not_mem_nil⟩⟩⟩
  intro idx ci j q h
  exact all _ (am_find_mem h)
def fl_JL : List (Nat × Nat × Nat × Nat) := [(9, 3, 0, 0), (15, 3, 1, 0), (18, 3, 2, 0), (22, 3, 3, 1)]
def fd_JL : Nat → Option (Nat × Nat × Nat) := am_find fl_JL
theorem fd_JL_9 : fd_JL 9 = some (3, 0, 0) := rfl
theorem fd_JL_15 : fd_JL 15 = some (3, 1, 0) := rfl
theorem fd_JL_18 : fd_JL 18 = some (3, 2, 0) := rfl
theorem fd_JL_22 : fd_JL 22 = some (3, 3, 1) := rfl
theorem fd_JL_ok (args : Array Value) (s : State) {Ts : List Jvm.Cond} (hW : ∀ w ∈ vw_W, w ∈ Ts) (hts : ∀ w ∈ Ts, w.before args s = true) (hN : ∀ w ∈ vw_N, va_Nw w s) : ∀ idx ci j q, fd_JL idx = some (ci, j, q) → am_FOK vw_cl R_JL args s Ts idx ci j q := by
  have all : ∀ z ∈ fl_JL, am_FOK vw_cl R_JL args s Ts z.1 z.2.1 z.2.2.1 z.2.2.2 := List.forall_mem_cons.mpr ⟨⟨R_JL, F_JL, 4, t_JL, rfl, fun w h => hW w (u_JL w h), t_JL_ok, n_JL, by decide, rfl, Or.inl (hts _ (hW _ (vw_t 106 (by decide +kernel) (by decide +kernel)))), fun h => absurd h (by decide), fun h => absurd h (by decide)⟩,
    List.forall_mem_cons.mpr ⟨⟨R_JL, F_JL, 4, t_JL, rfl, fun w h => hW w (u_JL w h), t_JL_ok, n_JL, by decide, rfl, Or.inl (hts _ (hW _ (vw_t 109 (by decide +kernel) (by decide +kernel)))), fun h => absurd h (by decide), fun h => absurd h (by decide)⟩,
    List.forall_mem_cons.mpr ⟨⟨R_JL, F_JL, 4, t_JL, rfl, fun w h => hW w (u_JL w h), t_JL_ok, n_JL, by decide, rfl, Or.inl (hts _ (hW _ (vw_t 111 (by decide +kernel) (by decide +kernel)))), fun h => absurd h (by decide), fun h => absurd h (by decide)⟩,
    List.forall_mem_cons.mpr ⟨⟨R_JL, F_JL, 4, t_JL, rfl, fun w h => hW w (u_JL w h), t_JL_ok, n_JL, by decide, rfl, Or.inl (hts _ (hW _ (vw_t 113 (by decide +kernel) (by decide +kernel)))), fun _ => ⟨rfl, by decide +kernel⟩, fun h => absurd h (by decide)⟩,
    fun _ h => absurd h List.not_mem_nil⟩⟩⟩⟩
  intro idx ci j q h
  exact all _ (am_find_mem h)
def fl_EL : List (Nat × Nat × Nat × Nat) := [(9, 4, 0, 0), (15, 4, 1, 0), (18, 4, 2, 0), (21, 4, 3, 1)]
def fd_EL : Nat → Option (Nat × Nat × Nat) := am_find fl_EL
theorem fd_EL_9 : fd_EL 9 = some (4, 0, 0) := rfl
theorem fd_EL_15 : fd_EL 15 = some (4, 1, 0) := rfl
theorem fd_EL_18 : fd_EL 18 = some (4, 2, 0) := rfl
theorem fd_EL_21 : fd_EL 21 = some (4, 3, 1) := rfl
theorem fd_EL_ok (args : Array Value) (s : State) {Ts : List Jvm.Cond} (hW : ∀ w ∈ vw_W, w ∈ Ts) (hts : ∀ w ∈ Ts, w.before args s = true) (hN : ∀ w ∈ vw_N, va_Nw w s) : ∀ idx ci j q, fd_EL idx = some (ci, j, q) → am_FOK vw_cl R_EL args s Ts idx ci j q := by
  have all : ∀ z ∈ fl_EL, am_FOK vw_cl R_EL args s Ts z.1 z.2.1 z.2.2.1 z.2.2.2 := List.forall_mem_cons.mpr ⟨⟨R_EL, F_EL, 4, t_EL, rfl, fun w h => hW w (u_EL w h), t_EL_ok, n_EL, by decide, rfl, Or.inl (hts _ (hW _ (vw_t 132 (by decide +kernel) (by decide +kernel)))), fun h => absurd h (by decide), fun h => absurd h (by decide)⟩,
    List.forall_mem_cons.mpr ⟨⟨R_EL, F_EL, 4, t_EL, rfl, fun w h => hW w (u_EL w h), t_EL_ok, n_EL, by decide, rfl, Or.inl (hts _ (hW _ (vw_t 134 (by decide +kernel) (by decide +kernel)))), fun h => absurd h (by decide), fun h => absurd h (by decide)⟩,
    List.forall_mem_cons.mpr ⟨⟨R_EL, F_EL, 4, t_EL, rfl, fun w h => hW w (u_EL w h), t_EL_ok, n_EL, by decide, rfl, Or.inl (hts _ (hW _ (vw_t 136 (by decide +kernel) (by decide +kernel)))), fun h => absurd h (by decide), fun h => absurd h (by decide)⟩,
    List.forall_mem_cons.mpr ⟨⟨R_EL, F_EL, 4, t_EL, rfl, fun w h => hW w (u_EL w h), t_EL_ok, n_EL, by decide, rfl, Or.inl (hts _ (hW _ (vw_t 138 (by decide +kernel) (by decide +kernel)))), fun _ => ⟨rfl, by decide +kernel⟩, fun h => absurd h (by decide)⟩,
    fun _ h => absurd h List.not_mem_nil⟩⟩⟩⟩
  intro idx ci j q h
  exact all _ (am_find_mem h)
def fl_LO : List (Nat × Nat × Nat × Nat) := [(53, 1, 0, 0), (34, 1, 1, 0), (37, 1, 2, 0), (50, 1, 3, 0), (56, 1, 4, 0), (28, 1, 5, 1), (24, 5, 0, 0), (9, 5, 1, 0), (15, 5, 2, 0), (18, 5, 3, 0), (21, 5, 4, 0)]
def fd_LO : Nat → Option (Nat × Nat × Nat) := am_find fl_LO
theorem fd_LO_53 : fd_LO 53 = some (1, 0, 0) := rfl
theorem fd_LO_34 : fd_LO 34 = some (1, 1, 0) := rfl
theorem fd_LO_37 : fd_LO 37 = some (1, 2, 0) := rfl
theorem fd_LO_50 : fd_LO 50 = some (1, 3, 0) := rfl
theorem fd_LO_56 : fd_LO 56 = some (1, 4, 0) := rfl
theorem fd_LO_28 : fd_LO 28 = some (1, 5, 1) := rfl
theorem fd_LO_24 : fd_LO 24 = some (5, 0, 0) := rfl
theorem fd_LO_9 : fd_LO 9 = some (5, 1, 0) := rfl
theorem fd_LO_15 : fd_LO 15 = some (5, 2, 0) := rfl
theorem fd_LO_18 : fd_LO 18 = some (5, 3, 0) := rfl
theorem fd_LO_21 : fd_LO 21 = some (5, 4, 0) := rfl
theorem fd_LO_ok (args : Array Value) (s : State) {Ts : List Jvm.Cond} (hW : ∀ w ∈ vw_W, w ∈ Ts) (hts : ∀ w ∈ Ts, w.before args s = true) (hN : ∀ w ∈ vw_N, va_Nw w s) : ∀ idx ci j q, fd_LO idx = some (ci, j, q) → am_FOK vw_cl R_LO args s Ts idx ci j q := by
  have all : ∀ z ∈ fl_LO, am_FOK vw_cl R_LO args s Ts z.1 z.2.1 z.2.2.1 z.2.2.2 := List.forall_mem_cons.mpr ⟨⟨R_TS, F_TS, 7, t_TS, rfl, fun w h => hW w (u_TS w h), t_TS_ok, n_TS, by decide, rfl, Or.inr ⟨"ServerDesk", va_Nw.use rfl (hN _ (List.mem_of_getElem? (i := 1) (by decide +kernel)))⟩, fun h => absurd h (by decide), fun h => absurd h (by decide)⟩,
    List.forall_mem_cons.mpr ⟨⟨R_TS, F_TS, 7, t_TS, rfl, fun w h => hW w (u_TS w h), t_TS_ok, n_TS, by decide, rfl, Or.inr ⟨"ServerDesk", va_Nw.use rfl (hN _ (List.mem_of_getElem? (i := 2) (by decide +kernel)))⟩, fun h => absurd h (by decide), fun h => absurd h (by decide)⟩,
    List.forall_mem_cons.mpr ⟨⟨R_TS, F_TS, 7, t_TS, rfl, fun w h => hW w (u_TS w h), t_TS_ok, n_TS, by decide, rfl, Or.inr ⟨"ServerDesk", va_Nw.use rfl (hN _ (List.mem_of_getElem? (i := 3) (by decide +kernel)))⟩, fun h => absurd h (by decide), fun h => absurd h (by decide)⟩,
    List.forall_mem_cons.mpr ⟨⟨R_TS, F_TS, 7, t_TS, rfl, fun w h => hW w (u_TS w h), t_TS_ok, n_TS, by decide, rfl, Or.inr ⟨"ServerDesk", va_Nw.use rfl (hN _ (List.mem_of_getElem? (i := 5) (by decide +kernel)))⟩, fun h => absurd h (by decide), fun h => absurd h (by decide)⟩,
    List.forall_mem_cons.mpr ⟨⟨R_TS, F_TS, 7, t_TS, rfl, fun w h => hW w (u_TS w h), t_TS_ok, n_TS, by decide, rfl, Or.inr ⟨"ServerDesk", va_Nw.use rfl (hN _ (List.mem_of_getElem? (i := 8) (by decide +kernel)))⟩, fun h => absurd h (by decide), fun h => absurd h (by decide)⟩,
    List.forall_mem_cons.mpr ⟨⟨R_TS, F_TS, 7, t_TS, rfl, fun w h => hW w (u_TS w h), t_TS_ok, n_TS, by decide, rfl, Or.inr ⟨"ServerDesk", va_Nw.use rfl (hN _ (List.mem_of_getElem? (i := 9) (by decide +kernel)))⟩, fun _ => ⟨rfl, by decide +kernel⟩, fun h => absurd h (by decide)⟩,
    List.forall_mem_cons.mpr ⟨⟨R_LO, F_LO, 5, t_LO, rfl, fun w h => hW w (u_LO w h), t_LO_ok, n_LO, by decide, rfl, Or.inl (hts _ (hW _ (vw_t 162 (by decide +kernel) (by decide +kernel)))), fun h => absurd h (by decide), fun h => absurd h (by decide)⟩,
    List.forall_mem_cons.mpr ⟨⟨R_LO, F_LO, 5, t_LO, rfl, fun w h => hW w (u_LO w h), t_LO_ok, n_LO, by decide, rfl, Or.inl (hts _ (hW _ (vw_t 163 (by decide +kernel) (by decide +kernel)))), fun h => absurd h (by decide), fun h => absurd h (by decide)⟩,
    List.forall_mem_cons.mpr ⟨⟨R_LO, F_LO, 5, t_LO, rfl, fun w h => hW w (u_LO w h), t_LO_ok, n_LO, by decide, rfl, Or.inl (hts _ (hW _ (vw_t 164 (by decide +kernel) (by decide +kernel)))), fun h => absurd h (by decide), fun h => absurd h (by decide)⟩,
    List.forall_mem_cons.mpr ⟨⟨R_LO, F_LO, 5, t_LO, rfl, fun w h => hW w (u_LO w h), t_LO_ok, n_LO, by decide, rfl, Or.inl (hts _ (hW _ (vw_t 165 (by decide +kernel) (by decide +kernel)))), fun h => absurd h (by decide), fun h => absurd h (by decide)⟩,
    List.forall_mem_cons.mpr ⟨⟨R_LO, F_LO, 5, t_LO, rfl, fun w h => hW w (u_LO w h), t_LO_ok, n_LO, by decide, rfl, Or.inl (hts _ (hW _ (vw_t 166 (by decide +kernel) (by decide +kernel)))), fun h => absurd h (by decide), fun h => absurd h (by decide)⟩,
    fun _ h => absurd h List.not_mem_nil⟩⟩⟩⟩⟩⟩⟩⟩⟩⟩⟩
  intro idx ci j q h
  exact all _ (am_find_mem h)
def fl_SM : List (Nat × Nat × Nat × Nat) := [(66, 1, 4, 0), (50, 1, 5, 1), (18, 6, 0, 0), (27, 6, 1, 0), (9, 6, 2, 0), (15, 6, 3, 0)]
def fd_SM : Nat → Option (Nat × Nat × Nat) := am_find fl_SM
theorem fd_SM_66 : fd_SM 66 = some (1, 4, 0) := rfl
theorem fd_SM_50 : fd_SM 50 = some (1, 5, 1) := rfl
theorem fd_SM_18 : fd_SM 18 = some (6, 0, 0) := rfl
theorem fd_SM_27 : fd_SM 27 = some (6, 1, 0) := rfl
theorem fd_SM_9 : fd_SM 9 = some (6, 2, 0) := rfl
theorem fd_SM_15 : fd_SM 15 = some (6, 3, 0) := rfl
theorem fd_SM_ok (args : Array Value) (s : State) {Ts : List Jvm.Cond} (hW : ∀ w ∈ vw_W, w ∈ Ts) (hts : ∀ w ∈ Ts, w.before args s = true) (hN : ∀ w ∈ vw_N, va_Nw w s) : ∀ idx ci j q, fd_SM idx = some (ci, j, q) → am_FOK vw_cl R_SM args s Ts idx ci j q := by
  have all : ∀ z ∈ fl_SM, am_FOK vw_cl R_SM args s Ts z.1 z.2.1 z.2.2.1 z.2.2.2 := List.forall_mem_cons.mpr ⟨⟨R_TS, F_TS, 7, t_TS, rfl, fun w h => hW w (u_TS w h), t_TS_ok, n_TS, by decide, rfl, Or.inr ⟨"ServerDesk", va_Nw.use rfl (hN _ (List.mem_of_getElem? (i := 6) (by decide +kernel)))⟩, fun h => absurd h (by decide), fun h => absurd h (by decide)⟩,
    List.forall_mem_cons.mpr ⟨⟨R_TS, F_TS, 7, t_TS, rfl, fun w h => hW w (u_TS w h), t_TS_ok, n_TS, by decide, rfl, Or.inr ⟨"ServerDesk", va_Nw.use rfl (hN _ (List.mem_of_getElem? (i := 11) (by decide +kernel)))⟩, fun _ => ⟨rfl, by decide +kernel⟩, fun h => absurd h (by decide)⟩,
    List.forall_mem_cons.mpr ⟨⟨R_SM, F_SM, 4, t_SM, rfl, fun w h => hW w (u_SM w h), t_SM_ok, n_SM, by decide, rfl, Or.inl (hts _ (hW _ (vw_t 178 (by decide +kernel) (by decide +kernel)))), fun h => absurd h (by decide), fun h => absurd h (by decide)⟩,
    List.forall_mem_cons.mpr ⟨⟨R_SM, F_SM, 4, t_SM, rfl, fun w h => hW w (u_SM w h), t_SM_ok, n_SM, by decide, rfl, Or.inl (hts _ (hW _ (vw_t 179 (by decide +kernel) (by decide +kernel)))), fun h => absurd h (by decide), fun h => absurd h (by decide)⟩,
    List.forall_mem_cons.mpr ⟨⟨R_SM, F_SM, 4, t_SM, rfl, fun w h => hW w (u_SM w h), t_SM_ok, n_SM, by decide, rfl, Or.inl (hts _ (hW _ (vw_t 180 (by decide +kernel) (by decide +kernel)))), fun h => absurd h (by decide), fun h => absurd h (by decide)⟩,
    List.forall_mem_cons.mpr ⟨⟨R_SM, F_SM, 4, t_SM, rfl, fun w h => hW w (u_SM w h), t_SM_ok, n_SM, by decide, rfl, Or.inl (hts _ (hW _ (vw_t 181 (by decide +kernel) (by decide +kernel)))), fun h => absurd h (by decide), fun h => absurd h (by decide)⟩,
    fun _ h => absurd h List.not_mem_nil⟩⟩⟩⟩⟩⟩
  intro idx ci j q h
  exact all _ (am_find_mem h)
def fl_BU : List (Nat × Nat × Nat × Nat) := [(40, 2, 0, 0), (43, 2, 1, 0), (9, 7, 0, 0), (15, 7, 1, 1), (19, 7, 2, 1), (22, 7, 3, 1), (25, 7, 4, 1)]
def fd_BU : Nat → Option (Nat × Nat × Nat) := am_find fl_BU
theorem fd_BU_40 : fd_BU 40 = some (2, 0, 0) := rfl
theorem fd_BU_43 : fd_BU 43 = some (2, 1, 0) := rfl
theorem fd_BU_9 : fd_BU 9 = some (7, 0, 0) := rfl
theorem fd_BU_15 : fd_BU 15 = some (7, 1, 1) := rfl
theorem fd_BU_19 : fd_BU 19 = some (7, 2, 1) := rfl
theorem fd_BU_22 : fd_BU 22 = some (7, 3, 1) := rfl
theorem fd_BU_25 : fd_BU 25 = some (7, 4, 1) := rfl
theorem fd_BU_ok (args : Array Value) (s : State) {Ts : List Jvm.Cond} (hW : ∀ w ∈ vw_W, w ∈ Ts) (hts : ∀ w ∈ Ts, w.before args s = true) (hN : ∀ w ∈ vw_N, va_Nw w s) : ∀ idx ci j q, fd_BU idx = some (ci, j, q) → am_FOK vw_cl R_BU args s Ts idx ci j q := by
  have all : ∀ z ∈ fl_BU, am_FOK vw_cl R_BU args s Ts z.1 z.2.1 z.2.2.1 z.2.2.2 := List.forall_mem_cons.mpr ⟨⟨R_RB, F_RB, 3, t_RB, rfl, fun w h => hW w (u_RB w h), t_RB_ok, n_RB, by decide, rfl, Or.inr ⟨"ServerDesk", va_Nw.use rfl (hN _ (List.mem_of_getElem? (i := 15) (by decide +kernel)))⟩, fun h => absurd h (by decide), fun h => absurd h (by decide)⟩,
    List.forall_mem_cons.mpr ⟨⟨R_RB, F_RB, 3, t_RB, rfl, fun w h => hW w (u_RB w h), t_RB_ok, n_RB, by decide, rfl, Or.inr ⟨"ServerDesk", va_Nw.use rfl (hN _ (List.mem_of_getElem? (i := 16) (by decide +kernel)))⟩, fun h => absurd h (by decide), fun h => absurd h (by decide)⟩,
    List.forall_mem_cons.mpr ⟨⟨R_BU, F_BU, 5, t_BU, rfl, fun w h => hW w (u_BU w h), t_BU_ok, n_BU, by decide, rfl, Or.inl (hts _ (hW _ (vw_t 231 (by decide +kernel) (by decide +kernel)))), fun h => absurd h (by decide), fun h => absurd h (by decide)⟩,
    List.forall_mem_cons.mpr ⟨⟨R_BU, F_BU, 5, t_BU, rfl, fun w h => hW w (u_BU w h), t_BU_ok, n_BU, by decide, rfl, Or.inl (hts _ (hW _ (vw_t 232 (by decide +kernel) (by decide +kernel)))), fun _ => ⟨rfl, by decide +kernel⟩, fun h => absurd h (by decide)⟩,
    List.forall_mem_cons.mpr ⟨⟨R_BU, F_BU, 5, t_BU, rfl, fun w h => hW w (u_BU w h), t_BU_ok, n_BU, by decide, rfl, Or.inl (hts _ (hW _ (vw_t 233 (by decide +kernel) (by decide +kernel)))), fun _ => ⟨rfl, by decide +kernel⟩, fun h => absurd h (by decide)⟩,
    List.forall_mem_cons.mpr ⟨⟨R_BU, F_BU, 5, t_BU, rfl, fun w h => hW w (u_BU w h), t_BU_ok, n_BU, by decide, rfl, Or.inl (hts _ (hW _ (vw_t 234 (by decide +kernel) (by decide +kernel)))), fun _ => ⟨rfl, by decide +kernel⟩, fun h => absurd h (by decide)⟩,
    List.forall_mem_cons.mpr ⟨⟨R_BU, F_BU, 5, t_BU, rfl, fun w h => hW w (u_BU w h), t_BU_ok, n_BU, by decide, rfl, Or.inl (hts _ (hW _ (vw_t 235 (by decide +kernel) (by decide +kernel)))), fun _ => ⟨rfl, by decide +kernel⟩, fun h => absurd h (by decide)⟩,
    fun _ h => absurd h List.not_mem_nil⟩⟩⟩⟩⟩⟩⟩
  intro idx ci j q h
  exact all _ (am_find_mem h)
def fl_QU : List (Nat × Nat × Nat × Nat) := [(34, 3, 0, 0), (37, 3, 1, 0), (40, 3, 2, 0), (29, 3, 3, 1), (25, 8, 0, 0), (9, 8, 1, 0), (15, 8, 2, 0), (18, 8, 3, 1), (22, 8, 4, 1)]
def fd_QU : Nat → Option (Nat × Nat × Nat) := am_find fl_QU
theorem fd_QU_34 : fd_QU 34 = some (3, 0, 0) := rfl
theorem fd_QU_37 : fd_QU 37 = some (3, 1, 0) := rfl
theorem fd_QU_40 : fd_QU 40 = some (3, 2, 0) := rfl
theorem fd_QU_29 : fd_QU 29 = some (3, 3, 1) := rfl
theorem fd_QU_25 : fd_QU 25 = some (8, 0, 0) := rfl
theorem fd_QU_9 : fd_QU 9 = some (8, 1, 0) := rfl
theorem fd_QU_15 : fd_QU 15 = some (8, 2, 0) := rfl
theorem fd_QU_18 : fd_QU 18 = some (8, 3, 1) := rfl
theorem fd_QU_22 : fd_QU 22 = some (8, 4, 1) := rfl
theorem fd_QU_ok (args : Array Value) (s : State) {Ts : List Jvm.Cond} (hW : ∀ w ∈ vw_W, w ∈ Ts) (hts : ∀ w ∈ Ts, w.before args s = true) (hN : ∀ w ∈ vw_N, va_Nw w s) : ∀ idx ci j q, fd_QU idx = some (ci, j, q) → am_FOK vw_cl R_QU args s Ts idx ci j q := by
  have all : ∀ z ∈ fl_QU, am_FOK vw_cl R_QU args s Ts z.1 z.2.1 z.2.2.1 z.2.2.2 := List.forall_mem_cons.mpr ⟨⟨R_JL, F_JL, 4, t_JL, rfl, fun w h => hW w (u_JL w h), t_JL_ok, n_JL, by decide, rfl, Or.inr ⟨"ServerDesk", va_Nw.use rfl (hN _ (List.mem_of_getElem? (i := 19) (by decide +kernel)))⟩, fun h => absurd h (by decide), fun h => absurd h (by decide)⟩,
    List.forall_mem_cons.mpr ⟨⟨R_JL, F_JL, 4, t_JL, rfl, fun w h => hW w (u_JL w h), t_JL_ok, n_JL, by decide, rfl, Or.inr ⟨"ServerDesk", va_Nw.use rfl (hN _ (List.mem_of_getElem? (i := 21) (by decide +kernel)))⟩, fun h => absurd h (by decide), fun h => absurd h (by decide)⟩,
    List.forall_mem_cons.mpr ⟨⟨R_JL, F_JL, 4, t_JL, rfl, fun w h => hW w (u_JL w h), t_JL_ok, n_JL, by decide, rfl, Or.inr ⟨"ServerDesk", va_Nw.use rfl (hN _ (List.mem_of_getElem? (i := 22) (by decide +kernel)))⟩, fun h => absurd h (by decide), fun h => absurd h (by decide)⟩,
    List.forall_mem_cons.mpr ⟨⟨R_JL, F_JL, 4, t_JL, rfl, fun w h => hW w (u_JL w h), t_JL_ok, n_JL, by decide, rfl, Or.inr ⟨"ServerDesk", va_Nw.use rfl (hN _ (List.mem_of_getElem? (i := 23) (by decide +kernel)))⟩, fun _ => ⟨rfl, by decide +kernel⟩, fun h => absurd h (by decide)⟩,
    List.forall_mem_cons.mpr ⟨⟨R_QU, F_QU, 5, t_QU, rfl, fun w h => hW w (u_QU w h), t_QU_ok, n_QU, by decide, rfl, Or.inl (hts _ (hW _ (vw_t 205 (by decide +kernel) (by decide +kernel)))), fun h => absurd h (by decide), fun h => absurd h (by decide)⟩,
    List.forall_mem_cons.mpr ⟨⟨R_QU, F_QU, 5, t_QU, rfl, fun w h => hW w (u_QU w h), t_QU_ok, n_QU, by decide, rfl, Or.inl (hts _ (hW _ (vw_t 206 (by decide +kernel) (by decide +kernel)))), fun h => absurd h (by decide), fun h => absurd h (by decide)⟩,
    List.forall_mem_cons.mpr ⟨⟨R_QU, F_QU, 5, t_QU, rfl, fun w h => hW w (u_QU w h), t_QU_ok, n_QU, by decide, rfl, Or.inl (hts _ (hW _ (vw_t 207 (by decide +kernel) (by decide +kernel)))), fun h => absurd h (by decide), fun h => absurd h (by decide)⟩,
    List.forall_mem_cons.mpr ⟨⟨R_QU, F_QU, 5, t_QU, rfl, fun w h => hW w (u_QU w h), t_QU_ok, n_QU, by decide, rfl, Or.inl (hts _ (hW _ (vw_t 210 (by decide +kernel) (by decide +kernel)))), fun _ => ⟨rfl, by decide +kernel⟩, fun h => absurd h (by decide)⟩,
    List.forall_mem_cons.mpr ⟨⟨R_QU, F_QU, 5, t_QU, rfl, fun w h => hW w (u_QU w h), t_QU_ok, n_QU, by decide, rfl, Or.inl (hts _ (hW _ (vw_t 212 (by decide +kernel) (by decide +kernel)))), fun _ => ⟨rfl, by decide +kernel⟩, fun h => absurd h (by decide)⟩,
    fun _ h => absurd h List.not_mem_nil⟩⟩⟩⟩⟩⟩⟩⟩⟩
  intro idx ci j q h
  exact all _ (am_find_mem h)
def fl_CO : List (Nat × Nat × Nat × Nat) := [(103, 1, 4, 0), (76, 1, 5, 1), (84, 7, 4, 1), (18, 9, 0, 0), (22, 9, 1, 0), (31, 9, 2, 0), (40, 9, 3, 0), (47, 9, 4, 0), (9, 9, 5, 1), (15, 9, 6, 1)]
def fd_CO : Nat → Option (Nat × Nat × Nat) := am_find fl_CO
theorem fd_CO_103 : fd_CO 103 = some (1, 4, 0) := rfl
theorem fd_CO_76 : fd_CO 76 = some (1, 5, 1) := rfl
theorem fd_CO_84 : fd_CO 84 = some (7, 4, 1) := rfl
theorem fd_CO_18 : fd_CO 18 = some (9, 0, 0) := rfl
theorem fd_CO_22 : fd_CO 22 = some (9, 1, 0) := rfl
theorem fd_CO_31 : fd_CO 31 = some (9, 2, 0) := rfl
theorem fd_CO_40 : fd_CO 40 = some (9, 3, 0) := rfl
theorem fd_CO_47 : fd_CO 47 = some (9, 4, 0) := rfl
theorem fd_CO_9 : fd_CO 9 = some (9, 5, 1) := rfl
theorem fd_CO_15 : fd_CO 15 = some (9, 6, 1) := rfl
theorem fd_CO_ok (args : Array Value) (s : State) {Ts : List Jvm.Cond} (hW : ∀ w ∈ vw_W, w ∈ Ts) (hts : ∀ w ∈ Ts, w.before args s = true) (hN : ∀ w ∈ vw_N, va_Nw w s) : ∀ idx ci j q, fd_CO idx = some (ci, j, q) → am_FOK vw_cl R_CO args s Ts idx ci j q := by
  have all : ∀ z ∈ fl_CO, am_FOK vw_cl R_CO args s Ts z.1 z.2.1 z.2.2.1 z.2.2.2 := List.forall_mem_cons.mpr ⟨⟨R_TS, F_TS, 7, t_TS, rfl, fun w h => hW w (u_TS w h), t_TS_ok, n_TS, by decide, rfl, Or.inr ⟨"ServerDesk", va_Nw.use rfl (hN _ (List.mem_of_getElem? (i := 7) (by decide +kernel)))⟩, fun h => absurd h (by decide), fun h => absurd h (by decide)⟩,
    List.forall_mem_cons.mpr ⟨⟨R_TS, F_TS, 7, t_TS, rfl, fun w h => hW w (u_TS w h), t_TS_ok, n_TS, by decide, rfl, Or.inr ⟨"ServerDesk", va_Nw.use rfl (hN _ (List.mem_of_getElem? (i := 12) (by decide +kernel)))⟩, fun _ => ⟨rfl, by decide +kernel⟩, fun h => absurd h (by decide)⟩,
    List.forall_mem_cons.mpr ⟨⟨R_BU, F_BU, 5, t_BU, rfl, fun w h => hW w (u_BU w h), t_BU_ok, n_BU, by decide, rfl, Or.inr ⟨"ServerDesk", va_Nw.use rfl (hN _ (List.mem_of_getElem? (i := 36) (by decide +kernel)))⟩, fun _ => ⟨rfl, by decide +kernel⟩, fun h => absurd h (by decide)⟩,
    List.forall_mem_cons.mpr ⟨⟨R_CO, F_CO, 7, t_CO, rfl, fun w h => hW w (u_CO w h), t_CO_ok, n_CO, by decide, rfl, Or.inl (hts _ (hW _ (vw_t 249 (by decide +kernel) (by decide +kernel)))), fun h => absurd h (by decide), fun h => absurd h (by decide)⟩,
    List.forall_mem_cons.mpr ⟨⟨R_CO, F_CO, 7, t_CO, rfl, fun w h => hW w (u_CO w h), t_CO_ok, n_CO, by decide, rfl, Or.inl (hts _ (hW _ (vw_t 251 (by decide +kernel) (by decide +kernel)))), fun h => absurd h (by decide), fun h => absurd h (by decide)⟩,
    List.forall_mem_cons.mpr ⟨⟨R_CO, F_CO, 7, t_CO, rfl, fun w h => hW w (u_CO w h), t_CO_ok, n_CO, by decide, rfl, Or.inl (hts _ (hW _ (vw_t 253 (by decide +kernel) (by decide +kernel)))), fun h => absurd h (by decide), fun h => absurd h (by decide)⟩,
    List.forall_mem_cons.mpr ⟨⟨R_CO, F_CO, 7, t_CO, rfl, fun w h => hW w (u_CO w h), t_CO_ok, n_CO, by decide, rfl, Or.inl (hts _ (hW _ (vw_t 256 (by decide +kernel) (by decide +kernel)))), fun h => absurd h (by decide), fun h => absurd h (by decide)⟩,
    List.forall_mem_cons.mpr ⟨⟨R_CO, F_CO, 7, t_CO, rfl, fun w h => hW w (u_CO w h), t_CO_ok, n_CO, by decide, rfl, Or.inl (hts _ (hW _ (vw_t 259 (by decide +kernel) (by decide +kernel)))), fun h => absurd h (by decide), fun h => absurd h (by decide)⟩,
    List.forall_mem_cons.mpr ⟨⟨R_CO, F_CO, 7, t_CO, rfl, fun w h => hW w (u_CO w h), t_CO_ok, n_CO, by decide, rfl, Or.inl (hts _ (hW _ (vw_t 261 (by decide +kernel) (by decide +kernel)))), fun _ => ⟨rfl, by decide +kernel⟩, fun h => absurd h (by decide)⟩,
    List.forall_mem_cons.mpr ⟨⟨R_CO, F_CO, 7, t_CO, rfl, fun w h => hW w (u_CO w h), t_CO_ok, n_CO, by decide, rfl, Or.inl (hts _ (hW _ (vw_t 262 (by decide +kernel) (by decide +kernel)))), fun _ => ⟨rfl, by decide +kernel⟩, fun h => absurd h (by decide)⟩,
    fun _ h => absurd h List.not_mem_nil⟩⟩⟩⟩⟩⟩⟩⟩⟩⟩
  intro idx ci j q h
  exact all _ (am_find_mem h)
def fl_RF : List (Nat × Nat × Nat × Nat) := [(115, 1, 5, 1), (96, 3, 0, 0), (70, 4, 0, 0), (78, 4, 1, 0), (81, 4, 2, 0), (65, 4, 3, 1), (93, 8, 2, 0), (90, 8, 3, 1), (111, 9, 0, 0), (118, 9, 1, 0), (74, 9, 2, 0), (42, 9, 3, 0), (60, 9, 6, 1), (21, 10, 0, 0), (25, 10, 1, 0), (29, 10, 2, 0), (9, 10, 3, 1), (15, 10, 4, 1), (18, 10, 5, 1)]
def fd_RF : Nat → Option (Nat × Nat × Nat) := am_find fl_RF
theorem fd_RF_115 : fd_RF 115 = some (1, 5, 1) := rfl
theorem fd_RF_96 : fd_RF 96 = some (3, 0, 0) := rfl
theorem fd_RF_70 : fd_RF 70 = some (4, 0, 0) := rfl
theorem fd_RF_78 : fd_RF 78 = some (4, 1, 0) := rfl
theorem fd_RF_81 : fd_RF 81 = some (4, 2, 0) := rfl
theorem fd_RF_65 : fd_RF 65 = some (4, 3, 1) := rfl
theorem fd_RF_93 : fd_RF 93 = some (8, 2, 0) := rfl
theorem fd_RF_90 : fd_RF 90 = some (8, 3, 1) := rfl
theorem fd_RF_111 : fd_RF 111 = some (9, 0, 0) := rfl
theorem fd_RF_118 : fd_RF 118 = some (9, 1, 0) := rfl
theorem fd_RF_74 : fd_RF 74 = some (9, 2, 0) := rfl
theorem fd_RF_42 : fd_RF 42 = some (9, 3, 0) := rfl
theorem fd_RF_60 : fd_RF 60 = some (9, 6, 1) := rfl
theorem fd_RF_21 : fd_RF 21 = some (10, 0, 0) := rfl
theorem fd_RF_25 : fd_RF 25 = some (10, 1, 0) := rfl
theorem fd_RF_29 : fd_RF 29 = some (10, 2, 0) := rfl
theorem fd_RF_9 : fd_RF 9 = some (10, 3, 1) := rfl
theorem fd_RF_15 : fd_RF 15 = some (10, 4, 1) := rfl
theorem fd_RF_18 : fd_RF 18 = some (10, 5, 1) := rfl
theorem fd_RF_ok (args : Array Value) (s : State) {Ts : List Jvm.Cond} (hW : ∀ w ∈ vw_W, w ∈ Ts) (hts : ∀ w ∈ Ts, w.before args s = true) (hN : ∀ w ∈ vw_N, va_Nw w s) : ∀ idx ci j q, fd_RF idx = some (ci, j, q) → am_FOK vw_cl R_RF args s Ts idx ci j q := by
  have all : ∀ z ∈ fl_RF, am_FOK vw_cl R_RF args s Ts z.1 z.2.1 z.2.2.1 z.2.2.2 := List.forall_mem_cons.mpr ⟨⟨R_TS, F_TS, 7, t_TS, rfl, fun w h => hW w (u_TS w h), t_TS_ok, n_TS, by decide, rfl, Or.inr ⟨"ServerDesk", va_Nw.use rfl (hN _ (List.mem_of_getElem? (i := 13) (by decide +kernel)))⟩, fun _ => ⟨rfl, by decide +kernel⟩, fun h => absurd h (by decide)⟩,
    List.forall_mem_cons.mpr ⟨⟨R_JL, F_JL, 4, t_JL, rfl, fun w h => hW w (u_JL w h), t_JL_ok, n_JL, by decide, rfl, Or.inr ⟨"ServerDesk", va_Nw.use rfl (hN _ (List.mem_of_getElem? (i := 20) (by decide +kernel)))⟩, fun h => absurd h (by decide), fun h => absurd h (by decide)⟩,
    List.forall_mem_cons.mpr ⟨⟨R_EL, F_EL, 4, t_EL, rfl, fun w h => hW w (u_EL w h), t_EL_ok, n_EL, by decide, rfl, Or.inr ⟨"ServerDesk", va_Nw.use rfl (hN _ (List.mem_of_getElem? (i := 26) (by decide +kernel)))⟩, fun h => absurd h (by decide), fun h => absurd h (by decide)⟩,
    List.forall_mem_cons.mpr ⟨⟨R_EL, F_EL, 4, t_EL, rfl, fun w h => hW w (u_EL w h), t_EL_ok, n_EL, by decide, rfl, Or.inr ⟨"ServerDesk", va_Nw.use rfl (hN _ (List.mem_of_getElem? (i := 27) (by decide +kernel)))⟩, fun h => absurd h (by decide), fun h => absurd h (by decide)⟩,
    List.forall_mem_cons.mpr ⟨⟨R_EL, F_EL, 4, t_EL, rfl, fun w h => hW w (u_EL w h), t_EL_ok, n_EL, by decide, rfl, Or.inr ⟨"ServerDesk", va_Nw.use rfl (hN _ (List.mem_of_getElem? (i := 28) (by decide +kernel)))⟩, fun h => absurd h (by decide), fun h => absurd h (by decide)⟩,
    List.forall_mem_cons.mpr ⟨⟨R_EL, F_EL, 4, t_EL, rfl, fun w h => hW w (u_EL w h), t_EL_ok, n_EL, by decide, rfl, Or.inr ⟨"ServerDesk", va_Nw.use rfl (hN _ (List.mem_of_getElem? (i := 29) (by decide +kernel)))⟩, fun _ => ⟨rfl, by decide +kernel⟩, fun h => absurd h (by decide)⟩,
    List.forall_mem_cons.mpr ⟨⟨R_QU, F_QU, 5, t_QU, rfl, fun w h => hW w (u_QU w h), t_QU_ok, n_QU, by decide, rfl, Or.inr ⟨"ServerDesk", va_Nw.use rfl (hN _ (List.mem_of_getElem? (i := 31) (by decide +kernel)))⟩, fun h => absurd h (by decide), fun h => absurd h (by decide)⟩,
    List.forall_mem_cons.mpr ⟨⟨R_QU, F_QU, 5, t_QU, rfl, fun w h => hW w (u_QU w h), t_QU_ok, n_QU, by decide, rfl, Or.inr ⟨"ServerDesk", va_Nw.use rfl (hN _ (List.mem_of_getElem? (i := 33) (by decide +kernel)))⟩, fun _ => ⟨rfl, by decide +kernel⟩, fun h => absurd h (by decide)⟩,
    List.forall_mem_cons.mpr ⟨⟨R_CO, F_CO, 7, t_CO, rfl, fun w h => hW w (u_CO w h), t_CO_ok, n_CO, by decide, rfl, Or.inr ⟨"ServerDesk", va_Nw.use rfl (hN _ (List.mem_of_getElem? (i := 38) (by decide +kernel)))⟩, fun h => absurd h (by decide), fun h => absurd h (by decide)⟩,
    List.forall_mem_cons.mpr ⟨⟨R_CO, F_CO, 7, t_CO, rfl, fun w h => hW w (u_CO w h), t_CO_ok, n_CO, by decide, rfl, Or.inr ⟨"ServerDesk", va_Nw.use rfl (hN _ (List.mem_of_getElem? (i := 39) (by decide +kernel)))⟩, fun h => absurd h (by decide), fun h => absurd h (by decide)⟩,
    List.forall_mem_cons.mpr ⟨⟨R_CO, F_CO, 7, t_CO, rfl, fun w h => hW w (u_CO w h), t_CO_ok, n_CO, by decide, rfl, Or.inr ⟨"ServerDesk", va_Nw.use rfl (hN _ (List.mem_of_getElem? (i := 40) (by decide +kernel)))⟩, fun h => absurd h (by decide), fun h => absurd h (by decide)⟩,
    List.forall_mem_cons.mpr ⟨⟨R_CO, F_CO, 7, t_CO, rfl, fun w h => hW w (u_CO w h), t_CO_ok, n_CO, by decide, rfl, Or.inr ⟨"ServerDesk", va_Nw.use rfl (hN _ (List.mem_of_getElem? (i := 42) (by decide +kernel)))⟩, fun h => absurd h (by decide), fun h => absurd h (by decide)⟩,
    List.forall_mem_cons.mpr ⟨⟨R_CO, F_CO, 7, t_CO, rfl, fun w h => hW w (u_CO w h), t_CO_ok, n_CO, by decide, rfl, Or.inr ⟨"ServerDesk", va_Nw.use rfl (hN _ (List.mem_of_getElem? (i := 45) (by decide +kernel)))⟩, fun _ => ⟨rfl, by decide +kernel⟩, fun h => absurd h (by decide)⟩,
    List.forall_mem_cons.mpr ⟨⟨R_RF, F_RF, 6, t_RF, rfl, fun w h => hW w (u_RF w h), t_RF_ok, n_RF, by decide, rfl, Or.inl (hts _ (hW _ (vw_t 286 (by decide +kernel) (by decide +kernel)))), fun h => absurd h (by decide), fun h => absurd h (by decide)⟩,
    List.forall_mem_cons.mpr ⟨⟨R_RF, F_RF, 6, t_RF, rfl, fun w h => hW w (u_RF w h), t_RF_ok, n_RF, by decide, rfl, Or.inl (hts _ (hW _ (vw_t 287 (by decide +kernel) (by decide +kernel)))), fun h => absurd h (by decide), fun h => absurd h (by decide)⟩,
    List.forall_mem_cons.mpr ⟨⟨R_RF, F_RF, 6, t_RF, rfl, fun w h => hW w (u_RF w h), t_RF_ok, n_RF, by decide, rfl, Or.inl (hts _ (hW _ (vw_t 288 (by decide +kernel) (by decide +kernel)))), fun h => absurd h (by decide), fun h => absurd h (by decide)⟩,
    List.forall_mem_cons.mpr ⟨⟨R_RF, F_RF, 6, t_RF, rfl, fun w h => hW w (u_RF w h), t_RF_ok, n_RF, by decide, rfl, Or.inl (hts _ (hW _ (vw_t 289 (by decide +kernel) (by decide +kernel)))), fun _ => ⟨rfl, by decide +kernel⟩, fun h => absurd h (by decide)⟩,
    List.forall_mem_cons.mpr ⟨⟨R_RF, F_RF, 6, t_RF, rfl, fun w h => hW w (u_RF w h), t_RF_ok, n_RF, by decide, rfl, Or.inl (hts _ (hW _ (vw_t 291 (by decide +kernel) (by decide +kernel)))), fun _ => ⟨rfl, by decide +kernel⟩, fun h => absurd h (by decide)⟩,
    List.forall_mem_cons.mpr ⟨⟨R_RF, F_RF, 6, t_RF, rfl, fun w h => hW w (u_RF w h), t_RF_ok, n_RF, by decide, rfl, Or.inl (hts _ (hW _ (vw_t 293 (by decide +kernel) (by decide +kernel)))), fun _ => ⟨rfl, by decide +kernel⟩, fun h => absurd h (by decide)⟩,
    fun _ h => absurd h List.not_mem_nil⟩⟩⟩⟩⟩⟩⟩⟩⟩⟩⟩⟩⟩⟩⟩⟩⟩⟩⟩
  intro idx ci j q h
  exact all _ (am_find_mem h)
def fl_MO : List (Nat × Nat × Nat × Nat) := [(92, 11, 0, 1), (96, 11, 1, 1), (7, 11, 2, 0), (13, 11, 3, 0), (16, 11, 4, 0), (19, 11, 5, 0), (22, 11, 6, 0), (125, 11, 7, 1), (25, 11, 8, 0), (28, 11, 9, 0), (111, 11, 10, 2), (185, 11, 11, 1), (31, 11, 12, 0), (34, 11, 13, 0), (37, 11, 14, 0), (204, 11, 15, 1), (41, 11, 16, 0), (44, 11, 17, 0), (47, 11, 18, 0), (132, 11, 19, 1), (135, 11, 20, 1), (50, 11, 21, 0), (53, 11, 22, 0), (56, 11, 23, 0), (138, 11, 24, 1), (59, 11, 25, 0), (141, 11, 26, 1), (62, 11, 27, 0), (65, 11, 28, 0), (144, 11, 29, 1), (68, 11, 30, 0), (211, 11, 31, 1), (214, 11, 32, 1), (217, 11, 33, 1), (220, 11, 34, 1), (223, 11, 35, 1), (71, 11, 36, 0), (74, 11, 37, 0), (77, 11, 38, 0), (80, 11, 39, 0), (83, 11, 40, 0), (86, 11, 41, 0), (89, 11, 42, 0), (226, 11, 43, 1), (229, 11, 44, 1), (232, 11, 45, 1)]
def fd_MO : Nat → Option (Nat × Nat × Nat) := am_find fl_MO
theorem fd_MO_92 : fd_MO 92 = some (11, 0, 1) := rfl
theorem fd_MO_96 : fd_MO 96 = some (11, 1, 1) := rfl
theorem fd_MO_7 : fd_MO 7 = some (11, 2, 0) := rfl
theorem fd_MO_13 : fd_MO 13 = some (11, 3, 0) := rfl
theorem fd_MO_16 : fd_MO 16 = some (11, 4, 0) := rfl
theorem fd_MO_19 : fd_MO 19 = some (11, 5, 0) := rfl
theorem fd_MO_22 : fd_MO 22 = some (11, 6, 0) := rfl
theorem fd_MO_125 : fd_MO 125 = some (11, 7, 1) := rfl
theorem fd_MO_25 : fd_MO 25 = some (11, 8, 0) := rfl
theorem fd_MO_28 : fd_MO 28 = some (11, 9, 0) := rfl
theorem fd_MO_111 : fd_MO 111 = some (11, 10, 2) := rfl
theorem fd_MO_185 : fd_MO 185 = some (11, 11, 1) := rfl
theorem fd_MO_31 : fd_MO 31 = some (11, 12, 0) := rfl
theorem fd_MO_34 : fd_MO 34 = some (11, 13, 0) := rfl
theorem fd_MO_37 : fd_MO 37 = some (11, 14, 0) := rfl
theorem fd_MO_204 : fd_MO 204 = some (11, 15, 1) := rfl
theorem fd_MO_41 : fd_MO 41 = some (11, 16, 0) := rfl
theorem fd_MO_44 : fd_MO 44 = some (11, 17, 0) := rfl
theorem fd_MO_47 : fd_MO 47 = some (11, 18, 0) := rfl
theorem fd_MO_132 : fd_MO 132 = some (11, 19, 1) := rfl
theorem fd_MO_135 : fd_MO 135 = some (11, 20, 1) := rfl
theorem fd_MO_50 : fd_MO 50 = some (11, 21, 0) := rfl
theorem fd_MO_53 : fd_MO 53 = some (11, 22, 0) := rfl
theorem fd_MO_56 : fd_MO 56 = some (11, 23, 0) := rfl
theorem fd_MO_138 : fd_MO 138 = some (11, 24, 1) := rfl
theorem fd_MO_59 : fd_MO 59 = some (11, 25, 0) := rfl
theorem fd_MO_141 : fd_MO 141 = some (11, 26, 1) := rfl
theorem fd_MO_62 : fd_MO 62 = some (11, 27, 0) := rfl
theorem fd_MO_65 : fd_MO 65 = some (11, 28, 0) := rfl
theorem fd_MO_144 : fd_MO 144 = some (11, 29, 1) := rfl
theorem fd_MO_68 : fd_MO 68 = some (11, 30, 0) := rfl
theorem fd_MO_211 : fd_MO 211 = some (11, 31, 1) := rfl
theorem fd_MO_214 : fd_MO 214 = some (11, 32, 1) := rfl
theorem fd_MO_217 : fd_MO 217 = some (11, 33, 1) := rfl
theorem fd_MO_220 : fd_MO 220 = some (11, 34, 1) := rfl
theorem fd_MO_223 : fd_MO 223 = some (11, 35, 1) := rfl
theorem fd_MO_71 : fd_MO 71 = some (11, 36, 0) := rfl
theorem fd_MO_74 : fd_MO 74 = some (11, 37, 0) := rfl
theorem fd_MO_77 : fd_MO 77 = some (11, 38, 0) := rfl
theorem fd_MO_80 : fd_MO 80 = some (11, 39, 0) := rfl
theorem fd_MO_83 : fd_MO 83 = some (11, 40, 0) := rfl
theorem fd_MO_86 : fd_MO 86 = some (11, 41, 0) := rfl
theorem fd_MO_89 : fd_MO 89 = some (11, 42, 0) := rfl
theorem fd_MO_226 : fd_MO 226 = some (11, 43, 1) := rfl
theorem fd_MO_229 : fd_MO 229 = some (11, 44, 1) := rfl
theorem fd_MO_232 : fd_MO 232 = some (11, 45, 1) := rfl
theorem fd_MO_ok (args : Array Value) (s : State) {Ts : List Jvm.Cond} (hW : ∀ w ∈ vw_W, w ∈ Ts) (hts : ∀ w ∈ Ts, w.before args s = true) (hN : ∀ w ∈ vw_N, va_Nw w s) : ∀ idx ci j q, fd_MO idx = some (ci, j, q) → am_FOK vw_cl R_MO args s Ts idx ci j q := by
  have all : ∀ z ∈ fl_MO, am_FOK vw_cl R_MO args s Ts z.1 z.2.1 z.2.2.1 z.2.2.2 := List.forall_mem_cons.mpr ⟨⟨R_MO, F_MO, 46, t_MO, rfl, fun w h => hW w (u_MO w h), t_MO_ok, n_MO, by decide, rfl, Or.inl (hts _ (hW _ (vw_t 803 (by decide +kernel) (by decide +kernel)))), fun _ => ⟨rfl, by decide +kernel⟩, fun h => absurd h (by decide)⟩,
    List.forall_mem_cons.mpr ⟨⟨R_MO, F_MO, 46, t_MO, rfl, fun w h => hW w (u_MO w h), t_MO_ok, n_MO, by decide, rfl, Or.inl (hts _ (hW _ (vw_t 804 (by decide +kernel) (by decide +kernel)))), fun _ => ⟨rfl, by decide +kernel⟩, fun h => absurd h (by decide)⟩,
    List.forall_mem_cons.mpr ⟨⟨R_MO, F_MO, 46, t_MO, rfl, fun w h => hW w (u_MO w h), t_MO_ok, n_MO, by decide, rfl, Or.inl (hts _ (hW _ (vw_t 805 (by decide +kernel) (by decide +kernel)))), fun h => absurd h (by decide), fun h => absurd h (by decide)⟩,
    List.forall_mem_cons.mpr ⟨⟨R_MO, F_MO, 46, t_MO, rfl, fun w h => hW w (u_MO w h), t_MO_ok, n_MO, by decide, rfl, Or.inl (hts _ (hW _ (vw_t 806 (by decide +kernel) (by decide +kernel)))), fun h => absurd h (by decide), fun h => absurd h (by decide)⟩,
    List.forall_mem_cons.mpr ⟨⟨R_MO, F_MO, 46, t_MO, rfl, fun w h => hW w (u_MO w h), t_MO_ok, n_MO, by decide, rfl, Or.inl (hts _ (hW _ (vw_t 807 (by decide +kernel) (by decide +kernel)))), fun h => absurd h (by decide), fun h => absurd h (by decide)⟩,
    List.forall_mem_cons.mpr ⟨⟨R_MO, F_MO, 46, t_MO, rfl, fun w h => hW w (u_MO w h), t_MO_ok, n_MO, by decide, rfl, Or.inl (hts _ (hW _ (vw_t 808 (by decide +kernel) (by decide +kernel)))), fun h => absurd h (by decide), fun h => absurd h (by decide)⟩,
    List.forall_mem_cons.mpr ⟨⟨R_MO, F_MO, 46, t_MO, rfl, fun w h => hW w (u_MO w h), t_MO_ok, n_MO, by decide, rfl, Or.inl (hts _ (hW _ (vw_t 809 (by decide +kernel) (by decide +kernel)))), fun h => absurd h (by decide), fun h => absurd h (by decide)⟩,
    List.forall_mem_cons.mpr ⟨⟨R_MO, F_MO, 46, t_MO, rfl, fun w h => hW w (u_MO w h), t_MO_ok, n_MO, by decide, rfl, Or.inl (hts _ (hW _ (vw_t 810 (by decide +kernel) (by decide +kernel)))), fun _ => ⟨rfl, by decide +kernel⟩, fun h => absurd h (by decide)⟩,
    List.forall_mem_cons.mpr ⟨⟨R_MO, F_MO, 46, t_MO, rfl, fun w h => hW w (u_MO w h), t_MO_ok, n_MO, by decide, rfl, Or.inl (hts _ (hW _ (vw_t 811 (by decide +kernel) (by decide +kernel)))), fun h => absurd h (by decide), fun h => absurd h (by decide)⟩,
    List.forall_mem_cons.mpr ⟨⟨R_MO, F_MO, 46, t_MO, rfl, fun w h => hW w (u_MO w h), t_MO_ok, n_MO, by decide, rfl, Or.inl (hts _ (hW _ (vw_t 812 (by decide +kernel) (by decide +kernel)))), fun h => absurd h (by decide), fun h => absurd h (by decide)⟩,
    List.forall_mem_cons.mpr ⟨⟨R_MO, F_MO, 46, t_MO, rfl, fun w h => hW w (u_MO w h), t_MO_ok, n_MO, by decide, rfl, Or.inl (hts _ (hW _ (vw_t 813 (by decide +kernel) (by decide +kernel)))), fun h => absurd h (by decide), fun _ => ⟨rfl, by decide +kernel⟩⟩,
    List.forall_mem_cons.mpr ⟨⟨R_MO, F_MO, 46, t_MO, rfl, fun w h => hW w (u_MO w h), t_MO_ok, n_MO, by decide, rfl, Or.inl (hts _ (hW _ (vw_t 814 (by decide +kernel) (by decide +kernel)))), fun _ => ⟨rfl, by decide +kernel⟩, fun h => absurd h (by decide)⟩,
    List.forall_mem_cons.mpr ⟨⟨R_MO, F_MO, 46, t_MO, rfl, fun w h => hW w (u_MO w h), t_MO_ok, n_MO, by decide, rfl, Or.inl (hts _ (hW _ (vw_t 815 (by decide +kernel) (by decide +kernel)))), fun h => absurd h (by decide), fun h => absurd h (by decide)⟩,
    List.forall_mem_cons.mpr ⟨⟨R_MO, F_MO, 46, t_MO, rfl, fun w h => hW w (u_MO w h), t_MO_ok, n_MO, by decide, rfl, Or.inl (hts _ (hW _ (vw_t 816 (by decide +kernel) (by decide +kernel)))), fun h => absurd h (by decide), fun h => absurd h (by decide)⟩,
    List.forall_mem_cons.mpr ⟨⟨R_MO, F_MO, 46, t_MO, rfl, fun w h => hW w (u_MO w h), t_MO_ok, n_MO, by decide, rfl, Or.inl (hts _ (hW _ (vw_t 817 (by decide +kernel) (by decide +kernel)))), fun h => absurd h (by decide), fun h => absurd h (by decide)⟩,
    List.forall_mem_cons.mpr ⟨⟨R_MO, F_MO, 46, t_MO, rfl, fun w h => hW w (u_MO w h), t_MO_ok, n_MO, by decide, rfl, Or.inl (hts _ (hW _ (vw_t 818 (by decide +kernel) (by decide +kernel)))), fun _ => ⟨rfl, by decide +kernel⟩, fun h => absurd h (by decide)⟩,
    List.forall_mem_cons.mpr ⟨⟨R_MO, F_MO, 46, t_MO, rfl, fun w h => hW w (u_MO w h), t_MO_ok, n_MO, by decide, rfl, Or.inl (hts _ (hW _ (vw_t 819 (by decide +kernel) (by decide +kernel)))), fun h => absurd h (by decide), fun h => absurd h (by decide)⟩,
    List.forall_mem_cons.mpr ⟨⟨R_MO, F_MO, 46, t_MO, rfl, fun w h => hW w (u_MO w h), t_MO_ok, n_MO, by decide, rfl, Or.inl (hts _ (hW _ (vw_t 820 (by decide +kernel) (by decide +kernel)))), fun h => absurd h (by decide), fun h => absurd h (by decide)⟩,
    List.forall_mem_cons.mpr ⟨⟨R_MO, F_MO, 46, t_MO, rfl, fun w h => hW w (u_MO w h), t_MO_ok, n_MO, by decide, rfl, Or.inl (hts _ (hW _ (vw_t 821 (by decide +kernel) (by decide +kernel)))), fun h => absurd h (by decide), fun h => absurd h (by decide)⟩,
    List.forall_mem_cons.mpr ⟨⟨R_MO, F_MO, 46, t_MO, rfl, fun w h => hW w (u_MO w h), t_MO_ok, n_MO, by decide, rfl, Or.inl (hts _ (hW _ (vw_t 822 (by decide +kernel) (by decide +kernel)))), fun _ => ⟨rfl, by decide +kernel⟩, fun h => absurd h (by decide)⟩,
    List.forall_mem_cons.mpr ⟨⟨R_MO, F_MO, 46, t_MO, rfl, fun w h => hW w (u_MO w h), t_MO_ok, n_MO, by decide, rfl, Or.inl (hts _ (hW _ (vw_t 823 (by decide +kernel) (by decide +kernel)))), fun _ => ⟨rfl, by decide +kernel⟩, fun h => absurd h (by decide)⟩,
    List.forall_mem_cons.mpr ⟨⟨R_MO, F_MO, 46, t_MO, rfl, fun w h => hW w (u_MO w h), t_MO_ok, n_MO, by decide, rfl, Or.inl (hts _ (hW _ (vw_t 824 (by decide +kernel) (by decide +kernel)))), fun h => absurd h (by decide), fun h => absurd h (by decide)⟩,
    List.forall_mem_cons.mpr ⟨⟨R_MO, F_MO, 46, t_MO, rfl, fun w h => hW w (u_MO w h), t_MO_ok, n_MO, by decide, rfl, Or.inl (hts _ (hW _ (vw_t 825 (by decide +kernel) (by decide +kernel)))), fun h => absurd h (by decide), fun h => absurd h (by decide)⟩,
    List.forall_mem_cons.mpr ⟨⟨R_MO, F_MO, 46, t_MO, rfl, fun w h => hW w (u_MO w h), t_MO_ok, n_MO, by decide, rfl, Or.inl (hts _ (hW _ (vw_t 826 (by decide +kernel) (by decide +kernel)))), fun h => absurd h (by decide), fun h => absurd h (by decide)⟩,
    List.forall_mem_cons.mpr ⟨⟨R_MO, F_MO, 46, t_MO, rfl, fun w h => hW w (u_MO w h), t_MO_ok, n_MO, by decide, rfl, Or.inl (hts _ (hW _ (vw_t 827 (by decide +kernel) (by decide +kernel)))), fun _ => ⟨rfl, by decide +kernel⟩, fun h => absurd h (by decide)⟩,
    List.forall_mem_cons.mpr ⟨⟨R_MO, F_MO, 46, t_MO, rfl, fun w h => hW w (u_MO w h), t_MO_ok, n_MO, by decide, rfl, Or.inl (hts _ (hW _ (vw_t 828 (by decide +kernel) (by decide +kernel)))), fun h => absurd h (by decide), fun h => absurd h (by decide)⟩,
    List.forall_mem_cons.mpr ⟨⟨R_MO, F_MO, 46, t_MO, rfl, fun w h => hW w (u_MO w h), t_MO_ok, n_MO, by decide, rfl, Or.inl (hts _ (hW _ (vw_t 829 (by decide +kernel) (by decide +kernel)))), fun _ => ⟨rfl, by decide +kernel⟩, fun h => absurd h (by decide)⟩,
    List.forall_mem_cons.mpr ⟨⟨R_MO, F_MO, 46, t_MO, rfl, fun w h => hW w (u_MO w h), t_MO_ok, n_MO, by decide, rfl, Or.inl (hts _ (hW _ (vw_t 830 (by decide +kernel) (by decide +kernel)))), fun h => absurd h (by decide), fun h => absurd h (by decide)⟩,
    List.forall_mem_cons.mpr ⟨⟨R_MO, F_MO, 46, t_MO, rfl, fun w h => hW w (u_MO w h), t_MO_ok, n_MO, by decide, rfl, Or.inl (hts _ (hW _ (vw_t 831 (by decide +kernel) (by decide +kernel)))), fun h => absurd h (by decide), fun h => absurd h (by decide)⟩,
    List.forall_mem_cons.mpr ⟨⟨R_MO, F_MO, 46, t_MO, rfl, fun w h => hW w (u_MO w h), t_MO_ok, n_MO, by decide, rfl, Or.inl (hts _ (hW _ (vw_t 832 (by decide +kernel) (by decide +kernel)))), fun _ => ⟨rfl, by decide +kernel⟩, fun h => absurd h (by decide)⟩,
    List.forall_mem_cons.mpr ⟨⟨R_MO, F_MO, 46, t_MO, rfl, fun w h => hW w (u_MO w h), t_MO_ok, n_MO, by decide, rfl, Or.inl (hts _ (hW _ (vw_t 833 (by decide +kernel) (by decide +kernel)))), fun h => absurd h (by decide), fun h => absurd h (by decide)⟩,
    List.forall_mem_cons.mpr ⟨⟨R_MO, F_MO, 46, t_MO, rfl, fun w h => hW w (u_MO w h), t_MO_ok, n_MO, by decide, rfl, Or.inl (hts _ (hW _ (vw_t 834 (by decide +kernel) (by decide +kernel)))), fun _ => ⟨rfl, by decide +kernel⟩, fun h => absurd h (by decide)⟩,
    List.forall_mem_cons.mpr ⟨⟨R_MO, F_MO, 46, t_MO, rfl, fun w h => hW w (u_MO w h), t_MO_ok, n_MO, by decide, rfl, Or.inl (hts _ (hW _ (vw_t 835 (by decide +kernel) (by decide +kernel)))), fun _ => ⟨rfl, by decide +kernel⟩, fun h => absurd h (by decide)⟩,
    List.forall_mem_cons.mpr ⟨⟨R_MO, F_MO, 46, t_MO, rfl, fun w h => hW w (u_MO w h), t_MO_ok, n_MO, by decide, rfl, Or.inl (hts _ (hW _ (vw_t 836 (by decide +kernel) (by decide +kernel)))), fun _ => ⟨rfl, by decide +kernel⟩, fun h => absurd h (by decide)⟩,
    List.forall_mem_cons.mpr ⟨⟨R_MO, F_MO, 46, t_MO, rfl, fun w h => hW w (u_MO w h), t_MO_ok, n_MO, by decide, rfl, Or.inl (hts _ (hW _ (vw_t 837 (by decide +kernel) (by decide +kernel)))), fun _ => ⟨rfl, by decide +kernel⟩, fun h => absurd h (by decide)⟩,
    List.forall_mem_cons.mpr ⟨⟨R_MO, F_MO, 46, t_MO, rfl, fun w h => hW w (u_MO w h), t_MO_ok, n_MO, by decide, rfl, Or.inl (hts _ (hW _ (vw_t 838 (by decide +kernel) (by decide +kernel)))), fun _ => ⟨rfl, by decide +kernel⟩, fun h => absurd h (by decide)⟩,
    List.forall_mem_cons.mpr ⟨⟨R_MO, F_MO, 46, t_MO, rfl, fun w h => hW w (u_MO w h), t_MO_ok, n_MO, by decide, rfl, Or.inl (hts _ (hW _ (vw_t 839 (by decide +kernel) (by decide +kernel)))), fun h => absurd h (by decide), fun h => absurd h (by decide)⟩,
    List.forall_mem_cons.mpr ⟨⟨R_MO, F_MO, 46, t_MO, rfl, fun w h => hW w (u_MO w h), t_MO_ok, n_MO, by decide, rfl, Or.inl (hts _ (hW _ (vw_t 840 (by decide +kernel) (by decide +kernel)))), fun h => absurd h (by decide), fun h => absurd h (by decide)⟩,
    List.forall_mem_cons.mpr ⟨⟨R_MO, F_MO, 46, t_MO, rfl, fun w h => hW w (u_MO w h), t_MO_ok, n_MO, by decide, rfl, Or.inl (hts _ (hW _ (vw_t 841 (by decide +kernel) (by decide +kernel)))), fun h => absurd h (by decide), fun h => absurd h (by decide)⟩,
    List.forall_mem_cons.mpr ⟨⟨R_MO, F_MO, 46, t_MO, rfl, fun w h => hW w (u_MO w h), t_MO_ok, n_MO, by decide, rfl, Or.inl (hts _ (hW _ (vw_t 842 (by decide +kernel) (by decide +kernel)))), fun h => absurd h (by decide), fun h => absurd h (by decide)⟩,
    List.forall_mem_cons.mpr ⟨⟨R_MO, F_MO, 46, t_MO, rfl, fun w h => hW w (u_MO w h), t_MO_ok, n_MO, by decide, rfl, Or.inl (hts _ (hW _ (vw_t 843 (by decide +kernel) (by decide +kernel)))), fun h => absurd h (by decide), fun h => absurd h (by decide)⟩,
    List.forall_mem_cons.mpr ⟨⟨R_MO, F_MO, 46, t_MO, rfl, fun w h => hW w (u_MO w h), t_MO_ok, n_MO, by decide, rfl, Or.inl (hts _ (hW _ (vw_t 844 (by decide +kernel) (by decide +kernel)))), fun h => absurd h (by decide), fun h => absurd h (by decide)⟩,
    List.forall_mem_cons.mpr ⟨⟨R_MO, F_MO, 46, t_MO, rfl, fun w h => hW w (u_MO w h), t_MO_ok, n_MO, by decide, rfl, Or.inl (hts _ (hW _ (vw_t 845 (by decide +kernel) (by decide +kernel)))), fun h => absurd h (by decide), fun h => absurd h (by decide)⟩,
    List.forall_mem_cons.mpr ⟨⟨R_MO, F_MO, 46, t_MO, rfl, fun w h => hW w (u_MO w h), t_MO_ok, n_MO, by decide, rfl, Or.inl (hts _ (hW _ (vw_t 846 (by decide +kernel) (by decide +kernel)))), fun _ => ⟨rfl, by decide +kernel⟩, fun h => absurd h (by decide)⟩,
    List.forall_mem_cons.mpr ⟨⟨R_MO, F_MO, 46, t_MO, rfl, fun w h => hW w (u_MO w h), t_MO_ok, n_MO, by decide, rfl, Or.inl (hts _ (hW _ (vw_t 847 (by decide +kernel) (by decide +kernel)))), fun _ => ⟨rfl, by decide +kernel⟩, fun h => absurd h (by decide)⟩,
    List.forall_mem_cons.mpr ⟨⟨R_MO, F_MO, 46, t_MO, rfl, fun w h => hW w (u_MO w h), t_MO_ok, n_MO, by decide, rfl, Or.inl (hts _ (hW _ (vw_t 848 (by decide +kernel) (by decide +kernel)))), fun _ => ⟨rfl, by decide +kernel⟩, fun h => absurd h (by decide)⟩,
    fun _ h => absurd h List.not_mem_nil⟩⟩⟩⟩⟩⟩⟩⟩⟩⟩⟩⟩⟩⟩⟩⟩⟩⟩⟩⟩⟩⟩⟩⟩⟩⟩⟩⟩⟩⟩⟩⟩⟩⟩⟩⟩⟩⟩⟩⟩⟩⟩⟩⟩⟩⟩
  intro idx ci j q h
  exact all _ (am_find_mem h)
