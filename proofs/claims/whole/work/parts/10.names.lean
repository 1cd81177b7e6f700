/-! names, printed by program (wip/whole/gen_names.py): classes, their fields, the words -/
abbrev R_SD : String := "ServerDesk"
def F_SD : u_T := fun k => match k with
  | 0 => ("ServerDesk", "tasks", "LServerDesk$TaskSet;", true)
  | 1 => ("ServerDesk", "rules", "LServerDesk$RuleBook;", true)
  | 2 => ("ServerDesk", "jobs", "LServerDesk$JobLog;", true)
  | 3 => ("ServerDesk", "earlyOnes", "LServerDesk$EarlyLog;", true)
  | 4 => ("ServerDesk", "meter", "LServerDesk$SlackMeter;", true)
  | 5 => ("ServerDesk", "live", "LServerDesk$Course;", true)
  | 6 => ("ServerDesk", "referee", "LServerDesk$Referee;", true)
  | 7 => ("ServerDesk", "runners", "[I", true)
  | 8 => ("ServerDesk", "started", "Z", false)
  | _ => ("ServerDesk", "now", "I", false)
def t_SD : Nat → FieldType := fun k => match k with
  | 0 => .object "ServerDesk$TaskSet"
  | 1 => .object "ServerDesk$RuleBook"
  | 2 => .object "ServerDesk$JobLog"
  | 3 => .object "ServerDesk$EarlyLog"
  | 4 => .object "ServerDesk$SlackMeter"
  | 5 => .object "ServerDesk$Course"
  | 6 => .object "ServerDesk$Referee"
  | 7 => .array .int
  | 8 => .boolean
  | _ => .int
theorem n_SD : ∀ a, a < 10 → ∀ b, b < 10 → a ≠ b → (F_SD a).2.1 ≠ (F_SD b).2.1 := by decide +kernel
theorem t_SD_ok : ∀ k, k < 10 → parseFieldDescriptor (F_SD k).2.2.1 = some (t_SD k) := by decide +kernel
abbrev R_TS : String := "ServerDesk$TaskSet"
def F_TS : u_T := fun k => match k with
  | 0 => ("ServerDesk$TaskSet", "period", "[I", true)
  | 1 => ("ServerDesk$TaskSet", "offset", "[I", true)
  | 2 => ("ServerDesk$TaskSet", "cost", "[I", true)
  | 3 => ("ServerDesk$TaskSet", "deadline", "[I", true)
  | 4 => ("ServerDesk$TaskSet", "atRank", "[I", true)
  | 5 => ("ServerDesk$TaskSet", "count", "I", false)
  | _ => ("ServerDesk$TaskSet", "hyperperiod", "I", false)
def t_TS : Nat → FieldType := fun k => match k with
  | 0 => .array .int
  | 1 => .array .int
  | 2 => .array .int
  | 3 => .array .int
  | 4 => .array .int
  | 5 => .int
  | _ => .int
theorem n_TS : ∀ a, a < 7 → ∀ b, b < 7 → a ≠ b → (F_TS a).2.1 ≠ (F_TS b).2.1 := by decide +kernel
theorem t_TS_ok : ∀ k, k < 7 → parseFieldDescriptor (F_TS k).2.2.1 = some (t_TS k) := by decide +kernel
abbrev R_RB : String := "ServerDesk$RuleBook"
def F_RB : u_T := fun k => match k with
  | 0 => ("ServerDesk$RuleBook", "budget", "[I", true)
  | 1 => ("ServerDesk$RuleBook", "period", "[I", true)
  | _ => ("ServerDesk$RuleBook", "current", "I", false)
def t_RB : Nat → FieldType := fun k => match k with
  | 0 => .array .int
  | 1 => .array .int
  | _ => .int
theorem n_RB : ∀ a, a < 3 → ∀ b, b < 3 → a ≠ b → (F_RB a).2.1 ≠ (F_RB b).2.1 := by decide +kernel
theorem t_RB_ok : ∀ k, k < 3 → parseFieldDescriptor (F_RB k).2.2.1 = some (t_RB k) := by decide +kernel
abbrev R_JL : String := "ServerDesk$JobLog"
def F_JL : u_T := fun k => match k with
  | 0 => ("ServerDesk$JobLog", "arrival", "[I", true)
  | 1 => ("ServerDesk$JobLog", "cost", "[I", true)
  | 2 => ("ServerDesk$JobLog", "isHard", "[Z", true)
  | _ => ("ServerDesk$JobLog", "count", "I", false)
def t_JL : Nat → FieldType := fun k => match k with
  | 0 => .array .int
  | 1 => .array .int
  | 2 => .array .boolean
  | _ => .int
theorem n_JL : ∀ a, a < 4 → ∀ b, b < 4 → a ≠ b → (F_JL a).2.1 ≠ (F_JL b).2.1 := by decide +kernel
theorem t_JL_ok : ∀ k, k < 4 → parseFieldDescriptor (F_JL k).2.2.1 = some (t_JL k) := by decide +kernel
abbrev R_EL : String := "ServerDesk$EarlyLog"
def F_EL : u_T := fun k => match k with
  | 0 => ("ServerDesk$EarlyLog", "moment", "[I", true)
  | 1 => ("ServerDesk$EarlyLog", "task", "[I", true)
  | 2 => ("ServerDesk$EarlyLog", "ticks", "[I", true)
  | _ => ("ServerDesk$EarlyLog", "count", "I", false)
def t_EL : Nat → FieldType := fun k => match k with
  | 0 => .array .int
  | 1 => .array .int
  | 2 => .array .int
  | _ => .int
theorem n_EL : ∀ a, a < 4 → ∀ b, b < 4 → a ≠ b → (F_EL a).2.1 ≠ (F_EL b).2.1 := by decide +kernel
theorem t_EL_ok : ∀ k, k < 4 → parseFieldDescriptor (F_EL k).2.2.1 = some (t_EL k) := by decide +kernel
abbrev R_LO : String := "ServerDesk$Load"
def F_LO : u_T := fun k => match k with
  | 0 => ("ServerDesk$Load", "tasks", "LServerDesk$TaskSet;", true)
  | 1 => ("ServerDesk$Load", "nextReady", "[I", true)
  | 2 => ("ServerDesk$Load", "nextNeed", "[I", true)
  | 3 => ("ServerDesk$Load", "need", "[I", true)
  | _ => ("ServerDesk$Load", "due", "[I", true)
def t_LO : Nat → FieldType := fun k => match k with
  | 0 => .object "ServerDesk$TaskSet"
  | 1 => .array .int
  | 2 => .array .int
  | 3 => .array .int
  | _ => .array .int
theorem n_LO : ∀ a, a < 5 → ∀ b, b < 5 → a ≠ b → (F_LO a).2.1 ≠ (F_LO b).2.1 := by decide +kernel
theorem t_LO_ok : ∀ k, k < 5 → parseFieldDescriptor (F_LO k).2.2.1 = some (t_LO k) := by decide +kernel
abbrev R_SM : String := "ServerDesk$SlackMeter"
def F_SM : u_T := fun k => match k with
  | 0 => ("ServerDesk$SlackMeter", "tasks", "LServerDesk$TaskSet;", true)
  | 1 => ("ServerDesk$SlackMeter", "ahead", "LServerDesk$Load;", true)
  | 2 => ("ServerDesk$SlackMeter", "free", "[I", true)
  | _ => ("ServerDesk$SlackMeter", "until", "[I", true)
def t_SM : Nat → FieldType := fun k => match k with
  | 0 => .object "ServerDesk$TaskSet"
  | 1 => .object "ServerDesk$Load"
  | 2 => .array .int
  | _ => .array .int
theorem n_SM : ∀ a, a < 4 → ∀ b, b < 4 → a ≠ b → (F_SM a).2.1 ≠ (F_SM b).2.1 := by decide +kernel
theorem t_SM_ok : ∀ k, k < 4 → parseFieldDescriptor (F_SM k).2.2.1 = some (t_SM k) := by decide +kernel
abbrev R_BU : String := "ServerDesk$Budget"
def F_BU : u_T := fun k => match k with
  | 0 => ("ServerDesk$Budget", "used", "[I", true)
  | 1 => ("ServerDesk$Budget", "kind", "I", false)
  | 2 => ("ServerDesk$Budget", "full", "I", false)
  | 3 => ("ServerDesk$Budget", "period", "I", false)
  | _ => ("ServerDesk$Budget", "left", "I", false)
def t_BU : Nat → FieldType := fun k => match k with
  | 0 => .array .int
  | 1 => .int
  | 2 => .int
  | 3 => .int
  | _ => .int
theorem n_BU : ∀ a, a < 5 → ∀ b, b < 5 → a ≠ b → (F_BU a).2.1 ≠ (F_BU b).2.1 := by decide +kernel
theorem t_BU_ok : ∀ k, k < 5 → parseFieldDescriptor (F_BU k).2.2.1 = some (t_BU k) := by decide +kernel
abbrev R_QU : String := "ServerDesk$Queue"
def F_QU : u_T := fun k => match k with
  | 0 => ("ServerDesk$Queue", "log", "LServerDesk$JobLog;", true)
  | 1 => ("ServerDesk$Queue", "need", "[I", true)
  | 2 => ("ServerDesk$Queue", "end", "[I", true)
  | 3 => ("ServerDesk$Queue", "arrived", "I", false)
  | _ => ("ServerDesk$Queue", "waiting", "I", false)
def t_QU : Nat → FieldType := fun k => match k with
  | 0 => .object "ServerDesk$JobLog"
  | 1 => .array .int
  | 2 => .array .int
  | 3 => .int
  | _ => .int
theorem n_QU : ∀ a, a < 5 → ∀ b, b < 5 → a ≠ b → (F_QU a).2.1 ≠ (F_QU b).2.1 := by decide +kernel
theorem t_QU_ok : ∀ k, k < 5 → parseFieldDescriptor (F_QU k).2.2.1 = some (t_QU k) := by decide +kernel
abbrev R_CO : String := "ServerDesk$Course"
def F_CO : u_T := fun k => match k with
  | 0 => ("ServerDesk$Course", "tasks", "LServerDesk$TaskSet;", true)
  | 1 => ("ServerDesk$Course", "meter", "LServerDesk$SlackMeter;", true)
  | 2 => ("ServerDesk$Course", "load", "LServerDesk$Load;", true)
  | 3 => ("ServerDesk$Course", "queue", "LServerDesk$Queue;", true)
  | 4 => ("ServerDesk$Course", "budget", "LServerDesk$Budget;", true)
  | 5 => ("ServerDesk$Course", "kind", "I", false)
  | _ => ("ServerDesk$Course", "late", "I", false)
def t_CO : Nat → FieldType := fun k => match k with
  | 0 => .object "ServerDesk$TaskSet"
  | 1 => .object "ServerDesk$SlackMeter"
  | 2 => .object "ServerDesk$Load"
  | 3 => .object "ServerDesk$Queue"
  | 4 => .object "ServerDesk$Budget"
  | 5 => .int
  | _ => .int
theorem n_CO : ∀ a, a < 7 → ∀ b, b < 7 → a ≠ b → (F_CO a).2.1 ≠ (F_CO b).2.1 := by decide +kernel
theorem t_CO_ok : ∀ k, k < 7 → parseFieldDescriptor (F_CO k).2.2.1 = some (t_CO k) := by decide +kernel
abbrev R_RF : String := "ServerDesk$Referee"
def F_RF : u_T := fun k => match k with
  | 0 => ("ServerDesk$Referee", "course", "LServerDesk$Course;", true)
  | 1 => ("ServerDesk$Referee", "jobs", "LServerDesk$JobLog;", true)
  | 2 => ("ServerDesk$Referee", "earlyOnes", "LServerDesk$EarlyLog;", true)
  | 3 => ("ServerDesk$Referee", "endedJobs", "I", false)
  | 4 => ("ServerDesk$Referee", "sameTicks", "I", false)
  | _ => ("ServerDesk$Referee", "late", "I", false)
def t_RF : Nat → FieldType := fun k => match k with
  | 0 => .object "ServerDesk$Course"
  | 1 => .object "ServerDesk$JobLog"
  | 2 => .object "ServerDesk$EarlyLog"
  | 3 => .int
  | 4 => .int
  | _ => .int
theorem n_RF : ∀ a, a < 6 → ∀ b, b < 6 → a ≠ b → (F_RF a).2.1 ≠ (F_RF b).2.1 := by decide +kernel
theorem t_RF_ok : ∀ k, k < 6 → parseFieldDescriptor (F_RF k).2.2.1 = some (t_RF k) := by decide +kernel
abbrev R_MO : String := "ServerDeskModel"
def F_MO : u_T := fun k => match k with
  | 0 => ("ServerDeskModel", "code", "I", false)
  | 1 => ("ServerDeskModel", "tasks", "I", false)
  | 2 => ("ServerDeskModel", "period", "[I", true)
  | 3 => ("ServerDeskModel", "offset", "[I", true)
  | 4 => ("ServerDeskModel", "cost", "[I", true)
  | 5 => ("ServerDeskModel", "deadline", "[I", true)
  | 6 => ("ServerDeskModel", "order", "[I", true)
  | 7 => ("ServerDeskModel", "rule", "I", false)
  | 8 => ("ServerDeskModel", "budget", "[I", true)
  | 9 => ("ServerDeskModel", "turn", "[I", true)
  | 10 => ("ServerDeskModel", "started", "Z", false)
  | 11 => ("ServerDeskModel", "jobs", "I", false)
  | 12 => ("ServerDeskModel", "jobCost", "[I", true)
  | 13 => ("ServerDeskModel", "jobAt", "[I", true)
  | 14 => ("ServerDeskModel", "jobHard", "[Z", true)
  | 15 => ("ServerDeskModel", "earlies", "I", false)
  | 16 => ("ServerDeskModel", "earlyTask", "[I", true)
  | 17 => ("ServerDeskModel", "earlyTicks", "[I", true)
  | 18 => ("ServerDeskModel", "earlyAt", "[I", true)
  | 19 => ("ServerDeskModel", "now", "I", false)
  | 20 => ("ServerDeskModel", "by", "I", false)
  | 21 => ("ServerDeskModel", "pending", "[I", true)
  | 22 => ("ServerDeskModel", "due", "[I", true)
  | 23 => ("ServerDeskModel", "told", "[I", true)
  | 24 => ("ServerDeskModel", "left", "I", false)
  | 25 => ("ServerDeskModel", "used", "[I", true)
  | 26 => ("ServerDeskModel", "known", "I", false)
  | 27 => ("ServerDeskModel", "needs", "[I", true)
  | 28 => ("ServerDeskModel", "ends", "[I", true)
  | 29 => ("ServerDeskModel", "late", "I", false)
  | 30 => ("ServerDeskModel", "trace", "[I", true)
  | 31 => ("ServerDeskModel", "keptNow", "I", false)
  | 32 => ("ServerDeskModel", "keptBy", "I", false)
  | 33 => ("ServerDeskModel", "keptLeft", "I", false)
  | 34 => ("ServerDeskModel", "keptKnown", "I", false)
  | 35 => ("ServerDeskModel", "keptLate", "I", false)
  | 36 => ("ServerDeskModel", "keptPending", "[I", true)
  | 37 => ("ServerDeskModel", "keptDue", "[I", true)
  | 38 => ("ServerDeskModel", "keptTold", "[I", true)
  | 39 => ("ServerDeskModel", "keptUsed", "[I", true)
  | 40 => ("ServerDeskModel", "keptNeeds", "[I", true)
  | 41 => ("ServerDeskModel", "keptEnds", "[I", true)
  | 42 => ("ServerDeskModel", "keptTrace", "[I", true)
  | 43 => ("ServerDeskModel", "replayEnded", "I", false)
  | 44 => ("ServerDeskModel", "replaySame", "I", false)
  | _ => ("ServerDeskModel", "replayLate", "I", false)
def t_MO : Nat → FieldType := fun k => match k with
  | 0 => .int
  | 1 => .int
  | 2 => .array .int
  | 3 => .array .int
  | 4 => .array .int
  | 5 => .array .int
  | 6 => .array .int
  | 7 => .int
  | 8 => .array .int
  | 9 => .array .int
  | 10 => .boolean
  | 11 => .int
  | 12 => .array .int
  | 13 => .array .int
  | 14 => .array .boolean
  | 15 => .int
  | 16 => .array .int
  | 17 => .array .int
  | 18 => .array .int
  | 19 => .int
  | 20 => .int
  | 21 => .array .int
  | 22 => .array .int
  | 23 => .array .int
  | 24 => .int
  | 25 => .array .int
  | 26 => .int
  | 27 => .array .int
  | 28 => .array .int
  | 29 => .int
  | 30 => .array .int
  | 31 => .int
  | 32 => .int
  | 33 => .int
  | 34 => .int
  | 35 => .int
  | 36 => .array .int
  | 37 => .array .int
  | 38 => .array .int
  | 39 => .array .int
  | 40 => .array .int
  | 41 => .array .int
  | 42 => .array .int
  | 43 => .int
  | 44 => .int
  | _ => .int
theorem n_MO : ∀ a, a < 46 → ∀ b, b < 46 → a ≠ b → (F_MO a).2.1 ≠ (F_MO b).2.1 := by decide +kernel
theorem t_MO_ok : ∀ k, k < 46 → parseFieldDescriptor (F_MO k).2.2.1 = some (t_MO k) := by decide +kernel
abbrev vw_cl : List vw_C := [(R_SD, F_SD, 10), (R_TS, F_TS, 7), (R_RB, F_RB, 3), (R_JL, F_JL, 4), (R_EL, F_EL, 4), (R_LO, F_LO, 5), (R_SM, F_SM, 4), (R_BU, F_BU, 5), (R_QU, F_QU, 5), (R_CO, F_CO, 7), (R_RF, F_RF, 6), (R_MO, F_MO, 46)]
/-- all words that stay -/
def vw_W : List Jvm.Cond := lw_tbl.filter goodWord
theorem vw_t {w : Jvm.Cond} (i : Nat) (h : tables_1[i]? = some w) (g : goodWord w = true) : w ∈ vw_W := List.mem_filter.mpr ⟨List.mem_append_right _ (List.mem_of_getElem? h), g⟩
theorem vw_s {w : Jvm.Cond} (i : Nat) (h : (k2_sels lw_privs)[i]? = some w) (g : goodWord w = true) : w ∈ vw_W := List.mem_filter.mpr ⟨List.mem_append_left _ (List.mem_of_getElem? h), g⟩
theorem u_SD : ∀ w ∈ u_ws R_SD F_SD 10, w ∈ vw_W := by
  have h : ∀ w ∈ ([.laysFinal "ServerDesk" "ServerDesk" "tasks" "LServerDesk$TaskSet;", .laysFinal "ServerDesk" "ServerDesk" "rules" "LServerDesk$RuleBook;", .laysFinal "ServerDesk" "ServerDesk" "jobs" "LServerDesk$JobLog;", .laysFinal "ServerDesk" "ServerDesk" "earlyOnes" "LServerDesk$EarlyLog;", .laysFinal "ServerDesk" "ServerDesk" "meter" "LServerDesk$SlackMeter;", .laysFinal "ServerDesk" "ServerDesk" "live" "LServerDesk$Course;", .laysFinal "ServerDesk" "ServerDesk" "referee" "LServerDesk$Referee;", .laysFinal "ServerDesk" "ServerDesk" "runners" "[I", .lays "ServerDesk" "ServerDesk" "started" "Z", .lays "ServerDesk" "ServerDesk" "now" "I"] : List Jvm.Cond), w ∈ vw_W := List.forall_mem_cons.mpr ⟨vw_t 318 (by decide +kernel) (by decide +kernel), List.forall_mem_cons.mpr ⟨vw_t 320 (by decide +kernel) (by decide +kernel), List.forall_mem_cons.mpr ⟨vw_t 322 (by decide +kernel) (by decide +kernel), List.forall_mem_cons.mpr ⟨vw_t 324 (by decide +kernel) (by decide +kernel), List.forall_mem_cons.mpr ⟨vw_t 326 (by decide +kernel) (by decide +kernel), List.forall_mem_cons.mpr ⟨vw_t 328 (by decide +kernel) (by decide +kernel), List.forall_mem_cons.mpr ⟨vw_t 330 (by decide +kernel) (by decide +kernel), List.forall_mem_cons.mpr ⟨vw_t 332 (by decide +kernel) (by decide +kernel), List.forall_mem_cons.mpr ⟨vw_t 334 (by decide +kernel) (by decide +kernel), List.forall_mem_cons.mpr ⟨vw_t 336 (by decide +kernel) (by decide +kernel), fun _ h => absurd h List.not_mem_nil⟩⟩⟩⟩⟩⟩⟩⟩⟩⟩
  exact h
theorem u_TS : ∀ w ∈ u_ws R_TS F_TS 7, w ∈ vw_W := by
  have h : ∀ w ∈ ([.laysFinal "ServerDesk$TaskSet" "ServerDesk$TaskSet" "period" "[I", .laysFinal "ServerDesk$TaskSet" "ServerDesk$TaskSet" "offset" "[I", .laysFinal "ServerDesk$TaskSet" "ServerDesk$TaskSet" "cost" "[I", .laysFinal "ServerDesk$TaskSet" "ServerDesk$TaskSet" "deadline" "[I", .laysFinal "ServerDesk$TaskSet" "ServerDesk$TaskSet" "atRank" "[I", .lays "ServerDesk$TaskSet" "ServerDesk$TaskSet" "count" "I", .lays "ServerDesk$TaskSet" "ServerDesk$TaskSet" "hyperperiod" "I"] : List Jvm.Cond), w ∈ vw_W := List.forall_mem_cons.mpr ⟨vw_t 58 (by decide +kernel) (by decide +kernel), List.forall_mem_cons.mpr ⟨vw_t 60 (by decide +kernel) (by decide +kernel), List.forall_mem_cons.mpr ⟨vw_t 62 (by decide +kernel) (by decide +kernel), List.forall_mem_cons.mpr ⟨vw_t 64 (by decide +kernel) (by decide +kernel), List.forall_mem_cons.mpr ⟨vw_t 66 (by decide +kernel) (by decide +kernel), List.forall_mem_cons.mpr ⟨vw_t 68 (by decide +kernel) (by decide +kernel), List.forall_mem_cons.mpr ⟨vw_t 70 (by decide +kernel) (by decide +kernel), fun _ h => absurd h List.not_mem_nil⟩⟩⟩⟩⟩⟩⟩
  exact h
theorem u_RB : ∀ w ∈ u_ws R_RB F_RB 3, w ∈ vw_W := by
  have h : ∀ w ∈ ([.laysFinal "ServerDesk$RuleBook" "ServerDesk$RuleBook" "budget" "[I", .laysFinal "ServerDesk$RuleBook" "ServerDesk$RuleBook" "period" "[I", .lays "ServerDesk$RuleBook" "ServerDesk$RuleBook" "current" "I"] : List Jvm.Cond), w ∈ vw_W := List.forall_mem_cons.mpr ⟨vw_t 93 (by decide +kernel) (by decide +kernel), List.forall_mem_cons.mpr ⟨vw_t 95 (by decide +kernel) (by decide +kernel), List.forall_mem_cons.mpr ⟨vw_t 97 (by decide +kernel) (by decide +kernel), fun _ h => absurd h List.not_mem_nil⟩⟩⟩
  exact h
theorem u_JL : ∀ w ∈ u_ws R_JL F_JL 4, w ∈ vw_W := by
  have h : ∀ w ∈ ([.laysFinal "ServerDesk$JobLog" "ServerDesk$JobLog" "arrival" "[I", .laysFinal "ServerDesk$JobLog" "ServerDesk$JobLog" "cost" "[I", .laysFinal "ServerDesk$JobLog" "ServerDesk$JobLog" "isHard" "[Z", .lays "ServerDesk$JobLog" "ServerDesk$JobLog" "count" "I"] : List Jvm.Cond), w ∈ vw_W := List.forall_mem_cons.mpr ⟨vw_t 116 (by decide +kernel) (by decide +kernel), List.forall_mem_cons.mpr ⟨vw_t 118 (by decide +kernel) (by decide +kernel), List.forall_mem_cons.mpr ⟨vw_t 120 (by decide +kernel) (by decide +kernel), List.forall_mem_cons.mpr ⟨vw_t 122 (by decide +kernel) (by decide +kernel), fun _ h => absurd h List.not_mem_nil⟩⟩⟩⟩
  exact h
theorem u_EL : ∀ w ∈ u_ws R_EL F_EL 4, w ∈ vw_W := by
  have h : ∀ w ∈ ([.laysFinal "ServerDesk$EarlyLog" "ServerDesk$EarlyLog" "moment" "[I", .laysFinal "ServerDesk$EarlyLog" "ServerDesk$EarlyLog" "task" "[I", .laysFinal "ServerDesk$EarlyLog" "ServerDesk$EarlyLog" "ticks" "[I", .lays "ServerDesk$EarlyLog" "ServerDesk$EarlyLog" "count" "I"] : List Jvm.Cond), w ∈ vw_W := List.forall_mem_cons.mpr ⟨vw_t 141 (by decide +kernel) (by decide +kernel), List.forall_mem_cons.mpr ⟨vw_t 143 (by decide +kernel) (by decide +kernel), List.forall_mem_cons.mpr ⟨vw_t 145 (by decide +kernel) (by decide +kernel), List.forall_mem_cons.mpr ⟨vw_t 147 (by decide +kernel) (by decide +kernel), fun _ h => absurd h List.not_mem_nil⟩⟩⟩⟩
  exact h
theorem u_LO : ∀ w ∈ u_ws R_LO F_LO 5, w ∈ vw_W := by
  have h : ∀ w ∈ ([.laysFinal "ServerDesk$Load" "ServerDesk$Load" "tasks" "LServerDesk$TaskSet;", .laysFinal "ServerDesk$Load" "ServerDesk$Load" "nextReady" "[I", .laysFinal "ServerDesk$Load" "ServerDesk$Load" "nextNeed" "[I", .laysFinal "ServerDesk$Load" "ServerDesk$Load" "need" "[I", .laysFinal "ServerDesk$Load" "ServerDesk$Load" "due" "[I"] : List Jvm.Cond), w ∈ vw_W := List.forall_mem_cons.mpr ⟨vw_t 167 (by decide +kernel) (by decide +kernel), List.forall_mem_cons.mpr ⟨vw_t 169 (by decide +kernel) (by decide +kernel), List.forall_mem_cons.mpr ⟨vw_t 171 (by decide +kernel) (by decide +kernel), List.forall_mem_cons.mpr ⟨vw_t 173 (by decide +kernel) (by decide +kernel), List.forall_mem_cons.mpr ⟨vw_t 175 (by decide +kernel) (by decide +kernel), fun _ h => absurd h List.not_mem_nil⟩⟩⟩⟩⟩
  exact h
theorem u_SM : ∀ w ∈ u_ws R_SM F_SM 4, w ∈ vw_W := by
  have h : ∀ w ∈ ([.laysFinal "ServerDesk$SlackMeter" "ServerDesk$SlackMeter" "tasks" "LServerDesk$TaskSet;", .laysFinal "ServerDesk$SlackMeter" "ServerDesk$SlackMeter" "ahead" "LServerDesk$Load;", .laysFinal "ServerDesk$SlackMeter" "ServerDesk$SlackMeter" "free" "[I", .laysFinal "ServerDesk$SlackMeter" "ServerDesk$SlackMeter" "until" "[I"] : List Jvm.Cond), w ∈ vw_W := List.forall_mem_cons.mpr ⟨vw_t 182 (by decide +kernel) (by decide +kernel), List.forall_mem_cons.mpr ⟨vw_t 184 (by decide +kernel) (by decide +kernel), List.forall_mem_cons.mpr ⟨vw_t 186 (by decide +kernel) (by decide +kernel), List.forall_mem_cons.mpr ⟨vw_t 188 (by decide +kernel) (by decide +kernel), fun _ h => absurd h List.not_mem_nil⟩⟩⟩⟩
  exact h
theorem u_BU : ∀ w ∈ u_ws R_BU F_BU 5, w ∈ vw_W := by
  have h : ∀ w ∈ ([.laysFinal "ServerDesk$Budget" "ServerDesk$Budget" "used" "[I", .lays "ServerDesk$Budget" "ServerDesk$Budget" "kind" "I", .lays "ServerDesk$Budget" "ServerDesk$Budget" "full" "I", .lays "ServerDesk$Budget" "ServerDesk$Budget" "period" "I", .lays "ServerDesk$Budget" "ServerDesk$Budget" "left" "I"] : List Jvm.Cond), w ∈ vw_W := List.forall_mem_cons.mpr ⟨vw_t 238 (by decide +kernel) (by decide +kernel), List.forall_mem_cons.mpr ⟨vw_t 240 (by decide +kernel) (by decide +kernel), List.forall_mem_cons.mpr ⟨vw_t 242 (by decide +kernel) (by decide +kernel), List.forall_mem_cons.mpr ⟨vw_t 244 (by decide +kernel) (by decide +kernel), List.forall_mem_cons.mpr ⟨vw_t 246 (by decide +kernel) (by decide +kernel), fun _ h => absurd h List.not_mem_nil⟩⟩⟩⟩⟩
  exact h
theorem u_QU : ∀ w ∈ u_ws R_QU F_QU 5, w ∈ vw_W := by
  have h : ∀ w ∈ ([.laysFinal "ServerDesk$Queue" "ServerDesk$Queue" "log" "LServerDesk$JobLog;", .laysFinal "ServerDesk$Queue" "ServerDesk$Queue" "need" "[I", .laysFinal "ServerDesk$Queue" "ServerDesk$Queue" "end" "[I", .lays "ServerDesk$Queue" "ServerDesk$Queue" "arrived" "I", .lays "ServerDesk$Queue" "ServerDesk$Queue" "waiting" "I"] : List Jvm.Cond), w ∈ vw_W := List.forall_mem_cons.mpr ⟨vw_t 214 (by decide +kernel) (by decide +kernel), List.forall_mem_cons.mpr ⟨vw_t 216 (by decide +kernel) (by decide +kernel), List.forall_mem_cons.mpr ⟨vw_t 218 (by decide +kernel) (by decide +kernel), List.forall_mem_cons.mpr ⟨vw_t 220 (by decide +kernel) (by decide +kernel), List.forall_mem_cons.mpr ⟨vw_t 222 (by decide +kernel) (by decide +kernel), fun _ h => absurd h List.not_mem_nil⟩⟩⟩⟩⟩
  exact h
theorem u_CO : ∀ w ∈ u_ws R_CO F_CO 7, w ∈ vw_W := by
  have h : ∀ w ∈ ([.laysFinal "ServerDesk$Course" "ServerDesk$Course" "tasks" "LServerDesk$TaskSet;", .laysFinal "ServerDesk$Course" "ServerDesk$Course" "meter" "LServerDesk$SlackMeter;", .laysFinal "ServerDesk$Course" "ServerDesk$Course" "load" "LServerDesk$Load;", .laysFinal "ServerDesk$Course" "ServerDesk$Course" "queue" "LServerDesk$Queue;", .laysFinal "ServerDesk$Course" "ServerDesk$Course" "budget" "LServerDesk$Budget;", .lays "ServerDesk$Course" "ServerDesk$Course" "kind" "I", .lays "ServerDesk$Course" "ServerDesk$Course" "late" "I"] : List Jvm.Cond), w ∈ vw_W := List.forall_mem_cons.mpr ⟨vw_t 265 (by decide +kernel) (by decide +kernel), List.forall_mem_cons.mpr ⟨vw_t 267 (by decide +kernel) (by decide +kernel), List.forall_mem_cons.mpr ⟨vw_t 269 (by decide +kernel) (by decide +kernel), List.forall_mem_cons.mpr ⟨vw_t 271 (by decide +kernel) (by decide +kernel), List.forall_mem_cons.mpr ⟨vw_t 273 (by decide +kernel) (by decide +kernel), List.forall_mem_cons.mpr ⟨vw_t 275 (by decide +kernel) (by decide +kernel), List.forall_mem_cons.mpr ⟨vw_t 277 (by decide +kernel) (by decide +kernel), fun _ h => absurd h List.not_mem_nil⟩⟩⟩⟩⟩⟩⟩
  exact h
theorem u_RF : ∀ w ∈ u_ws R_RF F_RF 6, w ∈ vw_W := by
  have h : ∀ w ∈ ([.laysFinal "ServerDesk$Referee" "ServerDesk$Referee" "course" "LServerDesk$Course;", .laysFinal "ServerDesk$Referee" "ServerDesk$Referee" "jobs" "LServerDesk$JobLog;", .laysFinal "ServerDesk$Referee" "ServerDesk$Referee" "earlyOnes" "LServerDesk$EarlyLog;", .lays "ServerDesk$Referee" "ServerDesk$Referee" "endedJobs" "I", .lays "ServerDesk$Referee" "ServerDesk$Referee" "sameTicks" "I", .lays "ServerDesk$Referee" "ServerDesk$Referee" "late" "I"] : List Jvm.Cond), w ∈ vw_W := List.forall_mem_cons.mpr ⟨vw_t 295 (by decide +kernel) (by decide +kernel), List.forall_mem_cons.mpr ⟨vw_t 297 (by decide +kernel) (by decide +kernel), List.forall_mem_cons.mpr ⟨vw_t 299 (by decide +kernel) (by decide +kernel), List.forall_mem_cons.mpr ⟨vw_t 301 (by decide +kernel) (by decide +kernel), List.forall_mem_cons.mpr ⟨vw_t 303 (by decide +kernel) (by decide +kernel), List.forall_mem_cons.mpr ⟨vw_t 305 (by decide +kernel) (by decide +kernel), fun _ h => absurd h List.not_mem_nil⟩⟩⟩⟩⟩⟩
  exact h
theorem u_MO : ∀ w ∈ u_ws R_MO F_MO 46, w ∈ vw_W := by
  have h : ∀ w ∈ ([.lays "ServerDeskModel" "ServerDeskModel" "code" "I", .lays "ServerDeskModel" "ServerDeskModel" "tasks" "I", .laysFinal "ServerDeskModel" "ServerDeskModel" "period" "[I", .laysFinal "ServerDeskModel" "ServerDeskModel" "offset" "[I", .laysFinal "ServerDeskModel" "ServerDeskModel" "cost" "[I", .laysFinal "ServerDeskModel" "ServerDeskModel" "deadline" "[I", .laysFinal "ServerDeskModel" "ServerDeskModel" "order" "[I", .lays "ServerDeskModel" "ServerDeskModel" "rule" "I", .laysFinal "ServerDeskModel" "ServerDeskModel" "budget" "[I", .laysFinal "ServerDeskModel" "ServerDeskModel" "turn" "[I", .lays "ServerDeskModel" "ServerDeskModel" "started" "Z", .lays "ServerDeskModel" "ServerDeskModel" "jobs" "I", .laysFinal "ServerDeskModel" "ServerDeskModel" "jobCost" "[I", .laysFinal "ServerDeskModel" "ServerDeskModel" "jobAt" "[I", .laysFinal "ServerDeskModel" "ServerDeskModel" "jobHard" "[Z", .lays "ServerDeskModel" "ServerDeskModel" "earlies" "I", .laysFinal "ServerDeskModel" "ServerDeskModel" "earlyTask" "[I", .laysFinal "ServerDeskModel" "ServerDeskModel" "earlyTicks" "[I", .laysFinal "ServerDeskModel" "ServerDeskModel" "earlyAt" "[I", .lays "ServerDeskModel" "ServerDeskModel" "now" "I", .lays "ServerDeskModel" "ServerDeskModel" "by" "I", .laysFinal "ServerDeskModel" "ServerDeskModel" "pending" "[I", .laysFinal "ServerDeskModel" "ServerDeskModel" "due" "[I", .laysFinal "ServerDeskModel" "ServerDeskModel" "told" "[I", .lays "ServerDeskModel" "ServerDeskModel" "left" "I", .laysFinal "ServerDeskModel" "ServerDeskModel" "used" "[I", .lays "ServerDeskModel" "ServerDeskModel" "known" "I", .laysFinal "ServerDeskModel" "ServerDeskModel" "needs" "[I", .laysFinal "ServerDeskModel" "ServerDeskModel" "ends" "[I", .lays "ServerDeskModel" "ServerDeskModel" "late" "I", .laysFinal "ServerDeskModel" "ServerDeskModel" "trace" "[I", .lays "ServerDeskModel" "ServerDeskModel" "keptNow" "I", .lays "ServerDeskModel" "ServerDeskModel" "keptBy" "I", .lays "ServerDeskModel" "ServerDeskModel" "keptLeft" "I", .lays "ServerDeskModel" "ServerDeskModel" "keptKnown" "I", .lays "ServerDeskModel" "ServerDeskModel" "keptLate" "I", .laysFinal "ServerDeskModel" "ServerDeskModel" "keptPending" "[I", .laysFinal "ServerDeskModel" "ServerDeskModel" "keptDue" "[I", .laysFinal "ServerDeskModel" "ServerDeskModel" "keptTold" "[I", .laysFinal "ServerDeskModel" "ServerDeskModel" "keptUsed" "[I", .laysFinal "ServerDeskModel" "ServerDeskModel" "keptNeeds" "[I", .laysFinal "ServerDeskModel" "ServerDeskModel" "keptEnds" "[I", .laysFinal "ServerDeskModel" "ServerDeskModel" "keptTrace" "[I", .lays "ServerDeskModel" "ServerDeskModel" "replayEnded" "I", .lays "ServerDeskModel" "ServerDeskModel" "replaySame" "I", .lays "ServerDeskModel" "ServerDeskModel" "replayLate" "I"] : List Jvm.Cond), w ∈ vw_W := List.forall_mem_cons.mpr ⟨vw_t 849 (by decide +kernel) (by decide +kernel), List.forall_mem_cons.mpr ⟨vw_t 851 (by decide +kernel) (by decide +kernel), List.forall_mem_cons.mpr ⟨vw_t 853 (by decide +kernel) (by decide +kernel), List.forall_mem_cons.mpr ⟨vw_t 855 (by decide +kernel) (by decide +kernel), List.forall_mem_cons.mpr ⟨vw_t 857 (by decide +kernel) (by decide +kernel), List.forall_mem_cons.mpr ⟨vw_t 859 (by decide +kernel) (by decide +kernel), List.forall_mem_cons.mpr ⟨vw_t 861 (by decide +kernel) (by decide +kernel), List.forall_mem_cons.mpr ⟨vw_t 863 (by decide +kernel) (by decide +kernel), List.forall_mem_cons.mpr ⟨vw_t 865 (by decide +kernel) (by decide +kernel), List.forall_mem_cons.mpr ⟨vw_t 867 (by decide +kernel) (by decide +kernel), List.forall_mem_cons.mpr ⟨vw_t 869 (by decide +kernel) (by decide +kernel), List.forall_mem_cons.mpr ⟨vw_t 871 (by decide +kernel) (by decide +kernel), List.forall_mem_cons.mpr ⟨vw_t 873 (by decide +kernel) (by decide +kernel), List.forall_mem_cons.mpr ⟨vw_t 875 (by decide +kernel) (by decide +kernel), List.forall_mem_cons.mpr ⟨vw_t 877 (by decide +kernel) (by decide +kernel), List.forall_mem_cons.mpr ⟨vw_t 879 (by decide +kernel) (by decide +kernel), List.forall_mem_cons.mpr ⟨vw_t 881 (by decide +kernel) (by decide +kernel), List.forall_mem_cons.mpr ⟨vw_t 883 (by decide +kernel) (by decide +kernel), List.forall_mem_cons.mpr ⟨vw_t 885 (by decide +kernel) (by decide +kernel), List.forall_mem_cons.mpr ⟨vw_t 887 (by decide +kernel) (by decide +kernel), List.forall_mem_cons.mpr ⟨vw_t 889 (by decide +kernel) (by decide +kernel), List.forall_mem_cons.mpr ⟨vw_t 891 (by decide +kernel) (by decide +kernel), List.forall_mem_cons.mpr ⟨vw_t 893 (by decide +kernel) (by decide +kernel), List.forall_mem_cons.mpr ⟨vw_t 895 (by decide +kernel) (by decide +kernel), List.forall_mem_cons.mpr ⟨vw_t 897 (by decide +kernel) (by decide +kernel), List.forall_mem_cons.mpr ⟨vw_t 899 (by decide +kernel) (by decide +kernel), List.forall_mem_cons.mpr ⟨vw_t 901 (by decide +kernel) (by decide +kernel), List.forall_mem_cons.mpr ⟨vw_t 903 (by decide +kernel) (by decide +kernel), List.forall_mem_cons.mpr ⟨vw_t 905 (by decide +kernel) (by decide +kernel), List.forall_mem_cons.mpr ⟨vw_t 907 (by decide +kernel) (by decide +kernel), List.forall_mem_cons.mpr ⟨vw_t 909 (by decide +kernel) (by decide +kernel), List.forall_mem_cons.mpr ⟨vw_t 911 (by decide +kernel) (by decide +kernel), List.forall_mem_cons.mpr ⟨vw_t 913 (by decide +kernel) (by decide +kernel), List.forall_mem_cons.mpr ⟨vw_t 915 (by decide +kernel) (by decide +kernel), List.forall_mem_cons.mpr ⟨vw_t 917 (by decide +kernel) (by decide +kernel), List.forall_mem_cons.mpr ⟨vw_t 919 (by decide +kernel) (by decide +kernel), List.forall_mem_cons.mpr ⟨vw_t 921 (by decide +kernel) (by decide +kernel), List.forall_mem_cons.mpr ⟨vw_t 923 (by decide +kernel) (by decide +kernel), List.forall_mem_cons.mpr ⟨vw_t 925 (by decide +kernel) (by decide +kernel), List.forall_mem_cons.mpr ⟨vw_t 927 (by decide +kernel) (by decide +kernel), List.forall_mem_cons.mpr ⟨vw_t 929 (by decide +kernel) (by decide +kernel), List.forall_mem_cons.mpr ⟨vw_t 931 (by decide +kernel) (by decide +kernel), List.forall_mem_cons.mpr ⟨vw_t 933 (by decide +kernel) (by decide +kernel), List.forall_mem_cons.mpr ⟨vw_t 935 (by decide +kernel) (by decide +kernel), List.forall_mem_cons.mpr ⟨vw_t 937 (by decide +kernel) (by decide +kernel), List.forall_mem_cons.mpr ⟨vw_t 939 (by decide +kernel) (by decide +kernel), fun _ h => absurd h List.not_mem_nil⟩⟩⟩⟩⟩⟩⟩⟩⟩⟩⟩⟩⟩⟩⟩⟩⟩⟩⟩⟩⟩⟩⟩⟩⟩⟩⟩⟩⟩⟩⟩⟩⟩⟩⟩⟩⟩⟩⟩⟩⟩⟩⟩⟩⟩⟩
  exact h
def vw_N : List Jvm.Cond := [.methodLinkNest "ServerDesk" 9 ⟨"ServerDesk$TaskSet", "<init>", "()V"⟩ "ServerDesk", .fieldLinkNest "ServerDesk$Load" 53 "ServerDesk$TaskSet" "period" "[I" "ServerDesk", .fieldLinkNest "ServerDesk$Load" 34 "ServerDesk$TaskSet" "offset" "[I" "ServerDesk", .fieldLinkNest "ServerDesk$Load" 37 "ServerDesk$TaskSet" "cost" "[I" "ServerDesk", .fieldLinkNest "ServerDesk" 174 "ServerDesk$TaskSet" "cost" "[I" "ServerDesk", .fieldLinkNest "ServerDesk$Load" 50 "ServerDesk$TaskSet" "deadline" "[I" "ServerDesk", .fieldLinkNest "ServerDesk$SlackMeter" 66 "ServerDesk$TaskSet" "atRank" "[I" "ServerDesk", .fieldLinkNest "ServerDesk$Course" 103 "ServerDesk$TaskSet" "atRank" "[I" "ServerDesk", .fieldLinkNest "ServerDesk$Load" 56 "ServerDesk$TaskSet" "atRank" "[I" "ServerDesk", .fieldLinkNest "ServerDesk$Load" 28 "ServerDesk$TaskSet" "count" "I" "ServerDesk", .fieldLinkNest "ServerDesk" 87 "ServerDesk$TaskSet" "count" "I" "ServerDesk", .fieldLinkNest "ServerDesk$SlackMeter" 50 "ServerDesk$TaskSet" "count" "I" "ServerDesk", .fieldLinkNest "ServerDesk$Course" 76 "ServerDesk$TaskSet" "count" "I" "ServerDesk", .fieldLinkNest "ServerDesk$Referee" 115 "ServerDesk$TaskSet" "count" "I" "ServerDesk", .fieldLinkNest "ServerDesk" 231 "ServerDesk$TaskSet" "hyperperiod" "I" "ServerDesk", .fieldLinkNest "ServerDesk$Budget" 40 "ServerDesk$RuleBook" "budget" "[I" "ServerDesk", .fieldLinkNest "ServerDesk$Budget" 43 "ServerDesk$RuleBook" "period" "[I" "ServerDesk", .fieldLinkNest "ServerDesk" 127 "ServerDesk$RuleBook" "current" "I" "ServerDesk", .methodLinkNest "ServerDesk" 25 ⟨"ServerDesk$JobLog", "<init>", "()V"⟩ "ServerDesk", .fieldLinkNest "ServerDesk$Queue" 34 "ServerDesk$JobLog" "arrival" "[I" "ServerDesk", .fieldLinkNest "ServerDesk$Referee" 96 "ServerDesk$JobLog" "arrival" "[I" "ServerDesk", .fieldLinkNest "ServerDesk$Queue" 37 "ServerDesk$JobLog" "cost" "[I" "ServerDesk", .fieldLinkNest "ServerDesk$Queue" 40 "ServerDesk$JobLog" "isHard" "[Z" "ServerDesk", .fieldLinkNest "ServerDesk$Queue" 29 "ServerDesk$JobLog" "count" "I" "ServerDesk", .fieldLinkNest "ServerDesk" 145 "ServerDesk$JobLog" "count" "I" "ServerDesk", .methodLinkNest "ServerDesk" 32 ⟨"ServerDesk$EarlyLog", "<init>", "()V"⟩ "ServerDesk", .fieldLinkNest "ServerDesk$Referee" 70 "ServerDesk$EarlyLog" "moment" "[I" "ServerDesk", .fieldLinkNest "ServerDesk$Referee" 78 "ServerDesk$EarlyLog" "task" "[I" "ServerDesk", .fieldLinkNest "ServerDesk$Referee" 81 "ServerDesk$EarlyLog" "ticks" "[I" "ServerDesk", .fieldLinkNest "ServerDesk$Referee" 65 "ServerDesk$EarlyLog" "count" "I" "ServerDesk", .fieldLinkNest "ServerDesk" 179 "ServerDesk$EarlyLog" "count" "I" "ServerDesk", .fieldLinkNest "ServerDesk$Referee" 93 "ServerDesk$Queue" "end" "[I" "ServerDesk", .fieldLinkNest "ServerDesk" 195 "ServerDesk$Queue" "end" "[I" "ServerDesk", .fieldLinkNest "ServerDesk$Referee" 90 "ServerDesk$Queue" "arrived" "I" "ServerDesk", .fieldLinkNest "ServerDesk" 228 "ServerDesk$Queue" "waiting" "I" "ServerDesk", .methodLinkNest "ServerDesk$Course" 46 ⟨"ServerDesk$Budget", "<init>", "()V"⟩ "ServerDesk", .fieldLinkNest "ServerDesk$Course" 84 "ServerDesk$Budget" "left" "I" "ServerDesk", .fieldLinkNest "ServerDesk" 238 "ServerDesk$Budget" "left" "I" "ServerDesk", .fieldLinkNest "ServerDesk$Referee" 111 "ServerDesk$Course" "tasks" "LServerDesk$TaskSet;" "ServerDesk", .fieldLinkNest "ServerDesk$Referee" 118 "ServerDesk$Course" "meter" "LServerDesk$SlackMeter;" "ServerDesk", .fieldLinkNest "ServerDesk$Referee" 74 "ServerDesk$Course" "load" "LServerDesk$Load;" "ServerDesk", .fieldLinkNest "ServerDesk" 166 "ServerDesk$Course" "load" "LServerDesk$Load;" "ServerDesk", .fieldLinkNest "ServerDesk$Referee" 42 "ServerDesk$Course" "queue" "LServerDesk$Queue;" "ServerDesk", .fieldLinkNest "ServerDesk" 156 "ServerDesk$Course" "queue" "LServerDesk$Queue;" "ServerDesk", .fieldLinkNest "ServerDesk" 234 "ServerDesk$Course" "budget" "LServerDesk$Budget;" "ServerDesk", .fieldLinkNest "ServerDesk$Referee" 60 "ServerDesk$Course" "late" "I" "ServerDesk", .fieldLinkNest "ServerDesk" 224 "ServerDesk$Course" "late" "I" "ServerDesk", .fieldLinkNest "ServerDesk" 218 "ServerDesk$Referee" "endedJobs" "I" "ServerDesk", .fieldLinkNest "ServerDesk" 221 "ServerDesk$Referee" "sameTicks" "I" "ServerDesk", .fieldLinkNest "ServerDesk" 227 "ServerDesk$Referee" "late" "I" "ServerDesk", .methodLinkNest "ServerDesk$RuleBook" 35 ⟨"ServerDesk", "isWithin", "(III)Z"⟩ "ServerDesk", .methodLinkNest "ServerDesk$TaskSet" 52 ⟨"ServerDesk", "roundedUp", "(II)I"⟩ "ServerDesk", .methodLinkNest "ServerDesk$RuleBook" 45 ⟨"ServerDesk", "roundedUp", "(II)I"⟩ "ServerDesk", .methodLinkNest "ServerDesk$Budget" 49 ⟨"ServerDesk", "isWithin", "(III)Z"⟩ "ServerDesk", .methodLinkNest "ServerDesk$Load" 40 ⟨"ServerDesk", "isWithin", "(III)Z"⟩ "ServerDesk", .methodLinkNest "ServerDesk$Queue" 44 ⟨"ServerDesk", "isWithin", "(III)Z"⟩ "ServerDesk"]
theorem vw_N_ok : am_nw vw_N = true := by decide +kernel
