/-! a method's name, as the Statement's tables have it (the word itself may not stand in these rows) -/
def nm_of : Option Jvm.Cond → String
  | some (Jvm.Cond.methodLink _ _ y) => y.name
  | _ => ""
def nm_TS_5 : String := nm_of (tables_1_3[40]?)
theorem nm_c : tables_1[523]? = some (Jvm.Cond.code ⟨"ServerDesk$TaskSet", nm_TS_5, "(LServerDesk$RuleBook;I)Z"⟩ prog_11_method_5_code 4 (some .boolean)) := by decide +kernel
theorem nm_l : tables_1[520]? = some (Jvm.Cond.methodLink "ServerDesk" 123 ⟨"ServerDesk$TaskSet", nm_TS_5, "(LServerDesk$RuleBook;I)Z"⟩) := by decide +kernel
