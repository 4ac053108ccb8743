def TBd : u_T := fun k => match k with
  | 0 => ("PlayStates$Board", "entries", "[I", true)
  | _ => ("PlayStates$Board", "markBits", "[I", true)
def tyBd : Nat → FieldType := fun k => match k with
  | 0 => .array .int
  | _ => .array .int
theorem nmBd : ∀ a, a < 2 → ∀ b, b < 2 → a ≠ b → (TBd a).2.1 ≠ (TBd b).2.1 := by decide +kernel
theorem tyBd_ok : ∀ k, k < 2 → parseFieldDescriptor (TBd k).2.2.1 = some (tyBd k) := by decide +kernel
def TCk : u_T := fun k => match k with
  | 0 => ("PlayStates$Clock", "running", "Z", false)
  | 1 => ("PlayStates$Clock", "lastTold", "J", false)
  | _ => ("PlayStates$Clock", "counted", "J", false)
def tyCk : Nat → FieldType := fun k => match k with
  | 0 => .boolean
  | 1 => .long
  | _ => .long
theorem nmCk : ∀ a, a < 3 → ∀ b, b < 3 → a ≠ b → (TCk a).2.1 ≠ (TCk b).2.1 := by decide +kernel
theorem tyCk_ok : ∀ k, k < 3 → parseFieldDescriptor (TCk k).2.2.1 = some (tyCk k) := by decide +kernel
def TPn : u_T := fun k => match k with
  | 0 => ("PlayStates$Person", "number", "I", true)
  | 1 => ("PlayStates$Person", "board", "LPlayStates$Board;", true)
  | 2 => ("PlayStates$Person", "clock", "LPlayStates$Clock;", true)
  | 3 => ("PlayStates$Person", "present", "I", false)
  | _ => ("PlayStates$Person", "helpCount", "I", false)
def tyPn : Nat → FieldType := fun k => match k with
  | 0 => .int
  | 1 => .object "PlayStates$Board"
  | 2 => .object "PlayStates$Clock"
  | 3 => .int
  | _ => .int
theorem nmPn : ∀ a, a < 5 → ∀ b, b < 5 → a ≠ b → (TPn a).2.1 ≠ (TPn b).2.1 := by decide +kernel
theorem tyPn_ok : ∀ k, k < 5 → parseFieldDescriptor (TPn k).2.2.1 = some (tyPn k) := by decide +kernel
def TRt : u_T := fun k => match k with
  | 0 => ("PlayStates$RowTable", "place", "[I", true)
  | 1 => ("PlayStates$RowTable", "told", "[I", true)
  | 2 => ("PlayStates$RowTable", "before", "[I", true)
  | 3 => ("PlayStates$RowTable", "behind", "[I", true)
  | _ => ("PlayStates$RowTable", "count", "I", false)
def tyRt : Nat → FieldType := fun k => match k with
  | 0 => .array .int
  | 1 => .array .int
  | 2 => .array .int
  | 3 => .array .int
  | _ => .int
theorem nmRt : ∀ a, a < 5 → ∀ b, b < 5 → a ≠ b → (TRt a).2.1 ≠ (TRt b).2.1 := by decide +kernel
theorem tyRt_ok : ∀ k, k < 5 → parseFieldDescriptor (TRt k).2.2.1 = some (tyRt k) := by decide +kernel
def TSr : u_T := fun k => match k with
  | 0 => ("PlayStates$StateReader", "board", "LPlayStates$Board;", true)
  | 1 => ("PlayStates$StateReader", "placeCount", "I", true)
  | 2 => ("PlayStates$StateReader", "placesRead", "I", false)
  | 3 => ("PlayStates$StateReader", "mayOpen", "Z", false)
  | 4 => ("PlayStates$StateReader", "open", "Z", false)
  | _ => ("PlayStates$StateReader", "lastMark", "I", false)
def tySr : Nat → FieldType := fun k => match k with
  | 0 => .object "PlayStates$Board"
  | 1 => .int
  | 2 => .int
  | 3 => .boolean
  | 4 => .boolean
  | _ => .int
theorem nmSr : ∀ a, a < 6 → ∀ b, b < 6 → a ≠ b → (TSr a).2.1 ≠ (TSr b).2.1 := by decide +kernel
theorem tySr_ok : ∀ k, k < 6 → parseFieldDescriptor (TSr k).2.2.1 = some (tySr k) := by decide +kernel
def TPS : u_T := fun k => match k with
  | 0 => ("PlayStates", "placeCount", "I", true)
  | 1 => ("PlayStates", "right", "[I", true)
  | 2 => ("PlayStates", "persons", "[LPlayStates$Person;", true)
  | 3 => ("PlayStates", "personCount", "I", false)
  | 4 => ("PlayStates", "table", "LPlayStates$RowTable;", true)
  | 5 => ("PlayStates", "joining", "[Z", true)
  | 6 => ("PlayStates", "units", "[I", true)
  | 7 => ("PlayStates", "unitCount", "I", false)
  | 8 => ("PlayStates", "draft", "LPlayStates$Board;", true)
  | _ => ("PlayStates", "reader", "LPlayStates$StateReader;", true)
def tyPS : Nat → FieldType := fun k => match k with
  | 0 => .int
  | 1 => .array .int
  | 2 => .array (.object "PlayStates$Person")
  | 3 => .int
  | 4 => .object "PlayStates$RowTable"
  | 5 => .array .boolean
  | 6 => .array .int
  | 7 => .int
  | 8 => .object "PlayStates$Board"
  | _ => .object "PlayStates$StateReader"
theorem nmPS : ∀ a, a < 10 → ∀ b, b < 10 → a ≠ b → (TPS a).2.1 ≠ (TPS b).2.1 := by decide +kernel
theorem tyPS_ok : ∀ k, k < 10 → parseFieldDescriptor (TPS k).2.2.1 = some (tyPS k) := by decide +kernel
def TMd : u_T := fun k => match k with
  | 0 => ("PlayStatesModel", "thrown", "I", false)
  | 1 => ("PlayStatesModel", "places", "I", true)
  | 2 => ("PlayStatesModel", "persons", "I", false)
  | 3 => ("PlayStatesModel", "truth", "[I", true)
  | 4 => ("PlayStatesModel", "entries", "[I", true)
  | 5 => ("PlayStatesModel", "marked", "[I", true)
  | 6 => ("PlayStatesModel", "present", "[I", true)
  | 7 => ("PlayStatesModel", "helped", "[I", true)
  | 8 => ("PlayStatesModel", "counted", "[J", true)
  | 9 => ("PlayStatesModel", "told", "[J", true)
  | 10 => ("PlayStatesModel", "runs", "[Z", true)
  | 11 => ("PlayStatesModel", "many", "I", false)
  | 12 => ("PlayStatesModel", "whose", "[I", true)
  | 13 => ("PlayStatesModel", "where", "[I", true)
  | 14 => ("PlayStatesModel", "what", "[I", true)
  | 15 => ("PlayStatesModel", "before", "[I", true)
  | 16 => ("PlayStatesModel", "behind", "[I", true)
  | 17 => ("PlayStatesModel", "isOn", "[Z", true)
  | 18 => ("PlayStatesModel", "tryEntries", "[I", true)
  | 19 => ("PlayStatesModel", "tryMarks", "[I", true)
  | 20 => ("PlayStatesModel", "size", "I", false)
  | 21 => ("PlayStatesModel", "text", "[I", true)
  | 22 => ("PlayStatesModel", "at", "I", false)
  | 23 => ("PlayStatesModel", "sought", "I", false)
  | _ => ("PlayStatesModel", "found", "I", false)
def tyMd : Nat → FieldType := fun k => match k with
  | 0 => .int
  | 1 => .int
  | 2 => .int
  | 3 => .array .int
  | 4 => .array .int
  | 5 => .array .int
  | 6 => .array .int
  | 7 => .array .int
  | 8 => .array .long
  | 9 => .array .long
  | 10 => .array .boolean
  | 11 => .int
  | 12 => .array .int
  | 13 => .array .int
  | 14 => .array .int
  | 15 => .array .int
  | 16 => .array .int
  | 17 => .array .boolean
  | 18 => .array .int
  | 19 => .array .int
  | 20 => .int
  | 21 => .array .int
  | 22 => .int
  | 23 => .int
  | _ => .int
theorem nmMd : ∀ a, a < 25 → ∀ b, b < 25 → a ≠ b → (TMd a).2.1 ≠ (TMd b).2.1 := by decide +kernel
theorem tyMd_ok : ∀ k, k < 25 → parseFieldDescriptor (TMd k).2.2.1 = some (tyMd k) := by decide +kernel
abbrev vwCl : List vw_C := [("PlayStates$Board", TBd, 2), ("PlayStates$Clock", TCk, 3), ("PlayStates$Person", TPn, 5), ("PlayStates$RowTable", TRt, 5), ("PlayStates$StateReader", TSr, 6), ("PlayStates", TPS, 10), ("PlayStatesModel", TMd, 25)]
/-- the words of the tables that last -/
def GW : List Cond := lw_tbl.filter goodWord
theorem gT {w : Cond} (i : Nat) (h : tables_1[i]? = some w) (hg : goodWord w = true) : w ∈ GW := List.mem_filter.mpr ⟨List.mem_append_right _ (List.mem_of_getElem? h), hg⟩
theorem gP {w : Cond} (i : Nat) (h : (k2_sels lw_privs)[i]? = some w) (hg : goodWord w = true) : w ∈ GW := List.mem_filter.mpr ⟨List.mem_append_left _ (List.mem_of_getElem? h), hg⟩
theorem GW_in : ∀ w ∈ GW, w ∈ lw_tbl := fun w h => (List.mem_filter.mp h).1
theorem gWm {w : Cond} (h : w ∈ GW) : w ∈ GW ∧ ((w.onTables && w.keeps) = true ∨ ∃ ty, w = .arrayClass ty) := ⟨h, good_of_word (List.mem_filter.mp h).2⟩
theorem gC {cd : Cond} (h5 : cd ∈ GW) : GoodIn GW (cd :: GW) := fun w hw => by
  rcases List.mem_cons.mp hw with rfl | h
  · exact gWm h5
  · exact gWm h
theorem gV {own C : String} {idx : Nat} {y : MethodName} {cd : Cond} (h1 : Cond.methodLink own idx y ∈ GW) (h2 : Cond.instanceMethod y ∈ GW) (h3 : Cond.selects C y y ∈ GW) (h4 : Cond.initialized C ∈ GW) (h5 : cd ∈ GW) : GoodIn GW (wsV own idx C y (cd :: GW)) := fun w hw => by
  rcases List.mem_append.mp hw with h | h
  · rcases List.mem_cons.mp h with rfl | h
    · exact gWm h1
    rcases List.mem_cons.mp h with rfl | h
    · exact gWm h2
    rcases List.mem_cons.mp h with rfl | h
    · exact gWm h3
    rcases List.mem_cons.mp h with rfl | h
    · exact gWm h4
    · exact absurd h List.not_mem_nil
  · exact gC h5 w h
theorem gS {own : String} {idx : Nat} {y : MethodName} {cd : Cond} (h1 : Cond.methodLink own idx y ∈ GW) (h2 : Cond.static y ∈ GW) (h4 : Cond.initialized own ∈ GW) (h5 : cd ∈ GW) : GoodIn GW (wsS own idx y (cd :: GW)) := fun w hw => by
  rcases List.mem_append.mp hw with h | h
  · rcases List.mem_cons.mp h with rfl | h
    · exact gWm h1
    rcases List.mem_cons.mp h with rfl | h
    · exact gWm h2
    rcases List.mem_cons.mp h with rfl | h
    · exact gWm h4
    · exact absurd h List.not_mem_nil
  · exact gC h5 w h
def nwF : List (String × Nat × String × String × String × String) := [("PlayStates", 102, "PlayStates$RowTable", "place", "[I", "PlayStates"), ("PlayStates", 118, "PlayStates$RowTable", "told", "[I", "PlayStates"), ("PlayStates", 105, "PlayStates$RowTable", "before", "[I", "PlayStates"), ("PlayStates", 112, "PlayStates$RowTable", "behind", "[I", "PlayStates"), ("PlayStates", 197, "PlayStates$RowTable", "count", "I", "PlayStates"), ("PlayStates", 125, "PlayStates$Board", "entries", "[I", "PlayStates"), ("PlayStates", 128, "PlayStates$Board", "markBits", "[I", "PlayStates"), ("PlayStates", 72, "PlayStates$Person", "number", "I", "PlayStates"), ("PlayStates", 99, "PlayStates$Person", "board", "LPlayStates$Board;", "PlayStates"), ("PlayStates", 142, "PlayStates$Person", "clock", "LPlayStates$Clock;", "PlayStates"), ("PlayStates", 93, "PlayStates$Person", "present", "I", "PlayStates"), ("PlayStates", 139, "PlayStates$Person", "helpCount", "I", "PlayStates")]
def nwM : List (String × Nat × MethodName × String) := [("PlayStates$Person", 24, ⟨"PlayStates$Clock", "<init>", "()V"⟩, "PlayStates"), ("PlayStates$StateReader", 51, ⟨"PlayStates", "isOneToNine", "(I)Z"⟩, "PlayStates")]
abbrev y_PS_init : MethodName := ⟨"PlayStates", "<init>", "(I)V"⟩
abbrev w_PS_init : List Cond := Cond.code y_PS_init prog_1_method_1_code 2 none :: GW
abbrev y_PS_person : MethodName := ⟨"PlayStates", "person", "()I"⟩
abbrev w_PS_person : List Cond := Cond.code y_PS_person prog_1_method_2_code 1 ((some .int)) :: GW
abbrev y_PS_enter : MethodName := ⟨"PlayStates", "enter", "(III)I"⟩
abbrev w_PS_enter : List Cond := Cond.code y_PS_enter prog_1_method_3_code 5 ((some .int)) :: GW
abbrev y_PS_mark : MethodName := ⟨"PlayStates", "mark", "(IIIZ)I"⟩
abbrev w_PS_mark : List Cond := Cond.code y_PS_mark prog_1_method_4_code 6 ((some .int)) :: GW
abbrev y_PS_undo : MethodName := ⟨"PlayStates", "undo", "(I)I"⟩
abbrev w_PS_undo : List Cond := Cond.code y_PS_undo prog_1_method_5_code 4 ((some .int)) :: GW
abbrev y_PS_redo : MethodName := ⟨"PlayStates", "redo", "(II)I"⟩
abbrev w_PS_redo : List Cond := Cond.code y_PS_redo prog_1_method_6_code 5 ((some .int)) :: GW
abbrev y_PS_branches : MethodName := ⟨"PlayStates", "branches", "(I)I"⟩
abbrev w_PS_branches : List Cond := Cond.code y_PS_branches prog_1_method_7_code 3 ((some .int)) :: GW
abbrev y_PS_at : MethodName := ⟨"PlayStates", "at", "(II)I"⟩
abbrev w_PS_at : List Cond := Cond.code y_PS_at prog_1_method_8_code 4 ((some .int)) :: GW
abbrev y_PS_marks : MethodName := ⟨"PlayStates", "marks", "(II)I"⟩
abbrev w_PS_marks : List Cond := Cond.code y_PS_marks prog_1_method_9_code 4 ((some .int)) :: GW
abbrev y_PS_truth : MethodName := ⟨"PlayStates", "truth", "(II)Z"⟩
abbrev w_PS_truth : List Cond := Cond.code y_PS_truth prog_1_method_10_code 3 ((some .boolean)) :: GW
abbrev y_PS_wrong : MethodName := ⟨"PlayStates", "wrong", "(I)I"⟩
abbrev w_PS_wrong : List Cond := Cond.code y_PS_wrong prog_1_method_11_code 5 ((some .int)) :: GW
abbrev y_PS_help : MethodName := ⟨"PlayStates", "help", "(I)I"⟩
abbrev w_PS_help : List Cond := Cond.code y_PS_help prog_1_method_12_code 4 ((some .int)) :: GW
abbrev y_PS_helps : MethodName := ⟨"PlayStates", "helps", "(I)I"⟩
abbrev w_PS_helps : List Cond := Cond.code y_PS_helps prog_1_method_13_code 3 ((some .int)) :: GW
abbrev y_PS_timer : MethodName := ⟨"PlayStates", "timer", "(IJZ)Z"⟩
abbrev w_PS_timer : List Cond := Cond.code y_PS_timer prog_1_method_14_code 6 ((some .boolean)) :: GW
abbrev y_PS_time : MethodName := ⟨"PlayStates", "time", "(IJ)J"⟩
abbrev w_PS_time : List Cond := Cond.code y_PS_time prog_1_method_15_code 5 ((some .long)) :: GW
abbrev y_PS_join : MethodName := ⟨"PlayStates", "join", "(II)I"⟩
abbrev w_PS_join : List Cond := Cond.code y_PS_join prog_1_method_16_code 6 ((some .int)) :: GW
abbrev y_PS_save : MethodName := ⟨"PlayStates", "save", "(II)I"⟩
abbrev w_PS_save : List Cond := Cond.code y_PS_save prog_1_method_17_code 7 ((some .int)) :: GW
abbrev y_PS_unit : MethodName := ⟨"PlayStates", "unit", "(I)Z"⟩
abbrev w_PS_unit : List Cond := Cond.code y_PS_unit prog_1_method_18_code 2 ((some .boolean)) :: GW
abbrev y_PS_load : MethodName := ⟨"PlayStates", "load", "()I"⟩
abbrev w_PS_load : List Cond := Cond.code y_PS_load prog_1_method_19_code 4 ((some .int)) :: GW
abbrev y_PS_rows : MethodName := ⟨"PlayStates", "rows", "()I"⟩
abbrev w_PS_rows : List Cond := Cond.code y_PS_rows prog_1_method_20_code 1 ((some .int)) :: GW
abbrev y_PS_isZeroToNine : MethodName := ⟨"PlayStates", "isZeroToNine", "(I)Z"⟩
abbrev w_PS_isZeroToNine : List Cond := Cond.code y_PS_isZeroToNine prog_1_method_21_code 1 ((some .boolean)) :: GW
abbrev y_PS_isOneToNine : MethodName := ⟨"PlayStates", "isOneToNine", "(I)Z"⟩
abbrev w_PS_isOneToNine : List Cond := Cond.code y_PS_isOneToNine prog_1_method_22_code 1 ((some .boolean)) :: GW
abbrev y_PS_isWrong : MethodName := ⟨"PlayStates", "isWrong", "(II)Z"⟩
abbrev w_PS_isWrong : List Cond := Cond.code y_PS_isWrong prog_1_method_23_code 2 ((some .boolean)) :: GW
abbrev y_PS_isPlace : MethodName := ⟨"PlayStates", "isPlace", "(I)Z"⟩
abbrev w_PS_isPlace : List Cond := Cond.code y_PS_isPlace prog_1_method_24_code 2 ((some .boolean)) :: GW
abbrev y_PS_find : MethodName := ⟨"PlayStates", "find", "(I)LPlayStates$Person;"⟩
abbrev w_PS_find : List Cond := Cond.code y_PS_find prog_1_method_25_code 2 ((some (.object "PlayStates$Person"))) :: GW
abbrev y_PS_hasRoomForPerson : MethodName := ⟨"PlayStates", "hasRoomForPerson", "()Z"⟩
abbrev w_PS_hasRoomForPerson : List Cond := Cond.code y_PS_hasRoomForPerson prog_1_method_26_code 1 ((some .boolean)) :: GW
abbrev y_PS_addPerson : MethodName := ⟨"PlayStates", "addPerson", "()LPlayStates$Person;"⟩
abbrev w_PS_addPerson : List Cond := Cond.code y_PS_addPerson prog_1_method_27_code 2 ((some (.object "PlayStates$Person"))) :: GW
abbrev y_PS_tell : MethodName := ⟨"PlayStates", "tell", "(LPlayStates$Person;II)I"⟩
abbrev w_PS_tell : List Cond := Cond.code y_PS_tell prog_1_method_28_code 5 ((some .int)) :: GW
abbrev y_PS_findPlaceToHelp : MethodName := ⟨"PlayStates", "findPlaceToHelp", "(LPlayStates$Board;)I"⟩
abbrev w_PS_findPlaceToHelp : List Cond := Cond.code y_PS_findPlaceToHelp prog_1_method_29_code 3 ((some .int)) :: GW
abbrev y_PS_chooseJoining : MethodName := ⟨"PlayStates", "chooseJoining", "(II)V"⟩
abbrev w_PS_chooseJoining : List Cond := Cond.code y_PS_chooseJoining prog_1_method_30_code 6 none :: GW
abbrev y_PS_countJoined : MethodName := ⟨"PlayStates", "countJoined", "()I"⟩
abbrev w_PS_countJoined : List Cond := Cond.code y_PS_countJoined prog_1_method_31_code 5 ((some .int)) :: GW
abbrev y_PS_tellJoined : MethodName := ⟨"PlayStates", "tellJoined", "(LPlayStates$Person;)V"⟩
abbrev w_PS_tellJoined : List Cond := Cond.code y_PS_tellJoined prog_1_method_32_code 4 none :: GW
abbrev y_PS_readUnits : MethodName := ⟨"PlayStates", "readUnits", "()I"⟩
abbrev w_PS_readUnits : List Cond := Cond.code y_PS_readUnits prog_1_method_33_code 2 ((some .int)) :: GW
abbrev y_PS_tellDraft : MethodName := ⟨"PlayStates", "tellDraft", "(LPlayStates$Person;)V"⟩
abbrev w_PS_tellDraft : List Cond := Cond.code y_PS_tellDraft prog_1_method_34_code 4 none :: GW
abbrev y_Md_init : MethodName := ⟨"PlayStatesModel", "<init>", "(I)V"⟩
abbrev w_Md_init : List Cond := Cond.code y_Md_init prog_8_method_1_code 3 none :: GW
abbrev y_Md_isPerson : MethodName := ⟨"PlayStatesModel", "isPerson", "(I)Z"⟩
abbrev w_Md_isPerson : List Cond := Cond.code y_Md_isPerson prog_8_method_3_code 2 ((some .boolean)) :: GW
abbrev y_Md_isPlace : MethodName := ⟨"PlayStatesModel", "isPlace", "(I)Z"⟩
abbrev w_Md_isPlace : List Cond := Cond.code y_Md_isPlace prog_8_method_4_code 2 ((some .boolean)) :: GW
abbrev y_Md_person : MethodName := ⟨"PlayStatesModel", "person", "()I"⟩
abbrev w_Md_person : List Cond := Cond.code y_Md_person prog_8_method_5_code 1 ((some .int)) :: GW
abbrev y_Md_newPerson : MethodName := ⟨"PlayStatesModel", "newPerson", "()I"⟩
abbrev w_Md_newPerson : List Cond := Cond.code y_Md_newPerson prog_8_method_6_code 1 ((some .int)) :: GW
abbrev y_Md_act : MethodName := ⟨"PlayStatesModel", "act", "(III)V"⟩
abbrev w_Md_act : List Cond := Cond.code y_Md_act prog_8_method_7_code 5 none :: GW
abbrev y_Md_addRow : MethodName := ⟨"PlayStatesModel", "addRow", "(III)I"⟩
abbrev w_Md_addRow : List Cond := Cond.code y_Md_addRow prog_8_method_8_code 4 ((some .int)) :: GW
abbrev y_Md_enter : MethodName := ⟨"PlayStatesModel", "enter", "(III)I"⟩
abbrev w_Md_enter : List Cond := Cond.code y_Md_enter prog_8_method_9_code 4 ((some .int)) :: GW
abbrev y_Md_mark : MethodName := ⟨"PlayStatesModel", "mark", "(IIIZ)I"⟩
abbrev w_Md_mark : List Cond := Cond.code y_Md_mark prog_8_method_10_code 6 ((some .int)) :: GW
abbrev y_Md_undo : MethodName := ⟨"PlayStatesModel", "undo", "(I)I"⟩
abbrev w_Md_undo : List Cond := Cond.code y_Md_undo prog_8_method_11_code 4 ((some .int)) :: GW
abbrev y_Md_branch : MethodName := ⟨"PlayStatesModel", "branch", "(II)I"⟩
abbrev w_Md_branch : List Cond := Cond.code y_Md_branch prog_8_method_12_code 5 ((some .int)) :: GW
abbrev y_Md_redo : MethodName := ⟨"PlayStatesModel", "redo", "(II)I"⟩
abbrev w_Md_redo : List Cond := Cond.code y_Md_redo prog_8_method_13_code 4 ((some .int)) :: GW
abbrev y_Md_branches : MethodName := ⟨"PlayStatesModel", "branches", "(I)I"⟩
abbrev w_Md_branches : List Cond := Cond.code y_Md_branches prog_8_method_14_code 2 ((some .int)) :: GW
abbrev y_Md_at : MethodName := ⟨"PlayStatesModel", "at", "(II)I"⟩
abbrev w_Md_at : List Cond := Cond.code y_Md_at prog_8_method_15_code 3 ((some .int)) :: GW
abbrev y_Md_marks : MethodName := ⟨"PlayStatesModel", "marks", "(II)I"⟩
abbrev w_Md_marks : List Cond := Cond.code y_Md_marks prog_8_method_16_code 3 ((some .int)) :: GW
abbrev y_Md_truth : MethodName := ⟨"PlayStatesModel", "truth", "(II)Z"⟩
abbrev w_Md_truth : List Cond := Cond.code y_Md_truth prog_8_method_17_code 3 ((some .boolean)) :: GW
abbrev y_Md_wrong : MethodName := ⟨"PlayStatesModel", "wrong", "(I)I"⟩
abbrev w_Md_wrong : List Cond := Cond.code y_Md_wrong prog_8_method_18_code 5 ((some .int)) :: GW
abbrev y_Md_help : MethodName := ⟨"PlayStatesModel", "help", "(I)I"⟩
abbrev w_Md_help : List Cond := Cond.code y_Md_help prog_8_method_19_code 3 ((some .int)) :: GW
abbrev y_Md_helps : MethodName := ⟨"PlayStatesModel", "helps", "(I)I"⟩
abbrev w_Md_helps : List Cond := Cond.code y_Md_helps prog_8_method_20_code 2 ((some .int)) :: GW
abbrev y_Md_mayTell : MethodName := ⟨"PlayStatesModel", "mayTell", "(IJ)Z"⟩
abbrev w_Md_mayTell : List Cond := Cond.code y_Md_mayTell prog_8_method_21_code 4 ((some .boolean)) :: GW
abbrev y_Md_countedTo : MethodName := ⟨"PlayStatesModel", "countedTo", "(IJ)J"⟩
abbrev w_Md_countedTo : List Cond := Cond.code y_Md_countedTo prog_8_method_22_code 4 ((some .long)) :: GW
abbrev y_Md_timer : MethodName := ⟨"PlayStatesModel", "timer", "(IJZ)Z"⟩
abbrev w_Md_timer : List Cond := Cond.code y_Md_timer prog_8_method_23_code 5 ((some .boolean)) :: GW
abbrev y_Md_time : MethodName := ⟨"PlayStatesModel", "time", "(IJ)J"⟩
abbrev w_Md_time : List Cond := Cond.code y_Md_time prog_8_method_24_code 4 ((some .long)) :: GW
abbrev y_Md_walk : MethodName := ⟨"PlayStatesModel", "walk", "(I)V"⟩
abbrev w_Md_walk : List Cond := Cond.code y_Md_walk prog_8_method_25_code 3 none :: GW
abbrev y_Md_changes : MethodName := ⟨"PlayStatesModel", "changes", "(I)Z"⟩
abbrev w_Md_changes : List Cond := Cond.code y_Md_changes prog_8_method_26_code 5 ((some .boolean)) :: GW
abbrev y_Md_join : MethodName := ⟨"PlayStatesModel", "join", "(II)I"⟩
abbrev w_Md_join : List Cond := Cond.code y_Md_join prog_8_method_27_code 7 ((some .int)) :: GW
abbrev y_Md_say : MethodName := ⟨"PlayStatesModel", "say", "(I)V"⟩
abbrev w_Md_say : List Cond := Cond.code y_Md_say prog_8_method_28_code 2 none :: GW
abbrev y_Md_save : MethodName := ⟨"PlayStatesModel", "save", "(II)I"⟩
abbrev w_Md_save : List Cond := Cond.code y_Md_save prog_8_method_29_code 7 ((some .int)) :: GW
abbrev y_Md_unit : MethodName := ⟨"PlayStatesModel", "unit", "(I)Z"⟩
abbrev w_Md_unit : List Cond := Cond.code y_Md_unit prog_8_method_30_code 2 ((some .boolean)) :: GW
abbrev y_Md_byteAt : MethodName := ⟨"PlayStatesModel", "byteAt", "(I)I"⟩
abbrev w_Md_byteAt : List Cond := Cond.code y_Md_byteAt prog_8_method_31_code 2 ((some .int)) :: GW
abbrev y_Md_digitAt : MethodName := ⟨"PlayStatesModel", "digitAt", "(I)I"⟩
abbrev w_Md_digitAt : List Cond := Cond.code y_Md_digitAt prog_8_method_32_code 2 ((some .int)) :: GW
abbrev y_Md_parse : MethodName := ⟨"PlayStatesModel", "parse", "()I"⟩
abbrev w_Md_parse : List Cond := Cond.code y_Md_parse prog_8_method_33_code 4 ((some .int)) :: GW
abbrev y_Md_load : MethodName := ⟨"PlayStatesModel", "load", "()I"⟩
abbrev w_Md_load : List Cond := Cond.code y_Md_load prog_8_method_34_code 6 ((some .int)) :: GW
abbrev y_Md_rows : MethodName := ⟨"PlayStatesModel", "rows", "()I"⟩
abbrev w_Md_rows : List Cond := Cond.code y_Md_rows prog_8_method_35_code 1 ((some .int)) :: GW
abbrev y_Bd_init : MethodName := ⟨"PlayStates$Board", "<init>", "(I)V"⟩
abbrev w_Bd_init : List Cond := Cond.code y_Bd_init prog_2_method_1_code 2 none :: GW
abbrev y_Bd_clear : MethodName := ⟨"PlayStates$Board", "clear", "()V"⟩
abbrev w_Bd_clear : List Cond := Cond.code y_Bd_clear prog_2_method_2_code 1 none :: GW
abbrev y_Bd_hasMark : MethodName := ⟨"PlayStates$Board", "hasMark", "(II)Z"⟩
abbrev w_Bd_hasMark : List Cond := Cond.code y_Bd_hasMark prog_2_method_3_code 3 ((some .boolean)) :: GW
abbrev y_Bd_asItIs : MethodName := ⟨"PlayStates$Board", "asItIs", "(II)I"⟩
abbrev w_Bd_asItIs : List Cond := Cond.code y_Bd_asItIs prog_2_method_4_code 4 ((some .int)) :: GW
abbrev y_Bd_put : MethodName := ⟨"PlayStates$Board", "put", "(II)V"⟩
abbrev w_Bd_put : List Cond := Cond.code y_Bd_put prog_2_method_5_code 3 none :: GW
abbrev y_Bd_countRowsNeeded : MethodName := ⟨"PlayStates$Board", "countRowsNeeded", "()I"⟩
abbrev w_Bd_countRowsNeeded : List Cond := Cond.code y_Bd_countRowsNeeded prog_2_method_6_code 3 ((some .int)) :: GW
abbrev y_Bd_textSize : MethodName := ⟨"PlayStates$Board", "textSize", "(I)I"⟩
abbrev w_Bd_textSize : List Cond := Cond.code y_Bd_textSize prog_2_method_7_code 3 ((some .int)) :: GW
abbrev y_Bd_textByte : MethodName := ⟨"PlayStates$Board", "textByte", "(II)I"⟩
abbrev w_Bd_textByte : List Cond := Cond.code y_Bd_textByte prog_2_method_8_code 3 ((some .int)) :: GW
abbrev y_Bd_findMark : MethodName := ⟨"PlayStates$Board", "findMark", "(II)I"⟩
abbrev w_Bd_findMark : List Cond := Cond.code y_Bd_findMark prog_2_method_9_code 5 ((some .int)) :: GW
abbrev y_Ck_init : MethodName := ⟨"PlayStates$Clock", "<init>", "()V"⟩
abbrev w_Ck_init : List Cond := Cond.code y_Ck_init prog_3_method_1_code 1 none :: GW
abbrev y_Ck_mayBeTold : MethodName := ⟨"PlayStates$Clock", "mayBeTold", "(J)Z"⟩
abbrev w_Ck_mayBeTold : List Cond := Cond.code y_Ck_mayBeTold prog_3_method_2_code 3 ((some .boolean)) :: GW
abbrev y_Ck_countUpTo : MethodName := ⟨"PlayStates$Clock", "countUpTo", "(J)J"⟩
abbrev w_Ck_countUpTo : List Cond := Cond.code y_Ck_countUpTo prog_3_method_3_code 3 ((some .long)) :: GW
abbrev y_Ck_tellTime : MethodName := ⟨"PlayStates$Clock", "tellTime", "(JZ)V"⟩
abbrev w_Ck_tellTime : List Cond := Cond.code y_Ck_tellTime prog_3_method_4_code 4 none :: GW
abbrev y_Pn_init : MethodName := ⟨"PlayStates$Person", "<init>", "(II)V"⟩
abbrev w_Pn_init : List Cond := Cond.code y_Pn_init prog_4_method_1_code 3 none :: GW
abbrev y_Rt_init : MethodName := ⟨"PlayStates$RowTable", "<init>", "()V"⟩
abbrev w_Rt_init : List Cond := Cond.code y_Rt_init prog_5_method_1_code 1 none :: GW
abbrev y_Rt_holds : MethodName := ⟨"PlayStates$RowTable", "holds", "(I)Z"⟩
abbrev w_Rt_holds : List Cond := Cond.code y_Rt_holds prog_5_method_2_code 2 ((some .boolean)) :: GW
abbrev y_Rt_hasRoomFor : MethodName := ⟨"PlayStates$RowTable", "hasRoomFor", "(I)Z"⟩
abbrev w_Rt_hasRoomFor : List Cond := Cond.code y_Rt_hasRoomFor prog_5_method_3_code 2 ((some .boolean)) :: GW
abbrev y_Rt_add : MethodName := ⟨"PlayStates$RowTable", "add", "(IIII)I"⟩
abbrev w_Rt_add : List Cond := Cond.code y_Rt_add prog_5_method_4_code 6 ((some .int)) :: GW
abbrev y_Rt_countBranches : MethodName := ⟨"PlayStates$RowTable", "countBranches", "(I)I"⟩
abbrev w_Rt_countBranches : List Cond := Cond.code y_Rt_countBranches prog_5_method_5_code 4 ((some .int)) :: GW
abbrev y_Rt_findBranch : MethodName := ⟨"PlayStates$RowTable", "findBranch", "(II)I"⟩
abbrev w_Rt_findBranch : List Cond := Cond.code y_Rt_findBranch prog_5_method_6_code 5 ((some .int)) :: GW
abbrev y_Sr_init : MethodName := ⟨"PlayStates$StateReader", "<init>", "(LPlayStates$Board;I)V"⟩
abbrev w_Sr_init : List Cond := Cond.code y_Sr_init prog_6_method_1_code 3 none :: GW
abbrev y_Sr_begin : MethodName := ⟨"PlayStates$StateReader", "begin", "()V"⟩
abbrev w_Sr_begin : List Cond := Cond.code y_Sr_begin prog_6_method_2_code 1 none :: GW
abbrev y_Sr_accepts : MethodName := ⟨"PlayStates$StateReader", "accepts", "(I)Z"⟩
abbrev w_Sr_accepts : List Cond := Cond.code y_Sr_accepts prog_6_method_3_code 2 ((some .boolean)) :: GW
abbrev y_Sr_isWhole : MethodName := ⟨"PlayStates$StateReader", "isWhole", "()Z"⟩
abbrev w_Sr_isWhole : List Cond := Cond.code y_Sr_isWhole prog_6_method_4_code 1 ((some .boolean)) :: GW
abbrev y_Sr_acceptsOpening : MethodName := ⟨"PlayStates$StateReader", "acceptsOpening", "()Z"⟩
abbrev w_Sr_acceptsOpening : List Cond := Cond.code y_Sr_acceptsOpening prog_6_method_5_code 1 ((some .boolean)) :: GW
abbrev y_Sr_acceptsClosing : MethodName := ⟨"PlayStates$StateReader", "acceptsClosing", "()Z"⟩
abbrev w_Sr_acceptsClosing : List Cond := Cond.code y_Sr_acceptsClosing prog_6_method_6_code 1 ((some .boolean)) :: GW
abbrev y_Sr_acceptsMark : MethodName := ⟨"PlayStates$StateReader", "acceptsMark", "(I)Z"⟩
abbrev w_Sr_acceptsMark : List Cond := Cond.code y_Sr_acceptsMark prog_6_method_7_code 2 ((some .boolean)) :: GW
abbrev y_Sr_acceptsEntry : MethodName := ⟨"PlayStates$StateReader", "acceptsEntry", "(I)Z"⟩
abbrev w_Sr_acceptsEntry : List Cond := Cond.code y_Sr_acceptsEntry prog_6_method_8_code 3 ((some .boolean)) :: GW
abbrev y_Lw_cell : MethodName := ⟨"PlayStatesLaw", "cell", "([II)I"⟩
abbrev w_Lw_cell : List Cond := Cond.code y_Lw_cell method_2_code 2 ((some .int)) :: GW
abbrev y_Jn_bitCount : MethodName := ⟨"java/lang/Integer", "bitCount", "(I)I"⟩
abbrev w_Jn_bitCount : List Cond := Cond.code y_Jn_bitCount prog_9_method_49_code 1 ((some .int)) :: GW
abbrev y_Jm_max : MethodName := ⟨"java/lang/Math", "max", "(II)I"⟩
abbrev w_Jm_max : List Cond := Cond.code y_Jm_max prog_10_method_65_code 2 ((some .int)) :: GW
abbrev y_Jm_min : MethodName := ⟨"java/lang/Math", "min", "(II)I"⟩
abbrev w_Jm_min : List Cond := Cond.code y_Jm_min prog_10_method_69_code 2 ((some .int)) :: GW
abbrev y_Ja_fill : MethodName := ⟨"java/util/Arrays", "fill", "([II)V"⟩
abbrev w_Ja_fill : List Cond := Cond.code y_Ja_fill prog_11_method_103_code 4 none :: GW
theorem iw_0 : ∀ w ∈ u_ws "PlayStates$Board" TBd 2, w ∈ GW := by
  show ∀ w ∈ [u_lay "PlayStates$Board" TBd 0, u_lay "PlayStates$Board" TBd 1], w ∈ GW
  exact List.forall_mem_cons.mpr ⟨gT 65 (by decide +kernel) (by decide +kernel), List.forall_mem_cons.mpr ⟨gT 67 (by decide +kernel) (by decide +kernel), fun _ h => absurd h List.not_mem_nil⟩⟩
theorem iw_1 : ∀ w ∈ u_ws "PlayStates$Clock" TCk 3, w ∈ GW := by
  show ∀ w ∈ [u_lay "PlayStates$Clock" TCk 0, u_lay "PlayStates$Clock" TCk 1, u_lay "PlayStates$Clock" TCk 2], w ∈ GW
  exact List.forall_mem_cons.mpr ⟨gT 155 (by decide +kernel) (by decide +kernel), List.forall_mem_cons.mpr ⟨gT 157 (by decide +kernel) (by decide +kernel), List.forall_mem_cons.mpr ⟨gT 159 (by decide +kernel) (by decide +kernel), fun _ h => absurd h List.not_mem_nil⟩⟩⟩
theorem iw_2 : ∀ w ∈ u_ws "PlayStates$Person" TPn 5, w ∈ GW := by
  show ∀ w ∈ [u_lay "PlayStates$Person" TPn 0, u_lay "PlayStates$Person" TPn 1, u_lay "PlayStates$Person" TPn 2, u_lay "PlayStates$Person" TPn 3, u_lay "PlayStates$Person" TPn 4], w ∈ GW
  exact List.forall_mem_cons.mpr ⟨gT 171 (by decide +kernel) (by decide +kernel), List.forall_mem_cons.mpr ⟨gT 173 (by decide +kernel) (by decide +kernel), List.forall_mem_cons.mpr ⟨gT 175 (by decide +kernel) (by decide +kernel), List.forall_mem_cons.mpr ⟨gT 177 (by decide +kernel) (by decide +kernel), List.forall_mem_cons.mpr ⟨gT 179 (by decide +kernel) (by decide +kernel), fun _ h => absurd h List.not_mem_nil⟩⟩⟩⟩⟩
theorem iw_3 : ∀ w ∈ u_ws "PlayStates$RowTable" TRt 5, w ∈ GW := by
  show ∀ w ∈ [u_lay "PlayStates$RowTable" TRt 0, u_lay "PlayStates$RowTable" TRt 1, u_lay "PlayStates$RowTable" TRt 2, u_lay "PlayStates$RowTable" TRt 3, u_lay "PlayStates$RowTable" TRt 4], w ∈ GW
  exact List.forall_mem_cons.mpr ⟨gT 43 (by decide +kernel) (by decide +kernel), List.forall_mem_cons.mpr ⟨gT 45 (by decide +kernel) (by decide +kernel), List.forall_mem_cons.mpr ⟨gT 47 (by decide +kernel) (by decide +kernel), List.forall_mem_cons.mpr ⟨gT 49 (by decide +kernel) (by decide +kernel), List.forall_mem_cons.mpr ⟨gT 51 (by decide +kernel) (by decide +kernel), fun _ h => absurd h List.not_mem_nil⟩⟩⟩⟩⟩
theorem iw_4 : ∀ w ∈ u_ws "PlayStates$StateReader" TSr 6, w ∈ GW := by
  show ∀ w ∈ [u_lay "PlayStates$StateReader" TSr 0, u_lay "PlayStates$StateReader" TSr 1, u_lay "PlayStates$StateReader" TSr 2, u_lay "PlayStates$StateReader" TSr 3, u_lay "PlayStates$StateReader" TSr 4, u_lay "PlayStates$StateReader" TSr 5], w ∈ GW
  exact List.forall_mem_cons.mpr ⟨gT 83 (by decide +kernel) (by decide +kernel), List.forall_mem_cons.mpr ⟨gT 85 (by decide +kernel) (by decide +kernel), List.forall_mem_cons.mpr ⟨gT 87 (by decide +kernel) (by decide +kernel), List.forall_mem_cons.mpr ⟨gT 89 (by decide +kernel) (by decide +kernel), List.forall_mem_cons.mpr ⟨gT 91 (by decide +kernel) (by decide +kernel), List.forall_mem_cons.mpr ⟨gT 93 (by decide +kernel) (by decide +kernel), fun _ h => absurd h List.not_mem_nil⟩⟩⟩⟩⟩⟩
theorem iw_5 : ∀ w ∈ u_ws "PlayStates" TPS 10, w ∈ GW := by
  show ∀ w ∈ [u_lay "PlayStates" TPS 0, u_lay "PlayStates" TPS 1, u_lay "PlayStates" TPS 2, u_lay "PlayStates" TPS 3, u_lay "PlayStates" TPS 4, u_lay "PlayStates" TPS 5, u_lay "PlayStates" TPS 6, u_lay "PlayStates" TPS 7, u_lay "PlayStates" TPS 8, u_lay "PlayStates" TPS 9], w ∈ GW
  exact List.forall_mem_cons.mpr ⟨gT 106 (by decide +kernel) (by decide +kernel), List.forall_mem_cons.mpr ⟨gT 108 (by decide +kernel) (by decide +kernel), List.forall_mem_cons.mpr ⟨gT 110 (by decide +kernel) (by decide +kernel), List.forall_mem_cons.mpr ⟨gT 112 (by decide +kernel) (by decide +kernel), List.forall_mem_cons.mpr ⟨gT 114 (by decide +kernel) (by decide +kernel), List.forall_mem_cons.mpr ⟨gT 116 (by decide +kernel) (by decide +kernel), List.forall_mem_cons.mpr ⟨gT 118 (by decide +kernel) (by decide +kernel), List.forall_mem_cons.mpr ⟨gT 120 (by decide +kernel) (by decide +kernel), List.forall_mem_cons.mpr ⟨gT 122 (by decide +kernel) (by decide +kernel), List.forall_mem_cons.mpr ⟨gT 124 (by decide +kernel) (by decide +kernel), fun _ h => absurd h List.not_mem_nil⟩⟩⟩⟩⟩⟩⟩⟩⟩⟩
theorem iw_6 : ∀ w ∈ u_ws "PlayStatesModel" TMd 25, w ∈ GW := by
  show ∀ w ∈ [u_lay "PlayStatesModel" TMd 0, u_lay "PlayStatesModel" TMd 1, u_lay "PlayStatesModel" TMd 2, u_lay "PlayStatesModel" TMd 3, u_lay "PlayStatesModel" TMd 4, u_lay "PlayStatesModel" TMd 5, u_lay "PlayStatesModel" TMd 6, u_lay "PlayStatesModel" TMd 7, u_lay "PlayStatesModel" TMd 8, u_lay "PlayStatesModel" TMd 9, u_lay "PlayStatesModel" TMd 10, u_lay "PlayStatesModel" TMd 11, u_lay "PlayStatesModel" TMd 12, u_lay "PlayStatesModel" TMd 13, u_lay "PlayStatesModel" TMd 14, u_lay "PlayStatesModel" TMd 15, u_lay "PlayStatesModel" TMd 16, u_lay "PlayStatesModel" TMd 17, u_lay "PlayStatesModel" TMd 18, u_lay "PlayStatesModel" TMd 19, u_lay "PlayStatesModel" TMd 20, u_lay "PlayStatesModel" TMd 21, u_lay "PlayStatesModel" TMd 22, u_lay "PlayStatesModel" TMd 23, u_lay "PlayStatesModel" TMd 24], w ∈ GW
  exact List.forall_mem_cons.mpr ⟨gT 442 (by decide +kernel) (by decide +kernel), List.forall_mem_cons.mpr ⟨gT 444 (by decide +kernel) (by decide +kernel), List.forall_mem_cons.mpr ⟨gT 446 (by decide +kernel) (by decide +kernel), List.forall_mem_cons.mpr ⟨gT 448 (by decide +kernel) (by decide +kernel), List.forall_mem_cons.mpr ⟨gT 450 (by decide +kernel) (by decide +kernel), List.forall_mem_cons.mpr ⟨gT 452 (by decide +kernel) (by decide +kernel), List.forall_mem_cons.mpr ⟨gT 454 (by decide +kernel) (by decide +kernel), List.forall_mem_cons.mpr ⟨gT 456 (by decide +kernel) (by decide +kernel), List.forall_mem_cons.mpr ⟨gT 458 (by decide +kernel) (by decide +kernel), List.forall_mem_cons.mpr ⟨gT 460 (by decide +kernel) (by decide +kernel), List.forall_mem_cons.mpr ⟨gT 462 (by decide +kernel) (by decide +kernel), List.forall_mem_cons.mpr ⟨gT 464 (by decide +kernel) (by decide +kernel), List.forall_mem_cons.mpr ⟨gT 466 (by decide +kernel) (by decide +kernel), List.forall_mem_cons.mpr ⟨gT 468 (by decide +kernel) (by decide +kernel), List.forall_mem_cons.mpr ⟨gT 470 (by decide +kernel) (by decide +kernel), List.forall_mem_cons.mpr ⟨gT 472 (by decide +kernel) (by decide +kernel), List.forall_mem_cons.mpr ⟨gT 474 (by decide +kernel) (by decide +kernel), List.forall_mem_cons.mpr ⟨gT 476 (by decide +kernel) (by decide +kernel), List.forall_mem_cons.mpr ⟨gT 478 (by decide +kernel) (by decide +kernel), List.forall_mem_cons.mpr ⟨gT 480 (by decide +kernel) (by decide +kernel), List.forall_mem_cons.mpr ⟨gT 482 (by decide +kernel) (by decide +kernel), List.forall_mem_cons.mpr ⟨gT 484 (by decide +kernel) (by decide +kernel), List.forall_mem_cons.mpr ⟨gT 486 (by decide +kernel) (by decide +kernel), List.forall_mem_cons.mpr ⟨gT 488 (by decide +kernel) (by decide +kernel), List.forall_mem_cons.mpr ⟨gT 490 (by decide +kernel) (by decide +kernel), fun _ h => absurd h List.not_mem_nil⟩⟩⟩⟩⟩⟩⟩⟩⟩⟩⟩⟩⟩⟩⟩⟩⟩⟩⟩⟩⟩⟩⟩⟩⟩
