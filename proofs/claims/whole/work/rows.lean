section
-- ===== PART A: goes FIRST, ahead of the names: the tables' words, and 'selects' of the private methods out of them =====
/-- a private method of a class that the tables say can be made, by its rows of tables_1 -/
def lw_okq (q : MethodName × Nat) : Prop := (q.1.cls ≠ "java/lang/invoke/MethodHandle" ∧ q.1.cls ≠ "java/lang/invoke/VarHandle") ∧ Cond.instantiable q.1.cls q.2 ∈ tables_1 ∧ Cond.privateMethod q.1 ∈ tables_1 ∧ Cond.instanceMethod q.1 ∈ tables_1
theorem lw_p0 : lw_okq (⟨"PlayStates", "hasRoomForPerson", "()Z"⟩, 10) := ⟨⟨by decide +kernel, by decide +kernel⟩, List.mem_of_getElem? (i := 12) (by decide +kernel), List.mem_of_getElem? (i := 132) (by decide +kernel), List.mem_of_getElem? (i := 133) (by decide +kernel)⟩
theorem lw_p1 : lw_okq (⟨"PlayStates", "addPerson", "()LPlayStates$Person;"⟩, 10) := ⟨⟨by decide +kernel, by decide +kernel⟩, List.mem_of_getElem? (i := 12) (by decide +kernel), List.mem_of_getElem? (i := 136) (by decide +kernel), List.mem_of_getElem? (i := 137) (by decide +kernel)⟩
theorem lw_p2 : lw_okq (⟨"PlayStates", "find", "(I)LPlayStates$Person;"⟩, 10) := ⟨⟨by decide +kernel, by decide +kernel⟩, List.mem_of_getElem? (i := 12) (by decide +kernel), List.mem_of_getElem? (i := 187) (by decide +kernel), List.mem_of_getElem? (i := 188) (by decide +kernel)⟩
theorem lw_p3 : lw_okq (⟨"PlayStates", "isPlace", "(I)Z"⟩, 10) := ⟨⟨by decide +kernel, by decide +kernel⟩, List.mem_of_getElem? (i := 12) (by decide +kernel), List.mem_of_getElem? (i := 191) (by decide +kernel), List.mem_of_getElem? (i := 192) (by decide +kernel)⟩
theorem lw_p4 : lw_okq (⟨"PlayStates", "tell", "(LPlayStates$Person;II)I"⟩, 10) := ⟨⟨by decide +kernel, by decide +kernel⟩, List.mem_of_getElem? (i := 12) (by decide +kernel), List.mem_of_getElem? (i := 198) (by decide +kernel), List.mem_of_getElem? (i := 199) (by decide +kernel)⟩
theorem lw_p5 : lw_okq (⟨"PlayStates", "findPlaceToHelp", "(LPlayStates$Board;)I"⟩, 10) := ⟨⟨by decide +kernel, by decide +kernel⟩, List.mem_of_getElem? (i := 12) (by decide +kernel), List.mem_of_getElem? (i := 276) (by decide +kernel), List.mem_of_getElem? (i := 277) (by decide +kernel)⟩
theorem lw_p6 : lw_okq (⟨"PlayStates", "chooseJoining", "(II)V"⟩, 10) := ⟨⟨by decide +kernel, by decide +kernel⟩, List.mem_of_getElem? (i := 12) (by decide +kernel), List.mem_of_getElem? (i := 310) (by decide +kernel), List.mem_of_getElem? (i := 311) (by decide +kernel)⟩
theorem lw_p7 : lw_okq (⟨"PlayStates", "countJoined", "()I"⟩, 10) := ⟨⟨by decide +kernel, by decide +kernel⟩, List.mem_of_getElem? (i := 12) (by decide +kernel), List.mem_of_getElem? (i := 314) (by decide +kernel), List.mem_of_getElem? (i := 315) (by decide +kernel)⟩
theorem lw_p8 : lw_okq (⟨"PlayStates", "tellJoined", "(LPlayStates$Person;)V"⟩, 10) := ⟨⟨by decide +kernel, by decide +kernel⟩, List.mem_of_getElem? (i := 12) (by decide +kernel), List.mem_of_getElem? (i := 325) (by decide +kernel), List.mem_of_getElem? (i := 326) (by decide +kernel)⟩
theorem lw_p9 : lw_okq (⟨"PlayStates$Board", "findMark", "(II)I"⟩, 2) := ⟨⟨by decide +kernel, by decide +kernel⟩, List.mem_of_getElem? (i := 56) (by decide +kernel), List.mem_of_getElem? (i := 348) (by decide +kernel), List.mem_of_getElem? (i := 349) (by decide +kernel)⟩
theorem lw_p10 : lw_okq (⟨"PlayStates", "readUnits", "()I"⟩, 10) := ⟨⟨by decide +kernel, by decide +kernel⟩, List.mem_of_getElem? (i := 12) (by decide +kernel), List.mem_of_getElem? (i := 360) (by decide +kernel), List.mem_of_getElem? (i := 361) (by decide +kernel)⟩
theorem lw_p11 : lw_okq (⟨"PlayStates$StateReader", "acceptsClosing", "()Z"⟩, 6) := ⟨⟨by decide +kernel, by decide +kernel⟩, List.mem_of_getElem? (i := 72) (by decide +kernel), List.mem_of_getElem? (i := 373) (by decide +kernel), List.mem_of_getElem? (i := 374) (by decide +kernel)⟩
theorem lw_p12 : lw_okq (⟨"PlayStates$StateReader", "acceptsMark", "(I)Z"⟩, 6) := ⟨⟨by decide +kernel, by decide +kernel⟩, List.mem_of_getElem? (i := 72) (by decide +kernel), List.mem_of_getElem? (i := 377) (by decide +kernel), List.mem_of_getElem? (i := 378) (by decide +kernel)⟩
theorem lw_p13 : lw_okq (⟨"PlayStates$StateReader", "acceptsOpening", "()Z"⟩, 6) := ⟨⟨by decide +kernel, by decide +kernel⟩, List.mem_of_getElem? (i := 72) (by decide +kernel), List.mem_of_getElem? (i := 383) (by decide +kernel), List.mem_of_getElem? (i := 384) (by decide +kernel)⟩
theorem lw_p14 : lw_okq (⟨"PlayStates$StateReader", "acceptsEntry", "(I)Z"⟩, 6) := ⟨⟨by decide +kernel, by decide +kernel⟩, List.mem_of_getElem? (i := 72) (by decide +kernel), List.mem_of_getElem? (i := 387) (by decide +kernel), List.mem_of_getElem? (i := 388) (by decide +kernel)⟩
theorem lw_p15 : lw_okq (⟨"PlayStates", "tellDraft", "(LPlayStates$Person;)V"⟩, 10) := ⟨⟨by decide +kernel, by decide +kernel⟩, List.mem_of_getElem? (i := 12) (by decide +kernel), List.mem_of_getElem? (i := 399) (by decide +kernel), List.mem_of_getElem? (i := 400) (by decide +kernel)⟩
def lw_privs_1 : List (MethodName × Nat) := [(⟨"PlayStates", "hasRoomForPerson", "()Z"⟩, 10), (⟨"PlayStates", "addPerson", "()LPlayStates$Person;"⟩, 10), (⟨"PlayStates", "find", "(I)LPlayStates$Person;"⟩, 10), (⟨"PlayStates", "isPlace", "(I)Z"⟩, 10), (⟨"PlayStates", "tell", "(LPlayStates$Person;II)I"⟩, 10), (⟨"PlayStates", "findPlaceToHelp", "(LPlayStates$Board;)I"⟩, 10), (⟨"PlayStates", "chooseJoining", "(II)V"⟩, 10), (⟨"PlayStates", "countJoined", "()I"⟩, 10), (⟨"PlayStates", "tellJoined", "(LPlayStates$Person;)V"⟩, 10), (⟨"PlayStates$Board", "findMark", "(II)I"⟩, 2), (⟨"PlayStates", "readUnits", "()I"⟩, 10), (⟨"PlayStates$StateReader", "acceptsClosing", "()Z"⟩, 6), (⟨"PlayStates$StateReader", "acceptsMark", "(I)Z"⟩, 6), (⟨"PlayStates$StateReader", "acceptsOpening", "()Z"⟩, 6), (⟨"PlayStates$StateReader", "acceptsEntry", "(I)Z"⟩, 6), (⟨"PlayStates", "tellDraft", "(LPlayStates$Person;)V"⟩, 10)]
theorem lw_r1 : ∀ q ∈ lw_privs_1, lw_okq q := List.forall_mem_cons.mpr ⟨lw_p0, List.forall_mem_cons.mpr ⟨lw_p1, List.forall_mem_cons.mpr ⟨lw_p2, List.forall_mem_cons.mpr ⟨lw_p3, List.forall_mem_cons.mpr ⟨lw_p4, List.forall_mem_cons.mpr ⟨lw_p5, List.forall_mem_cons.mpr ⟨lw_p6, List.forall_mem_cons.mpr ⟨lw_p7, List.forall_mem_cons.mpr ⟨lw_p8, List.forall_mem_cons.mpr ⟨lw_p9, List.forall_mem_cons.mpr ⟨lw_p10, List.forall_mem_cons.mpr ⟨lw_p11, List.forall_mem_cons.mpr ⟨lw_p12, List.forall_mem_cons.mpr ⟨lw_p13, List.forall_mem_cons.mpr ⟨lw_p14, List.forall_mem_cons.mpr ⟨lw_p15, fun _ h => absurd h List.not_mem_nil⟩⟩⟩⟩⟩⟩⟩⟩⟩⟩⟩⟩⟩⟩⟩⟩
theorem lw_p16 : lw_okq (⟨"PlayStatesModel", "newPerson", "()I"⟩, 25) := ⟨⟨by decide +kernel, by decide +kernel⟩, List.mem_of_getElem? (i := 411) (by decide +kernel), List.mem_of_getElem? (i := 499) (by decide +kernel), List.mem_of_getElem? (i := 500) (by decide +kernel)⟩
theorem lw_p17 : lw_okq (⟨"PlayStatesModel", "isPerson", "(I)Z"⟩, 25) := ⟨⟨by decide +kernel, by decide +kernel⟩, List.mem_of_getElem? (i := 411) (by decide +kernel), List.mem_of_getElem? (i := 507) (by decide +kernel), List.mem_of_getElem? (i := 508) (by decide +kernel)⟩
theorem lw_p18 : lw_okq (⟨"PlayStatesModel", "isPlace", "(I)Z"⟩, 25) := ⟨⟨by decide +kernel, by decide +kernel⟩, List.mem_of_getElem? (i := 411) (by decide +kernel), List.mem_of_getElem? (i := 511) (by decide +kernel), List.mem_of_getElem? (i := 512) (by decide +kernel)⟩
theorem lw_p19 : lw_okq (⟨"PlayStatesModel", "addRow", "(III)I"⟩, 25) := ⟨⟨by decide +kernel, by decide +kernel⟩, List.mem_of_getElem? (i := 411) (by decide +kernel), List.mem_of_getElem? (i := 515) (by decide +kernel), List.mem_of_getElem? (i := 516) (by decide +kernel)⟩
theorem lw_p20 : lw_okq (⟨"PlayStatesModel", "act", "(III)V"⟩, 25) := ⟨⟨by decide +kernel, by decide +kernel⟩, List.mem_of_getElem? (i := 411) (by decide +kernel), List.mem_of_getElem? (i := 519) (by decide +kernel), List.mem_of_getElem? (i := 520) (by decide +kernel)⟩
theorem lw_p21 : lw_okq (⟨"PlayStatesModel", "branch", "(II)I"⟩, 25) := ⟨⟨by decide +kernel, by decide +kernel⟩, List.mem_of_getElem? (i := 411) (by decide +kernel), List.mem_of_getElem? (i := 535) (by decide +kernel), List.mem_of_getElem? (i := 536) (by decide +kernel)⟩
theorem lw_p22 : lw_okq (⟨"PlayStatesModel", "mayTell", "(IJ)Z"⟩, 25) := ⟨⟨by decide +kernel, by decide +kernel⟩, List.mem_of_getElem? (i := 411) (by decide +kernel), List.mem_of_getElem? (i := 571) (by decide +kernel), List.mem_of_getElem? (i := 572) (by decide +kernel)⟩
theorem lw_p23 : lw_okq (⟨"PlayStatesModel", "countedTo", "(IJ)J"⟩, 25) := ⟨⟨by decide +kernel, by decide +kernel⟩, List.mem_of_getElem? (i := 411) (by decide +kernel), List.mem_of_getElem? (i := 575) (by decide +kernel), List.mem_of_getElem? (i := 576) (by decide +kernel)⟩
theorem lw_p24 : lw_okq (⟨"PlayStatesModel", "walk", "(I)V"⟩, 25) := ⟨⟨by decide +kernel, by decide +kernel⟩, List.mem_of_getElem? (i := 411) (by decide +kernel), List.mem_of_getElem? (i := 587) (by decide +kernel), List.mem_of_getElem? (i := 588) (by decide +kernel)⟩
theorem lw_p25 : lw_okq (⟨"PlayStatesModel", "changes", "(I)Z"⟩, 25) := ⟨⟨by decide +kernel, by decide +kernel⟩, List.mem_of_getElem? (i := 411) (by decide +kernel), List.mem_of_getElem? (i := 591) (by decide +kernel), List.mem_of_getElem? (i := 592) (by decide +kernel)⟩
theorem lw_p26 : lw_okq (⟨"PlayStatesModel", "say", "(I)V"⟩, 25) := ⟨⟨by decide +kernel, by decide +kernel⟩, List.mem_of_getElem? (i := 411) (by decide +kernel), List.mem_of_getElem? (i := 599) (by decide +kernel), List.mem_of_getElem? (i := 600) (by decide +kernel)⟩
theorem lw_p27 : lw_okq (⟨"PlayStatesModel", "parse", "()I"⟩, 25) := ⟨⟨by decide +kernel, by decide +kernel⟩, List.mem_of_getElem? (i := 411) (by decide +kernel), List.mem_of_getElem? (i := 611) (by decide +kernel), List.mem_of_getElem? (i := 612) (by decide +kernel)⟩
theorem lw_p28 : lw_okq (⟨"PlayStatesModel", "digitAt", "(I)I"⟩, 25) := ⟨⟨by decide +kernel, by decide +kernel⟩, List.mem_of_getElem? (i := 411) (by decide +kernel), List.mem_of_getElem? (i := 615) (by decide +kernel), List.mem_of_getElem? (i := 616) (by decide +kernel)⟩
theorem lw_p29 : lw_okq (⟨"PlayStatesModel", "byteAt", "(I)I"⟩, 25) := ⟨⟨by decide +kernel, by decide +kernel⟩, List.mem_of_getElem? (i := 411) (by decide +kernel), List.mem_of_getElem? (i := 619) (by decide +kernel), List.mem_of_getElem? (i := 620) (by decide +kernel)⟩
def lw_privs_2 : List (MethodName × Nat) := [(⟨"PlayStatesModel", "newPerson", "()I"⟩, 25), (⟨"PlayStatesModel", "isPerson", "(I)Z"⟩, 25), (⟨"PlayStatesModel", "isPlace", "(I)Z"⟩, 25), (⟨"PlayStatesModel", "addRow", "(III)I"⟩, 25), (⟨"PlayStatesModel", "act", "(III)V"⟩, 25), (⟨"PlayStatesModel", "branch", "(II)I"⟩, 25), (⟨"PlayStatesModel", "mayTell", "(IJ)Z"⟩, 25), (⟨"PlayStatesModel", "countedTo", "(IJ)J"⟩, 25), (⟨"PlayStatesModel", "walk", "(I)V"⟩, 25), (⟨"PlayStatesModel", "changes", "(I)Z"⟩, 25), (⟨"PlayStatesModel", "say", "(I)V"⟩, 25), (⟨"PlayStatesModel", "parse", "()I"⟩, 25), (⟨"PlayStatesModel", "digitAt", "(I)I"⟩, 25), (⟨"PlayStatesModel", "byteAt", "(I)I"⟩, 25)]
theorem lw_r2 : ∀ q ∈ lw_privs_2, lw_okq q := List.forall_mem_cons.mpr ⟨lw_p16, List.forall_mem_cons.mpr ⟨lw_p17, List.forall_mem_cons.mpr ⟨lw_p18, List.forall_mem_cons.mpr ⟨lw_p19, List.forall_mem_cons.mpr ⟨lw_p20, List.forall_mem_cons.mpr ⟨lw_p21, List.forall_mem_cons.mpr ⟨lw_p22, List.forall_mem_cons.mpr ⟨lw_p23, List.forall_mem_cons.mpr ⟨lw_p24, List.forall_mem_cons.mpr ⟨lw_p25, List.forall_mem_cons.mpr ⟨lw_p26, List.forall_mem_cons.mpr ⟨lw_p27, List.forall_mem_cons.mpr ⟨lw_p28, List.forall_mem_cons.mpr ⟨lw_p29, fun _ h => absurd h List.not_mem_nil⟩⟩⟩⟩⟩⟩⟩⟩⟩⟩⟩⟩⟩⟩
def lw_privs : List (MethodName × Nat) := lw_privs_1 ++ (lw_privs_2)
def lw_tbl : List Cond := k2_sels lw_privs ++ tables_1
theorem lw_privs_ok : ∀ q ∈ lw_privs, lw_okq q := by
  show ∀ q ∈ lw_privs_1 ++ (lw_privs_2), lw_okq q
  exact List.forall_mem_append.mpr ⟨lw_r1, lw_r2⟩
end
section
def TBd : u_T := fun k => match k with
  | 0 => ("PlayStates$Board", "entries", "[I", true)
  | _ => ("PlayStates$Board", "markBits", "[I", true)
def tyBd : Nat → FieldType := fun k => match k with
  | 0 => .array .int
  | _ => .array .int
theorem nmBd : ∀ a, a < 2 → ∀ b, b < 2 → a ≠ b → (TBd a).2.1 ≠ (TBd b).2.1 := by decide +kernel
theorem tyBd_ok : ∀ k, k < 2 → parseFieldDescriptor (TBd k).2.2.1 = some (tyBd k) := by decide +kernel
def TCk : u_T := fun k => match k with
  | 0 => ("PlayStates$Clock", "running", "Z", false)
  | 1 => ("PlayStates$Clock", "lastTold", "J", false)
  | _ => ("PlayStates$Clock", "counted", "J", false)
def tyCk : Nat → FieldType := fun k => match k with
  | 0 => .boolean
  | 1 => .long
  | _ => .long
theorem nmCk : ∀ a, a < 3 → ∀ b, b < 3 → a ≠ b → (TCk a).2.1 ≠ (TCk b).2.1 := by decide +kernel
theorem tyCk_ok : ∀ k, k < 3 → parseFieldDescriptor (TCk k).2.2.1 = some (tyCk k) := by decide +kernel
def TPn : u_T := fun k => match k with
  | 0 => ("PlayStates$Person", "number", "I", true)
  | 1 => ("PlayStates$Person", "board", "LPlayStates$Board;", true)
  | 2 => ("PlayStates$Person", "clock", "LPlayStates$Clock;", true)
  | 3 => ("PlayStates$Person", "present", "I", false)
  | _ => ("PlayStates$Person", "helpCount", "I", false)
def tyPn : Nat → FieldType := fun k => match k with
  | 0 => .int
  | 1 => .object "PlayStates$Board"
  | 2 => .object "PlayStates$Clock"
  | 3 => .int
  | _ => .int
theorem nmPn : ∀ a, a < 5 → ∀ b, b < 5 → a ≠ b → (TPn a).2.1 ≠ (TPn b).2.1 := by decide +kernel
theorem tyPn_ok : ∀ k, k < 5 → parseFieldDescriptor (TPn k).2.2.1 = some (tyPn k) := by decide +kernel
def TRt : u_T := fun k => match k with
  | 0 => ("PlayStates$RowTable", "place", "[I", true)
  | 1 => ("PlayStates$RowTable", "told", "[I", true)
  | 2 => ("PlayStates$RowTable", "before", "[I", true)
  | 3 => ("PlayStates$RowTable", "behind", "[I", true)
  | _ => ("PlayStates$RowTable", "count", "I", false)
def tyRt : Nat → FieldType := fun k => match k with
  | 0 => .array .int
  | 1 => .array .int
  | 2 => .array .int
  | 3 => .array .int
  | _ => .int
theorem nmRt : ∀ a, a < 5 → ∀ b, b < 5 → a ≠ b → (TRt a).2.1 ≠ (TRt b).2.1 := by decide +kernel
theorem tyRt_ok : ∀ k, k < 5 → parseFieldDescriptor (TRt k).2.2.1 = some (tyRt k) := by decide +kernel
def TSr : u_T := fun k => match k with
  | 0 => ("PlayStates$StateReader", "board", "LPlayStates$Board;", true)
  | 1 => ("PlayStates$StateReader", "placeCount", "I", true)
  | 2 => ("PlayStates$StateReader", "placesRead", "I", false)
  | 3 => ("PlayStates$StateReader", "mayOpen", "Z", false)
  | 4 => ("PlayStates$StateReader", "open", "Z", false)
  | _ => ("PlayStates$StateReader", "lastMark", "I", false)
def tySr : Nat → FieldType := fun k => match k with
  | 0 => .object "PlayStates$Board"
  | 1 => .int
  | 2 => .int
  | 3 => .boolean
  | 4 => .boolean
  | _ => .int
theorem nmSr : ∀ a, a < 6 → ∀ b, b < 6 → a ≠ b → (TSr a).2.1 ≠ (TSr b).2.1 := by decide +kernel
theorem tySr_ok : ∀ k, k < 6 → parseFieldDescriptor (TSr k).2.2.1 = some (tySr k) := by decide +kernel
def TPS : u_T := fun k => match k with
  | 0 => ("PlayStates", "placeCount", "I", true)
  | 1 => ("PlayStates", "right", "[I", true)
  | 2 => ("PlayStates", "persons", "[LPlayStates$Person;", true)
  | 3 => ("PlayStates", "personCount", "I", false)
  | 4 => ("PlayStates", "table", "LPlayStates$RowTable;", true)
  | 5 => ("PlayStates", "joining", "[Z", true)
  | 6 => ("PlayStates", "units", "[I", true)
  | 7 => ("PlayStates", "unitCount", "I", false)
  | 8 => ("PlayStates", "draft", "LPlayStates$Board;", true)
  | _ => ("PlayStates", "reader", "LPlayStates$StateReader;", true)
def tyPS : Nat → FieldType := fun k => match k with
  | 0 => .int
  | 1 => .array .int
  | 2 => .array (.object "PlayStates$Person")
  | 3 => .int
  | 4 => .object "PlayStates$RowTable"
  | 5 => .array .boolean
  | 6 => .array .int
  | 7 => .int
  | 8 => .object "PlayStates$Board"
  | _ => .object "PlayStates$StateReader"
theorem nmPS : ∀ a, a < 10 → ∀ b, b < 10 → a ≠ b → (TPS a).2.1 ≠ (TPS b).2.1 := by decide +kernel
theorem tyPS_ok : ∀ k, k < 10 → parseFieldDescriptor (TPS k).2.2.1 = some (tyPS k) := by decide +kernel
def TMd : u_T := fun k => match k with
  | 0 => ("PlayStatesModel", "thrown", "I", false)
  | 1 => ("PlayStatesModel", "places", "I", true)
  | 2 => ("PlayStatesModel", "persons", "I", false)
  | 3 => ("PlayStatesModel", "truth", "[I", true)
  | 4 => ("PlayStatesModel", "entries", "[I", true)
  | 5 => ("PlayStatesModel", "marked", "[I", true)
  | 6 => ("PlayStatesModel", "present", "[I", true)
  | 7 => ("PlayStatesModel", "helped", "[I", true)
  | 8 => ("PlayStatesModel", "counted", "[J", true)
  | 9 => ("PlayStatesModel", "told", "[J", true)
  | 10 => ("PlayStatesModel", "runs", "[Z", true)
  | 11 => ("PlayStatesModel", "many", "I", false)
  | 12 => ("PlayStatesModel", "whose", "[I", true)
  | 13 => ("PlayStatesModel", "where", "[I", true)
  | 14 => ("PlayStatesModel", "what", "[I", true)
  | 15 => ("PlayStatesModel", "before", "[I", true)
  | 16 => ("PlayStatesModel", "behind", "[I", true)
  | 17 => ("PlayStatesModel", "isOn", "[Z", true)
  | 18 => ("PlayStatesModel", "tryEntries", "[I", true)
  | 19 => ("PlayStatesModel", "tryMarks", "[I", true)
  | 20 => ("PlayStatesModel", "size", "I", false)
  | 21 => ("PlayStatesModel", "text", "[I", true)
  | 22 => ("PlayStatesModel", "at", "I", false)
  | 23 => ("PlayStatesModel", "sought", "I", false)
  | _ => ("PlayStatesModel", "found", "I", false)
def tyMd : Nat → FieldType := fun k => match k with
  | 0 => .int
  | 1 => .int
  | 2 => .int
  | 3 => .array .int
  | 4 => .array .int
  | 5 => .array .int
  | 6 => .array .int
  | 7 => .array .int
  | 8 => .array .long
  | 9 => .array .long
  | 10 => .array .boolean
  | 11 => .int
  | 12 => .array .int
  | 13 => .array .int
  | 14 => .array .int
  | 15 => .array .int
  | 16 => .array .int
  | 17 => .array .boolean
  | 18 => .array .int
  | 19 => .array .int
  | 20 => .int
  | 21 => .array .int
  | 22 => .int
  | 23 => .int
  | _ => .int
theorem nmMd : ∀ a, a < 25 → ∀ b, b < 25 → a ≠ b → (TMd a).2.1 ≠ (TMd b).2.1 := by decide +kernel
theorem tyMd_ok : ∀ k, k < 25 → parseFieldDescriptor (TMd k).2.2.1 = some (tyMd k) := by decide +kernel
abbrev vwCl : List vw_C := [("PlayStates$Board", TBd, 2), ("PlayStates$Clock", TCk, 3), ("PlayStates$Person", TPn, 5), ("PlayStates$RowTable", TRt, 5), ("PlayStates$StateReader", TSr, 6), ("PlayStates", TPS, 10), ("PlayStatesModel", TMd, 25)]
/-- the words of the tables that last -/
def GW : List Cond := lw_tbl.filter goodWord
theorem gT {w : Cond} (i : Nat) (h : tables_1[i]? = some w) (hg : goodWord w = true) : w ∈ GW := List.mem_filter.mpr ⟨List.mem_append_right _ (List.mem_of_getElem? h), hg⟩
theorem gP {w : Cond} (i : Nat) (h : (k2_sels lw_privs)[i]? = some w) (hg : goodWord w = true) : w ∈ GW := List.mem_filter.mpr ⟨List.mem_append_left _ (List.mem_of_getElem? h), hg⟩
theorem GW_in : ∀ w ∈ GW, w ∈ lw_tbl := fun w h => (List.mem_filter.mp h).1
theorem gWm {w : Cond} (h : w ∈ GW) : w ∈ GW ∧ ((w.onTables && w.keeps) = true ∨ ∃ ty, w = .arrayClass ty) := ⟨h, good_of_word (List.mem_filter.mp h).2⟩
theorem gC {cd : Cond} (h5 : cd ∈ GW) : GoodIn GW (cd :: GW) := fun w hw => by
  rcases List.mem_cons.mp hw with rfl | h
  · exact gWm h5
  · exact gWm h
theorem gV {own C : String} {idx : Nat} {y : MethodName} {cd : Cond} (h1 : Cond.methodLink own idx y ∈ GW) (h2 : Cond.instanceMethod y ∈ GW) (h3 : Cond.selects C y y ∈ GW) (h4 : Cond.initialized C ∈ GW) (h5 : cd ∈ GW) : GoodIn GW (wsV own idx C y (cd :: GW)) := fun w hw => by
  rcases List.mem_append.mp hw with h | h
  · rcases List.mem_cons.mp h with rfl | h
    · exact gWm h1
    rcases List.mem_cons.mp h with rfl | h
    · exact gWm h2
    rcases List.mem_cons.mp h with rfl | h
    · exact gWm h3
    rcases List.mem_cons.mp h with rfl | h
    · exact gWm h4
    · exact absurd h List.not_mem_nil
  · exact gC h5 w h
theorem gS {own : String} {idx : Nat} {y : MethodName} {cd : Cond} (h1 : Cond.methodLink own idx y ∈ GW) (h2 : Cond.static y ∈ GW) (h4 : Cond.initialized own ∈ GW) (h5 : cd ∈ GW) : GoodIn GW (wsS own idx y (cd :: GW)) := fun w hw => by
  rcases List.mem_append.mp hw with h | h
  · rcases List.mem_cons.mp h with rfl | h
    · exact gWm h1
    rcases List.mem_cons.mp h with rfl | h
    · exact gWm h2
    rcases List.mem_cons.mp h with rfl | h
    · exact gWm h4
    · exact absurd h List.not_mem_nil
  · exact gC h5 w h
def nwF : List (String × Nat × String × String × String × String) := [("PlayStates", 102, "PlayStates$RowTable", "place", "[I", "PlayStates"), ("PlayStates", 118, "PlayStates$RowTable", "told", "[I", "PlayStates"), ("PlayStates", 105, "PlayStates$RowTable", "before", "[I", "PlayStates"), ("PlayStates", 112, "PlayStates$RowTable", "behind", "[I", "PlayStates"), ("PlayStates", 197, "PlayStates$RowTable", "count", "I", "PlayStates"), ("PlayStates", 125, "PlayStates$Board", "entries", "[I", "PlayStates"), ("PlayStates", 128, "PlayStates$Board", "markBits", "[I", "PlayStates"), ("PlayStates", 72, "PlayStates$Person", "number", "I", "PlayStates"), ("PlayStates", 99, "PlayStates$Person", "board", "LPlayStates$Board;", "PlayStates"), ("PlayStates", 142, "PlayStates$Person", "clock", "LPlayStates$Clock;", "PlayStates"), ("PlayStates", 93, "PlayStates$Person", "present", "I", "PlayStates"), ("PlayStates", 139, "PlayStates$Person", "helpCount", "I", "PlayStates")]
def nwM : List (String × Nat × MethodName × String) := [("PlayStates$Person", 24, ⟨"PlayStates$Clock", "<init>", "()V"⟩, "PlayStates"), ("PlayStates$StateReader", 51, ⟨"PlayStates", "isOneToNine", "(I)Z"⟩, "PlayStates")]
abbrev y_PS_init : MethodName := ⟨"PlayStates", "<init>", "(I)V"⟩
abbrev w_PS_init : List Cond := Cond.code y_PS_init prog_1_method_1_code 2 none :: GW
abbrev y_PS_person : MethodName := ⟨"PlayStates", "person", "()I"⟩
abbrev w_PS_person : List Cond := Cond.code y_PS_person prog_1_method_2_code 1 ((some .int)) :: GW
abbrev y_PS_enter : MethodName := ⟨"PlayStates", "enter", "(III)I"⟩
abbrev w_PS_enter : List Cond := Cond.code y_PS_enter prog_1_method_3_code 5 ((some .int)) :: GW
abbrev y_PS_mark : MethodName := ⟨"PlayStates", "mark", "(IIIZ)I"⟩
abbrev w_PS_mark : List Cond := Cond.code y_PS_mark prog_1_method_4_code 6 ((some .int)) :: GW
abbrev y_PS_undo : MethodName := ⟨"PlayStates", "undo", "(I)I"⟩
abbrev w_PS_undo : List Cond := Cond.code y_PS_undo prog_1_method_5_code 4 ((some .int)) :: GW
abbrev y_PS_redo : MethodName := ⟨"PlayStates", "redo", "(II)I"⟩
abbrev w_PS_redo : List Cond := Cond.code y_PS_redo prog_1_method_6_code 5 ((some .int)) :: GW
abbrev y_PS_branches : MethodName := ⟨"PlayStates", "branches", "(I)I"⟩
abbrev w_PS_branches : List Cond := Cond.code y_PS_branches prog_1_method_7_code 3 ((some .int)) :: GW
abbrev y_PS_at : MethodName := ⟨"PlayStates", "at", "(II)I"⟩
abbrev w_PS_at : List Cond := Cond.code y_PS_at prog_1_method_8_code 4 ((some .int)) :: GW
abbrev y_PS_marks : MethodName := ⟨"PlayStates", "marks", "(II)I"⟩
abbrev w_PS_marks : List Cond := Cond.code y_PS_marks prog_1_method_9_code 4 ((some .int)) :: GW
abbrev y_PS_truth : MethodName := ⟨"PlayStates", "truth", "(II)Z"⟩
abbrev w_PS_truth : List Cond := Cond.code y_PS_truth prog_1_method_10_code 3 ((some .boolean)) :: GW
abbrev y_PS_wrong : MethodName := ⟨"PlayStates", "wrong", "(I)I"⟩
abbrev w_PS_wrong : List Cond := Cond.code y_PS_wrong prog_1_method_11_code 5 ((some .int)) :: GW
abbrev y_PS_help : MethodName := ⟨"PlayStates", "help", "(I)I"⟩
abbrev w_PS_help : List Cond := Cond.code y_PS_help prog_1_method_12_code 4 ((some .int)) :: GW
abbrev y_PS_helps : MethodName := ⟨"PlayStates", "helps", "(I)I"⟩
abbrev w_PS_helps : List Cond := Cond.code y_PS_helps prog_1_method_13_code 3 ((some .int)) :: GW
abbrev y_PS_timer : MethodName := ⟨"PlayStates", "timer", "(IJZ)Z"⟩
abbrev w_PS_timer : List Cond := Cond.code y_PS_timer prog_1_method_14_code 6 ((some .boolean)) :: GW
abbrev y_PS_time : MethodName := ⟨"PlayStates", "time", "(IJ)J"⟩
abbrev w_PS_time : List Cond := Cond.code y_PS_time prog_1_method_15_code 5 ((some .long)) :: GW
abbrev y_PS_join : MethodName := ⟨"PlayStates", "join", "(II)I"⟩
abbrev w_PS_join : List Cond := Cond.code y_PS_join prog_1_method_16_code 6 ((some .int)) :: GW
abbrev y_PS_save : MethodName := ⟨"PlayStates", "save", "(II)I"⟩
abbrev w_PS_save : List Cond := Cond.code y_PS_save prog_1_method_17_code 7 ((some .int)) :: GW
abbrev y_PS_unit : MethodName := ⟨"PlayStates", "unit", "(I)Z"⟩
abbrev w_PS_unit : List Cond := Cond.code y_PS_unit prog_1_method_18_code 2 ((some .boolean)) :: GW
abbrev y_PS_load : MethodName := ⟨"PlayStates", "load", "()I"⟩
abbrev w_PS_load : List Cond := Cond.code y_PS_load prog_1_method_19_code 4 ((some .int)) :: GW
abbrev y_PS_rows : MethodName := ⟨"PlayStates", "rows", "()I"⟩
abbrev w_PS_rows : List Cond := Cond.code y_PS_rows prog_1_method_20_code 1 ((some .int)) :: GW
abbrev y_PS_isZeroToNine : MethodName := ⟨"PlayStates", "isZeroToNine", "(I)Z"⟩
abbrev w_PS_isZeroToNine : List Cond := Cond.code y_PS_isZeroToNine prog_1_method_21_code 1 ((some .boolean)) :: GW
abbrev y_PS_isOneToNine : MethodName := ⟨"PlayStates", "isOneToNine", "(I)Z"⟩
abbrev w_PS_isOneToNine : List Cond := Cond.code y_PS_isOneToNine prog_1_method_22_code 1 ((some .boolean)) :: GW
abbrev y_PS_isWrong : MethodName := ⟨"PlayStates", "isWrong", "(II)Z"⟩
abbrev w_PS_isWrong : List Cond := Cond.code y_PS_isWrong prog_1_method_23_code 2 ((some .boolean)) :: GW
abbrev y_PS_isPlace : MethodName := ⟨"PlayStates", "isPlace", "(I)Z"⟩
abbrev w_PS_isPlace : List Cond := Cond.code y_PS_isPlace prog_1_method_24_code 2 ((some .boolean)) :: GW
abbrev y_PS_find : MethodName := ⟨"PlayStates", "find", "(I)LPlayStates$Person;"⟩
abbrev w_PS_find : List Cond := Cond.code y_PS_find prog_1_method_25_code 2 ((some (.object "PlayStates$Person"))) :: GW
abbrev y_PS_hasRoomForPerson : MethodName := ⟨"PlayStates", "hasRoomForPerson", "()Z"⟩
abbrev w_PS_hasRoomForPerson : List Cond := Cond.code y_PS_hasRoomForPerson prog_1_method_26_code 1 ((some .boolean)) :: GW
abbrev y_PS_addPerson : MethodName := ⟨"PlayStates", "addPerson", "()LPlayStates$Person;"⟩
abbrev w_PS_addPerson : List Cond := Cond.code y_PS_addPerson prog_1_method_27_code 2 ((some (.object "PlayStates$Person"))) :: GW
abbrev y_PS_tell : MethodName := ⟨"PlayStates", "tell", "(LPlayStates$Person;II)I"⟩
abbrev w_PS_tell : List Cond := Cond.code y_PS_tell prog_1_method_28_code 5 ((some .int)) :: GW
abbrev y_PS_findPlaceToHelp : MethodName := ⟨"PlayStates", "findPlaceToHelp", "(LPlayStates$Board;)I"⟩
abbrev w_PS_findPlaceToHelp : List Cond := Cond.code y_PS_findPlaceToHelp prog_1_method_29_code 3 ((some .int)) :: GW
abbrev y_PS_chooseJoining : MethodName := ⟨"PlayStates", "chooseJoining", "(II)V"⟩
abbrev w_PS_chooseJoining : List Cond := Cond.code y_PS_chooseJoining prog_1_method_30_code 6 none :: GW
abbrev y_PS_countJoined : MethodName := ⟨"PlayStates", "countJoined", "()I"⟩
abbrev w_PS_countJoined : List Cond := Cond.code y_PS_countJoined prog_1_method_31_code 5 ((some .int)) :: GW
abbrev y_PS_tellJoined : MethodName := ⟨"PlayStates", "tellJoined", "(LPlayStates$Person;)V"⟩
abbrev w_PS_tellJoined : List Cond := Cond.code y_PS_tellJoined prog_1_method_32_code 4 none :: GW
abbrev y_PS_readUnits : MethodName := ⟨"PlayStates", "readUnits", "()I"⟩
abbrev w_PS_readUnits : List Cond := Cond.code y_PS_readUnits prog_1_method_33_code 2 ((some .int)) :: GW
abbrev y_PS_tellDraft : MethodName := ⟨"PlayStates", "tellDraft", "(LPlayStates$Person;)V"⟩
abbrev w_PS_tellDraft : List Cond := Cond.code y_PS_tellDraft prog_1_method_34_code 4 none :: GW
abbrev y_Md_init : MethodName := ⟨"PlayStatesModel", "<init>", "(I)V"⟩
abbrev w_Md_init : List Cond := Cond.code y_Md_init prog_8_method_1_code 3 none :: GW
abbrev y_Md_isPerson : MethodName := ⟨"PlayStatesModel", "isPerson", "(I)Z"⟩
abbrev w_Md_isPerson : List Cond := Cond.code y_Md_isPerson prog_8_method_3_code 2 ((some .boolean)) :: GW
abbrev y_Md_isPlace : MethodName := ⟨"PlayStatesModel", "isPlace", "(I)Z"⟩
abbrev w_Md_isPlace : List Cond := Cond.code y_Md_isPlace prog_8_method_4_code 2 ((some .boolean)) :: GW
abbrev y_Md_person : MethodName := ⟨"PlayStatesModel", "person", "()I"⟩
abbrev w_Md_person : List Cond := Cond.code y_Md_person prog_8_method_5_code 1 ((some .int)) :: GW
abbrev y_Md_newPerson : MethodName := ⟨"PlayStatesModel", "newPerson", "()I"⟩
abbrev w_Md_newPerson : List Cond := Cond.code y_Md_newPerson prog_8_method_6_code 1 ((some .int)) :: GW
abbrev y_Md_act : MethodName := ⟨"PlayStatesModel", "act", "(III)V"⟩
abbrev w_Md_act : List Cond := Cond.code y_Md_act prog_8_method_7_code 5 none :: GW
abbrev y_Md_addRow : MethodName := ⟨"PlayStatesModel", "addRow", "(III)I"⟩
abbrev w_Md_addRow : List Cond := Cond.code y_Md_addRow prog_8_method_8_code 4 ((some .int)) :: GW
abbrev y_Md_enter : MethodName := ⟨"PlayStatesModel", "enter", "(III)I"⟩
abbrev w_Md_enter : List Cond := Cond.code y_Md_enter prog_8_method_9_code 4 ((some .int)) :: GW
abbrev y_Md_mark : MethodName := ⟨"PlayStatesModel", "mark", "(IIIZ)I"⟩
abbrev w_Md_mark : List Cond := Cond.code y_Md_mark prog_8_method_10_code 6 ((some .int)) :: GW
abbrev y_Md_undo : MethodName := ⟨"PlayStatesModel", "undo", "(I)I"⟩
abbrev w_Md_undo : List Cond := Cond.code y_Md_undo prog_8_method_11_code 4 ((some .int)) :: GW
abbrev y_Md_branch : MethodName := ⟨"PlayStatesModel", "branch", "(II)I"⟩
abbrev w_Md_branch : List Cond := Cond.code y_Md_branch prog_8_method_12_code 5 ((some .int)) :: GW
abbrev y_Md_redo : MethodName := ⟨"PlayStatesModel", "redo", "(II)I"⟩
abbrev w_Md_redo : List Cond := Cond.code y_Md_redo prog_8_method_13_code 4 ((some .int)) :: GW
abbrev y_Md_branches : MethodName := ⟨"PlayStatesModel", "branches", "(I)I"⟩
abbrev w_Md_branches : List Cond := Cond.code y_Md_branches prog_8_method_14_code 2 ((some .int)) :: GW
abbrev y_Md_at : MethodName := ⟨"PlayStatesModel", "at", "(II)I"⟩
abbrev w_Md_at : List Cond := Cond.code y_Md_at prog_8_method_15_code 3 ((some .int)) :: GW
abbrev y_Md_marks : MethodName := ⟨"PlayStatesModel", "marks", "(II)I"⟩
abbrev w_Md_marks : List Cond := Cond.code y_Md_marks prog_8_method_16_code 3 ((some .int)) :: GW
abbrev y_Md_truth : MethodName := ⟨"PlayStatesModel", "truth", "(II)Z"⟩
abbrev w_Md_truth : List Cond := Cond.code y_Md_truth prog_8_method_17_code 3 ((some .boolean)) :: GW
abbrev y_Md_wrong : MethodName := ⟨"PlayStatesModel", "wrong", "(I)I"⟩
abbrev w_Md_wrong : List Cond := Cond.code y_Md_wrong prog_8_method_18_code 5 ((some .int)) :: GW
abbrev y_Md_help : MethodName := ⟨"PlayStatesModel", "help", "(I)I"⟩
abbrev w_Md_help : List Cond := Cond.code y_Md_help prog_8_method_19_code 3 ((some .int)) :: GW
abbrev y_Md_helps : MethodName := ⟨"PlayStatesModel", "helps", "(I)I"⟩
abbrev w_Md_helps : List Cond := Cond.code y_Md_helps prog_8_method_20_code 2 ((some .int)) :: GW
abbrev y_Md_mayTell : MethodName := ⟨"PlayStatesModel", "mayTell", "(IJ)Z"⟩
abbrev w_Md_mayTell : List Cond := Cond.code y_Md_mayTell prog_8_method_21_code 4 ((some .boolean)) :: GW
abbrev y_Md_countedTo : MethodName := ⟨"PlayStatesModel", "countedTo", "(IJ)J"⟩
abbrev w_Md_countedTo : List Cond := Cond.code y_Md_countedTo prog_8_method_22_code 4 ((some .long)) :: GW
abbrev y_Md_timer : MethodName := ⟨"PlayStatesModel", "timer", "(IJZ)Z"⟩
abbrev w_Md_timer : List Cond := Cond.code y_Md_timer prog_8_method_23_code 5 ((some .boolean)) :: GW
abbrev y_Md_time : MethodName := ⟨"PlayStatesModel", "time", "(IJ)J"⟩
abbrev w_Md_time : List Cond := Cond.code y_Md_time prog_8_method_24_code 4 ((some .long)) :: GW
abbrev y_Md_walk : MethodName := ⟨"PlayStatesModel", "walk", "(I)V"⟩
abbrev w_Md_walk : List Cond := Cond.code y_Md_walk prog_8_method_25_code 3 none :: GW
abbrev y_Md_changes : MethodName := ⟨"PlayStatesModel", "changes", "(I)Z"⟩
abbrev w_Md_changes : List Cond := Cond.code y_Md_changes prog_8_method_26_code 5 ((some .boolean)) :: GW
abbrev y_Md_join : MethodName := ⟨"PlayStatesModel", "join", "(II)I"⟩
abbrev w_Md_join : List Cond := Cond.code y_Md_join prog_8_method_27_code 7 ((some .int)) :: GW
abbrev y_Md_say : MethodName := ⟨"PlayStatesModel", "say", "(I)V"⟩
abbrev w_Md_say : List Cond := Cond.code y_Md_say prog_8_method_28_code 2 none :: GW
abbrev y_Md_save : MethodName := ⟨"PlayStatesModel", "save", "(II)I"⟩
abbrev w_Md_save : List Cond := Cond.code y_Md_save prog_8_method_29_code 7 ((some .int)) :: GW
abbrev y_Md_unit : MethodName := ⟨"PlayStatesModel", "unit", "(I)Z"⟩
abbrev w_Md_unit : List Cond := Cond.code y_Md_unit prog_8_method_30_code 2 ((some .boolean)) :: GW
abbrev y_Md_byteAt : MethodName := ⟨"PlayStatesModel", "byteAt", "(I)I"⟩
abbrev w_Md_byteAt : List Cond := Cond.code y_Md_byteAt prog_8_method_31_code 2 ((some .int)) :: GW
abbrev y_Md_digitAt : MethodName := ⟨"PlayStatesModel", "digitAt", "(I)I"⟩
abbrev w_Md_digitAt : List Cond := Cond.code y_Md_digitAt prog_8_method_32_code 2 ((some .int)) :: GW
abbrev y_Md_parse : MethodName := ⟨"PlayStatesModel", "parse", "()I"⟩
abbrev w_Md_parse : List Cond := Cond.code y_Md_parse prog_8_method_33_code 4 ((some .int)) :: GW
abbrev y_Md_load : MethodName := ⟨"PlayStatesModel", "load", "()I"⟩
abbrev w_Md_load : List Cond := Cond.code y_Md_load prog_8_method_34_code 6 ((some .int)) :: GW
abbrev y_Md_rows : MethodName := ⟨"PlayStatesModel", "rows", "()I"⟩
abbrev w_Md_rows : List Cond := Cond.code y_Md_rows prog_8_method_35_code 1 ((some .int)) :: GW
abbrev y_Bd_init : MethodName := ⟨"PlayStates$Board", "<init>", "(I)V"⟩
abbrev w_Bd_init : List Cond := Cond.code y_Bd_init prog_2_method_1_code 2 none :: GW
abbrev y_Bd_clear : MethodName := ⟨"PlayStates$Board", "clear", "()V"⟩
abbrev w_Bd_clear : List Cond := Cond.code y_Bd_clear prog_2_method_2_code 1 none :: GW
abbrev y_Bd_hasMark : MethodName := ⟨"PlayStates$Board", "hasMark", "(II)Z"⟩
abbrev w_Bd_hasMark : List Cond := Cond.code y_Bd_hasMark prog_2_method_3_code 3 ((some .boolean)) :: GW
abbrev y_Bd_asItIs : MethodName := ⟨"PlayStates$Board", "asItIs", "(II)I"⟩
abbrev w_Bd_asItIs : List Cond := Cond.code y_Bd_asItIs prog_2_method_4_code 4 ((some .int)) :: GW
abbrev y_Bd_put : MethodName := ⟨"PlayStates$Board", "put", "(II)V"⟩
abbrev w_Bd_put : List Cond := Cond.code y_Bd_put prog_2_method_5_code 3 none :: GW
abbrev y_Bd_countRowsNeeded : MethodName := ⟨"PlayStates$Board", "countRowsNeeded", "()I"⟩
abbrev w_Bd_countRowsNeeded : List Cond := Cond.code y_Bd_countRowsNeeded prog_2_method_6_code 3 ((some .int)) :: GW
abbrev y_Bd_textSize : MethodName := ⟨"PlayStates$Board", "textSize", "(I)I"⟩
abbrev w_Bd_textSize : List Cond := Cond.code y_Bd_textSize prog_2_method_7_code 3 ((some .int)) :: GW
abbrev y_Bd_textByte : MethodName := ⟨"PlayStates$Board", "textByte", "(II)I"⟩
abbrev w_Bd_textByte : List Cond := Cond.code y_Bd_textByte prog_2_method_8_code 3 ((some .int)) :: GW
abbrev y_Bd_findMark : MethodName := ⟨"PlayStates$Board", "findMark", "(II)I"⟩
abbrev w_Bd_findMark : List Cond := Cond.code y_Bd_findMark prog_2_method_9_code 5 ((some .int)) :: GW
abbrev y_Ck_init : MethodName := ⟨"PlayStates$Clock", "<init>", "()V"⟩
abbrev w_Ck_init : List Cond := Cond.code y_Ck_init prog_3_method_1_code 1 none :: GW
abbrev y_Ck_mayBeTold : MethodName := ⟨"PlayStates$Clock", "mayBeTold", "(J)Z"⟩
abbrev w_Ck_mayBeTold : List Cond := Cond.code y_Ck_mayBeTold prog_3_method_2_code 3 ((some .boolean)) :: GW
abbrev y_Ck_countUpTo : MethodName := ⟨"PlayStates$Clock", "countUpTo", "(J)J"⟩
abbrev w_Ck_countUpTo : List Cond := Cond.code y_Ck_countUpTo prog_3_method_3_code 3 ((some .long)) :: GW
abbrev y_Ck_tellTime : MethodName := ⟨"PlayStates$Clock", "tellTime", "(JZ)V"⟩
abbrev w_Ck_tellTime : List Cond := Cond.code y_Ck_tellTime prog_3_method_4_code 4 none :: GW
abbrev y_Pn_init : MethodName := ⟨"PlayStates$Person", "<init>", "(II)V"⟩
abbrev w_Pn_init : List Cond := Cond.code y_Pn_init prog_4_method_1_code 3 none :: GW
abbrev y_Rt_init : MethodName := ⟨"PlayStates$RowTable", "<init>", "()V"⟩
abbrev w_Rt_init : List Cond := Cond.code y_Rt_init prog_5_method_1_code 1 none :: GW
abbrev y_Rt_holds : MethodName := ⟨"PlayStates$RowTable", "holds", "(I)Z"⟩
abbrev w_Rt_holds : List Cond := Cond.code y_Rt_holds prog_5_method_2_code 2 ((some .boolean)) :: GW
abbrev y_Rt_hasRoomFor : MethodName := ⟨"PlayStates$RowTable", "hasRoomFor", "(I)Z"⟩
abbrev w_Rt_hasRoomFor : List Cond := Cond.code y_Rt_hasRoomFor prog_5_method_3_code 2 ((some .boolean)) :: GW
abbrev y_Rt_add : MethodName := ⟨"PlayStates$RowTable", "add", "(IIII)I"⟩
abbrev w_Rt_add : List Cond := Cond.code y_Rt_add prog_5_method_4_code 6 ((some .int)) :: GW
abbrev y_Rt_countBranches : MethodName := ⟨"PlayStates$RowTable", "countBranches", "(I)I"⟩
abbrev w_Rt_countBranches : List Cond := Cond.code y_Rt_countBranches prog_5_method_5_code 4 ((some .int)) :: GW
abbrev y_Rt_findBranch : MethodName := ⟨"PlayStates$RowTable", "findBranch", "(II)I"⟩
abbrev w_Rt_findBranch : List Cond := Cond.code y_Rt_findBranch prog_5_method_6_code 5 ((some .int)) :: GW
abbrev y_Sr_init : MethodName := ⟨"PlayStates$StateReader", "<init>", "(LPlayStates$Board;I)V"⟩
abbrev w_Sr_init : List Cond := Cond.code y_Sr_init prog_6_method_1_code 3 none :: GW
abbrev y_Sr_begin : MethodName := ⟨"PlayStates$StateReader", "begin", "()V"⟩
abbrev w_Sr_begin : List Cond := Cond.code y_Sr_begin prog_6_method_2_code 1 none :: GW
abbrev y_Sr_accepts : MethodName := ⟨"PlayStates$StateReader", "accepts", "(I)Z"⟩
abbrev w_Sr_accepts : List Cond := Cond.code y_Sr_accepts prog_6_method_3_code 2 ((some .boolean)) :: GW
abbrev y_Sr_isWhole : MethodName := ⟨"PlayStates$StateReader", "isWhole", "()Z"⟩
abbrev w_Sr_isWhole : List Cond := Cond.code y_Sr_isWhole prog_6_method_4_code 1 ((some .boolean)) :: GW
abbrev y_Sr_acceptsOpening : MethodName := ⟨"PlayStates$StateReader", "acceptsOpening", "()Z"⟩
abbrev w_Sr_acceptsOpening : List Cond := Cond.code y_Sr_acceptsOpening prog_6_method_5_code 1 ((some .boolean)) :: GW
abbrev y_Sr_acceptsClosing : MethodName := ⟨"PlayStates$StateReader", "acceptsClosing", "()Z"⟩
abbrev w_Sr_acceptsClosing : List Cond := Cond.code y_Sr_acceptsClosing prog_6_method_6_code 1 ((some .boolean)) :: GW
abbrev y_Sr_acceptsMark : MethodName := ⟨"PlayStates$StateReader", "acceptsMark", "(I)Z"⟩
abbrev w_Sr_acceptsMark : List Cond := Cond.code y_Sr_acceptsMark prog_6_method_7_code 2 ((some .boolean)) :: GW
abbrev y_Sr_acceptsEntry : MethodName := ⟨"PlayStates$StateReader", "acceptsEntry", "(I)Z"⟩
abbrev w_Sr_acceptsEntry : List Cond := Cond.code y_Sr_acceptsEntry prog_6_method_8_code 3 ((some .boolean)) :: GW
abbrev y_Lw_cell : MethodName := ⟨"PlayStatesLaw", "cell", "([II)I"⟩
abbrev w_Lw_cell : List Cond := Cond.code y_Lw_cell method_2_code 2 ((some .int)) :: GW
abbrev y_Jn_bitCount : MethodName := ⟨"java/lang/Integer", "bitCount", "(I)I"⟩
abbrev w_Jn_bitCount : List Cond := Cond.code y_Jn_bitCount prog_9_method_49_code 1 ((some .int)) :: GW
abbrev y_Jm_max : MethodName := ⟨"java/lang/Math", "max", "(II)I"⟩
abbrev w_Jm_max : List Cond := Cond.code y_Jm_max prog_10_method_65_code 2 ((some .int)) :: GW
abbrev y_Jm_min : MethodName := ⟨"java/lang/Math", "min", "(II)I"⟩
abbrev w_Jm_min : List Cond := Cond.code y_Jm_min prog_10_method_69_code 2 ((some .int)) :: GW
abbrev y_Ja_fill : MethodName := ⟨"java/util/Arrays", "fill", "([II)V"⟩
abbrev w_Ja_fill : List Cond := Cond.code y_Ja_fill prog_11_method_103_code 4 none :: GW
theorem iw_0 : ∀ w ∈ u_ws "PlayStates$Board" TBd 2, w ∈ GW := by
  show ∀ w ∈ [u_lay "PlayStates$Board" TBd 0, u_lay "PlayStates$Board" TBd 1], w ∈ GW
  exact List.forall_mem_cons.mpr ⟨gT 65 (by decide +kernel) (by decide +kernel), List.forall_mem_cons.mpr ⟨gT 67 (by decide +kernel) (by decide +kernel), fun _ h => absurd h List.not_mem_nil⟩⟩
theorem iw_1 : ∀ w ∈ u_ws "PlayStates$Clock" TCk 3, w ∈ GW := by
  show ∀ w ∈ [u_lay "PlayStates$Clock" TCk 0, u_lay "PlayStates$Clock" TCk 1, u_lay "PlayStates$Clock" TCk 2], w ∈ GW
  exact List.forall_mem_cons.mpr ⟨gT 155 (by decide +kernel) (by decide +kernel), List.forall_mem_cons.mpr ⟨gT 157 (by decide +kernel) (by decide +kernel), List.forall_mem_cons.mpr ⟨gT 159 (by decide +kernel) (by decide +kernel), fun _ h => absurd h List.not_mem_nil⟩⟩⟩
theorem iw_2 : ∀ w ∈ u_ws "PlayStates$Person" TPn 5, w ∈ GW := by
  show ∀ w ∈ [u_lay "PlayStates$Person" TPn 0, u_lay "PlayStates$Person" TPn 1, u_lay "PlayStates$Person" TPn 2, u_lay "PlayStates$Person" TPn 3, u_lay "PlayStates$Person" TPn 4], w ∈ GW
  exact List.forall_mem_cons.mpr ⟨gT 171 (by decide +kernel) (by decide +kernel), List.forall_mem_cons.mpr ⟨gT 173 (by decide +kernel) (by decide +kernel), List.forall_mem_cons.mpr ⟨gT 175 (by decide +kernel) (by decide +kernel), List.forall_mem_cons.mpr ⟨gT 177 (by decide +kernel) (by decide +kernel), List.forall_mem_cons.mpr ⟨gT 179 (by decide +kernel) (by decide +kernel), fun _ h => absurd h List.not_mem_nil⟩⟩⟩⟩⟩
theorem iw_3 : ∀ w ∈ u_ws "PlayStates$RowTable" TRt 5, w ∈ GW := by
  show ∀ w ∈ [u_lay "PlayStates$RowTable" TRt 0, u_lay "PlayStates$RowTable" TRt 1, u_lay "PlayStates$RowTable" TRt 2, u_lay "PlayStates$RowTable" TRt 3, u_lay "PlayStates$RowTable" TRt 4], w ∈ GW
  exact List.forall_mem_cons.mpr ⟨gT 43 (by decide +kernel) (by decide +kernel), List.forall_mem_cons.mpr ⟨gT 45 (by decide +kernel) (by decide +kernel), List.forall_mem_cons.mpr ⟨gT 47 (by decide +kernel) (by decide +kernel), List.forall_mem_cons.mpr ⟨gT 49 (by decide +kernel) (by decide +kernel), List.forall_mem_cons.mpr ⟨gT 51 (by decide +kernel) (by decide +kernel), fun _ h => absurd h List.not_mem_nil⟩⟩⟩⟩⟩
theorem iw_4 : ∀ w ∈ u_ws "PlayStates$StateReader" TSr 6, w ∈ GW := by
  show ∀ w ∈ [u_lay "PlayStates$StateReader" TSr 0, u_lay "PlayStates$StateReader" TSr 1, u_lay "PlayStates$StateReader" TSr 2, u_lay "PlayStates$StateReader" TSr 3, u_lay "PlayStates$StateReader" TSr 4, u_lay "PlayStates$StateReader" TSr 5], w ∈ GW
  exact List.forall_mem_cons.mpr ⟨gT 83 (by decide +kernel) (by decide +kernel), List.forall_mem_cons.mpr ⟨gT 85 (by decide +kernel) (by decide +kernel), List.forall_mem_cons.mpr ⟨gT 87 (by decide +kernel) (by decide +kernel), List.forall_mem_cons.mpr ⟨gT 89 (by decide +kernel) (by decide +kernel), List.forall_mem_cons.mpr ⟨gT 91 (by decide +kernel) (by decide +kernel), List.forall_mem_cons.mpr ⟨gT 93 (by decide +kernel) (by decide +kernel), fun _ h => absurd h List.not_mem_nil⟩⟩⟩⟩⟩⟩
theorem iw_5 : ∀ w ∈ u_ws "PlayStates" TPS 10, w ∈ GW := by
  show ∀ w ∈ [u_lay "PlayStates" TPS 0, u_lay "PlayStates" TPS 1, u_lay "PlayStates" TPS 2, u_lay "PlayStates" TPS 3, u_lay "PlayStates" TPS 4, u_lay "PlayStates" TPS 5, u_lay "PlayStates" TPS 6, u_lay "PlayStates" TPS 7, u_lay "PlayStates" TPS 8, u_lay "PlayStates" TPS 9], w ∈ GW
  exact List.forall_mem_cons.mpr ⟨gT 106 (by decide +kernel) (by decide +kernel), List.forall_mem_cons.mpr ⟨gT 108 (by decide +kernel) (by decide +kernel), List.forall_mem_cons.mpr ⟨gT 110 (by decide +kernel) (by decide +kernel), List.forall_mem_cons.mpr ⟨gT 112 (by decide +kernel) (by decide +kernel), List.forall_mem_cons.mpr ⟨gT 114 (by decide +kernel) (by decide +kernel), List.forall_mem_cons.mpr ⟨gT 116 (by decide +kernel) (by decide +kernel), List.forall_mem_cons.mpr ⟨gT 118 (by decide +kernel) (by decide +kernel), List.forall_mem_cons.mpr ⟨gT 120 (by decide +kernel) (by decide +kernel), List.forall_mem_cons.mpr ⟨gT 122 (by decide +kernel) (by decide +kernel), List.forall_mem_cons.mpr ⟨gT 124 (by decide +kernel) (by decide +kernel), fun _ h => absurd h List.not_mem_nil⟩⟩⟩⟩⟩⟩⟩⟩⟩⟩
theorem iw_6 : ∀ w ∈ u_ws "PlayStatesModel" TMd 25, w ∈ GW := by
  show ∀ w ∈ [u_lay "PlayStatesModel" TMd 0, u_lay "PlayStatesModel" TMd 1, u_lay "PlayStatesModel" TMd 2, u_lay "PlayStatesModel" TMd 3, u_lay "PlayStatesModel" TMd 4, u_lay "PlayStatesModel" TMd 5, u_lay "PlayStatesModel" TMd 6, u_lay "PlayStatesModel" TMd 7, u_lay "PlayStatesModel" TMd 8, u_lay "PlayStatesModel" TMd 9, u_lay "PlayStatesModel" TMd 10, u_lay "PlayStatesModel" TMd 11, u_lay "PlayStatesModel" TMd 12, u_lay "PlayStatesModel" TMd 13, u_lay "PlayStatesModel" TMd 14, u_lay "PlayStatesModel" TMd 15, u_lay "PlayStatesModel" TMd 16, u_lay "PlayStatesModel" TMd 17, u_lay "PlayStatesModel" TMd 18, u_lay "PlayStatesModel" TMd 19, u_lay "PlayStatesModel" TMd 20, u_lay "PlayStatesModel" TMd 21, u_lay "PlayStatesModel" TMd 22, u_lay "PlayStatesModel" TMd 23, u_lay "PlayStatesModel" TMd 24], w ∈ GW
  exact List.forall_mem_cons.mpr ⟨gT 442 (by decide +kernel) (by decide +kernel), List.forall_mem_cons.mpr ⟨gT 444 (by decide +kernel) (by decide +kernel), List.forall_mem_cons.mpr ⟨gT 446 (by decide +kernel) (by decide +kernel), List.forall_mem_cons.mpr ⟨gT 448 (by decide +kernel) (by decide +kernel), List.forall_mem_cons.mpr ⟨gT 450 (by decide +kernel) (by decide +kernel), List.forall_mem_cons.mpr ⟨gT 452 (by decide +kernel) (by decide +kernel), List.forall_mem_cons.mpr ⟨gT 454 (by decide +kernel) (by decide +kernel), List.forall_mem_cons.mpr ⟨gT 456 (by decide +kernel) (by decide +kernel), List.forall_mem_cons.mpr ⟨gT 458 (by decide +kernel) (by decide +kernel), List.forall_mem_cons.mpr ⟨gT 460 (by decide +kernel) (by decide +kernel), List.forall_mem_cons.mpr ⟨gT 462 (by decide +kernel) (by decide +kernel), List.forall_mem_cons.mpr ⟨gT 464 (by decide +kernel) (by decide +kernel), List.forall_mem_cons.mpr ⟨gT 466 (by decide +kernel) (by decide +kernel), List.forall_mem_cons.mpr ⟨gT 468 (by decide +kernel) (by decide +kernel), List.forall_mem_cons.mpr ⟨gT 470 (by decide +kernel) (by decide +kernel), List.forall_mem_cons.mpr ⟨gT 472 (by decide +kernel) (by decide +kernel), List.forall_mem_cons.mpr ⟨gT 474 (by decide +kernel) (by decide +kernel), List.forall_mem_cons.mpr ⟨gT 476 (by decide +kernel) (by decide +kernel), List.forall_mem_cons.mpr ⟨gT 478 (by decide +kernel) (by decide +kernel), List.forall_mem_cons.mpr ⟨gT 480 (by decide +kernel) (by decide +kernel), List.forall_mem_cons.mpr ⟨gT 482 (by decide +kernel) (by decide +kernel), List.forall_mem_cons.mpr ⟨gT 484 (by decide +kernel) (by decide +kernel), List.forall_mem_cons.mpr ⟨gT 486 (by decide +kernel) (by decide +kernel), List.forall_mem_cons.mpr ⟨gT 488 (by decide +kernel) (by decide +kernel), List.forall_mem_cons.mpr ⟨gT 490 (by decide +kernel) (by decide +kernel), fun _ h => absurd h List.not_mem_nil⟩⟩⟩⟩⟩⟩⟩⟩⟩⟩⟩⟩⟩⟩⟩⟩⟩⟩⟩⟩⟩⟩⟩⟩⟩
end
section
/-! base: one shape of contract for every method; its calls, its returns -/
abbrev gG : Type := va_G × (Nat → ClassId)
/-- the array classes: int[], boolean[], long[], Person[] -/
def tyL (G : gG) : List (ClassId × FieldType) := [(G.2 0, .int), (G.2 1, .boolean), (G.2 2, .long), (G.2 3, .object "PlayStates$Person")]
/-- private members of nest mates -/
def nW (U : State) : Prop := (∀ x ∈ nwF, va_Nw (.fieldLinkNest x.1 x.2.1 x.2.2.1 x.2.2.2.1 x.2.2.2.2.1 x.2.2.2.2.2) U) ∧ (∀ x ∈ nwM, va_Nw (.methodLinkNest x.1 x.2.1 x.2.2.1 x.2.2.2) U) ∧ va_AO "PlayStates$Person" U
theorem nW_warm {s U : State} (hW : s.WarmedH U.vm) (h : nW s) : nW U := ⟨fun x hx => va_Nw.warmF hW (h.1 x hx), fun x hx => va_Nw.warmM hW (h.2.1 x hx), va_AO.moved hW.alike h.2.2⟩
theorem nW_same {s U : State} (hv : s.vm = U.vm) (h : nW s) : nW U := ⟨fun x hx => va_Nw.same rfl hv (h.1 x hx), fun x hx => va_Nw.same rfl hv (h.2.1 x hx), va_AO.moved (by rw [hv]; exact Vm.Alike.refl _) h.2.2⟩
def kK (G : gG) (U : State) : Prop := va_K G.1 vwCl (tyL G) U ∧ nW U
theorem kK_warm {G : gG} {s U : State} (hW : s.WarmedH U.vm) (h : kK G s) : kK G U := ⟨va_K.moved hW.alike h.1, nW_warm hW h.2⟩
theorem kK_same {G : gG} {s U : State} (hv : s.vm = U.vm) (h : kK G s) : kK G U := ⟨va_K.moved (by rw [hv]; exact Vm.Alike.refl _) h.1, nW_same hv h.2⟩
/-- a method's start: its world, the tables -/
def pP (G : gG) (sz : Nat) (av : List Value) (ws : va_W) : Array Value → State → Prop := va_Pc av (fun U => U.heap.size = sz ∧ va_P G.1 vwCl ws U.heap ∧ kK G U ∧ va_D (fun _ => True) ws)
/-- a method's end whose answer is known -/
def qQ (rv : Option Value) (B : Heap → Prop) (A : Nat → Prop) : Array Value → State → Outcome → State → Prop := fun _ st oc t => oc = .returned rv ∧ B t.heap ∧ va_F A st t
/-- the world behind it -/
abbrev wB (G : gG) (ws : va_W) (A : Nat → Prop) (H : Heap) : Prop := va_P G.1 vwCl ws H ∧ va_D A ws
abbrev cN (l : Launch) (y : MethodName) (ww : List Cond) (rm : Room) (G : gG) (sz : Nat) (av : List Value) (ws : va_W) (rv : Option Value) (B : (Nat → Prop) → Heap → Prop) (mc ms : Nat) : Prop :=
  Met l y ww rm (pP G sz av ws) (qQ rv (B (va_A ws sz)) (va_A ws sz)) mc ms (va_A ws sz)
theorem cN_ofW {l : Launch} {y : MethodName} {ww : List Cond} {rm : Room} {G : gG} {sz : Nat} {av : List Value} {ws : va_W} {rv : Option Value} {B : (Nat → Prop) → Heap → Prop} {mc ms : Nat} {cc : ByteArray} {maxL : Nat} {ret : Option FieldType}
    (hy : plainName y.cls = true) (hw : ww = Cond.code y cc maxL ret :: GW) (hle : (lg_sl av).length ≤ maxL)
    (body : ∀ (p : Program) (e : Env) (s : State) (m : MethodId) (args : Array Value) (below : List Frame) (meth : Method) (c : Code) (A : Nat → Prop) (H : Heap) (locs : List Loc) (ls : Array Slot), p.tables.exec = Jvm.exec → c.code = cc → meth.sig.returnType = ret → (∀ w ∈ GW, w.before args s = true) → s.vm.findClass y.cls = some m.cls → meth.locks = false → meth.name = y.name → c.maxLocals = maxL → va_K G.1 vwCl (tyL G) s → nW s → va_P G.1 vwCl ws H → va_D A ws → (∀ q : Nat, s.heap.size ≤ q → A q) → va_S A s.heap H locs → lv_has ls maxL (lv_args 0 av) →
      W p l e rm s m args below meth c H locs 0 0 (MQ below (qQ rv (B A) A) args s mc ms A) (F0 m 0 ls [])) : cN l y ww rm G sz av ws rv B mc ms := by
  refine Met.ofW (cc := cc) (maxL := maxL) (ret := ret) hy hw ?_
  intro p e s m args below meth c s₁ Bd hml hv
  obtain ⟨rfl, hsz, hP, hK, hD0⟩ := hv
  have hts : ∀ w ∈ GW, w.before _ s = true := fun w h => atoms_spec (ws := ww) Bd.pre w (by rw [hw]; exact List.mem_cons_of_mem _ h)
  subst hsz
  have hl := lv_entry av (n := maxL) hle
  rw [lg_entry_eq]
  exact body p e s m _ below meth c (va_A ws s.heap.size) s.heap [] _ Bd.exec Bd.bytes Bd.returns hts (findClass_of_methodNamed Bd.named) Bd.notSynchronized (name_of_methodNamed Bd.named Bd.method).1 hml hK.1 hK.2 hP (hD0.self (sz := s.heap.size)) (fun q h => Or.inr h) va_S.rf hl
/-- an end whose answer comes with the world -/
def qE (B : Option Value → Heap → Prop) (A : Nat → Prop) : Array Value → State → Outcome → State → Prop := fun _ st oc t => ∃ rv, oc = .returned rv ∧ B rv t.heap ∧ va_F A st t
abbrev cE (l : Launch) (y : MethodName) (ww : List Cond) (rm : Room) (G : gG) (sz : Nat) (av : List Value) (ws : va_W) (B : Option Value → (Nat → Prop) → Heap → Prop) (mc ms : Nat) : Prop :=
  Met l y ww rm (pP G sz av ws) (qE (fun rv => B rv (va_A ws sz)) (va_A ws sz)) mc ms (va_A ws sz)
theorem cE_ofW {l : Launch} {y : MethodName} {ww : List Cond} {rm : Room} {G : gG} {sz : Nat} {av : List Value} {ws : va_W} {B : Option Value → (Nat → Prop) → Heap → Prop} {mc ms : Nat} {cc : ByteArray} {maxL : Nat} {ret : Option FieldType}
    (hy : plainName y.cls = true) (hw : ww = Cond.code y cc maxL ret :: GW) (hle : (lg_sl av).length ≤ maxL)
    (body : ∀ (p : Program) (e : Env) (s : State) (m : MethodId) (args : Array Value) (below : List Frame) (meth : Method) (c : Code) (A : Nat → Prop) (H : Heap) (locs : List Loc) (ls : Array Slot), p.tables.exec = Jvm.exec → c.code = cc → meth.sig.returnType = ret → (∀ w ∈ GW, w.before args s = true) → s.vm.findClass y.cls = some m.cls → meth.locks = false → meth.name = y.name → c.maxLocals = maxL → va_K G.1 vwCl (tyL G) s → nW s → va_P G.1 vwCl ws H → va_D A ws → (∀ q : Nat, s.heap.size ≤ q → A q) → va_S A s.heap H locs → lv_has ls maxL (lv_args 0 av) →
      W p l e rm s m args below meth c H locs 0 0 (MQ below (qE (fun rv => B rv A) A) args s mc ms A) (F0 m 0 ls [])) : cE l y ww rm G sz av ws B mc ms := by
  refine Met.ofW (cc := cc) (maxL := maxL) (ret := ret) hy hw ?_
  intro p e s m args below meth c s₁ Bd hml hv
  obtain ⟨rfl, hsz, hP, hK, hD0⟩ := hv
  have hts : ∀ w ∈ GW, w.before _ s = true := fun w h => atoms_spec (ws := ww) Bd.pre w (by rw [hw]; exact List.mem_cons_of_mem _ h)
  subst hsz
  have hl := lv_entry av (n := maxL) hle
  rw [lg_entry_eq]
  exact body p e s m _ below meth c (va_A ws s.heap.size) s.heap [] _ Bd.exec Bd.bytes Bd.returns hts (findClass_of_methodNamed Bd.named) Bd.notSynchronized (name_of_methodNamed Bd.named Bd.method).1 hml hK.1 hK.2 hP (hD0.self (sz := s.heap.size)) (fun q h => Or.inr h) va_S.rf hl
section QQ
variable {p : Program} {l : Launch} {e : Env} {R : Room} {s : State} {m : MethodId} {args : Array Value} {below : List Frame} {meth : Method} {c : Code} {H : Heap} {locs : List Loc} {cells slots : Nat} {Q : State → Prop}
variable {pc : Nat} {ls : Array Slot} {rest st0 : List Value} {a : Array Value} {A0 A1 : Nat → Prop} {H0 : Heap} {mc ms : Nat} {free : Addr → Prop}
theorem q_call {rv : Option Value} {B : Heap → Prop} (hr : va_Run p l e R s m args below meth c H locs cells slots mc ms (F0 m pc ls st0) rest (qQ rv B A1 a) free) (hS : va_S A0 H0 H locs) (hA : ∀ q, q < H.size → A1 q → A0 q) (hf : ∀ q, free q → A0 q)
    (kk : ∀ (H1 : Heap) (locs1 : List Loc), B H1 → H.size ≤ H1.size → (∀ q : Nat, q < H.size → ¬ A1 q → H1[q]? = H[q]?) → va_S A0 H0 H1 locs1 → W p l e R s m args below meth c H1 locs1 (cells + mc) (slots + ms) Q (F0 m (pc + 3) ls (rv.toList ++ rest))) : W p l e R s m args below meth c H locs cells slots Q (F0 m pc ls st0) := by
  intro T hT X
  obtain ⟨v, st₀, t, T', L, h0, X', hL, e1, e2, ⟨hv, hb, hz, hk⟩, st⟩ := hr T hT X
  cases hv
  rw [h0] at hz hk
  obtain ⟨t2, a1, b1⟩ := kk T'.heap (locs ++ L) (by rw [e1]; exact hb) (by rw [e1]; exact hz) (fun q h1 h2 => by rw [e1]; exact hk q h1 h2)
    ⟨Nat.le_trans hS.1 (by rw [e1]; exact hz), fun q h1 h2 => by rw [e1, hk q (Nat.lt_of_lt_of_le h1 hS.1) (fun z => h2 (hA q (Nat.lt_of_lt_of_le h1 hS.1) z))]; exact hS.2.1 q h1 h2, fun q hq => by
      rcases List.mem_append.mp hq with h | h
      · exact hS.2.2 q h
      · exact hf _ (hL q h)⟩ T' rfl X'
  exact ⟨t2, st t2 a1, b1⟩
theorem q_call1 {v : Value} {B : Heap → Prop} (hr : va_Run p l e R s m args below meth c H locs cells slots mc ms (F0 m pc ls st0) rest (qQ (some v) B A1 a) free) (hS : va_S A0 H0 H locs) (hA : ∀ q, q < H.size → A1 q → A0 q) (hf : ∀ q, free q → A0 q)
    (kk : ∀ (H1 : Heap) (locs1 : List Loc), B H1 → H.size ≤ H1.size → (∀ q : Nat, q < H.size → ¬ A1 q → H1[q]? = H[q]?) → va_S A0 H0 H1 locs1 → W p l e R s m args below meth c H1 locs1 (cells + mc) (slots + ms) Q (F0 m (pc + 3) ls (v :: rest))) : W p l e R s m args below meth c H locs cells slots Q (F0 m pc ls st0) := q_call hr hS hA hf kk
theorem q_call0 {B : Heap → Prop} (hr : va_Run p l e R s m args below meth c H locs cells slots mc ms (F0 m pc ls st0) rest (qQ none B A1 a) free) (hS : va_S A0 H0 H locs) (hA : ∀ q, q < H.size → A1 q → A0 q) (hf : ∀ q, free q → A0 q)
    (kk : ∀ (H1 : Heap) (locs1 : List Loc), B H1 → H.size ≤ H1.size → (∀ q : Nat, q < H.size → ¬ A1 q → H1[q]? = H[q]?) → va_S A0 H0 H1 locs1 → W p l e R s m args below meth c H1 locs1 (cells + mc) (slots + ms) Q (F0 m (pc + 3) ls rest)) : W p l e R s m args below meth c H locs cells slots Q (F0 m pc ls st0) := q_call hr hS hA hf kk
theorem q_callE {B : Option Value → Heap → Prop} (hr : va_Run p l e R s m args below meth c H locs cells slots mc ms (F0 m pc ls st0) rest (qE B A1 a) free) (hS : va_S A0 H0 H locs) (hA : ∀ q, q < H.size → A1 q → A0 q) (hf : ∀ q, free q → A0 q)
    (kk : ∀ (rv : Option Value) (H1 : Heap) (locs1 : List Loc), B rv H1 → H.size ≤ H1.size → (∀ q : Nat, q < H.size → ¬ A1 q → H1[q]? = H[q]?) → va_S A0 H0 H1 locs1 → W p l e R s m args below meth c H1 locs1 (cells + mc) (slots + ms) Q (F0 m (pc + 3) ls (rv.toList ++ rest))) : W p l e R s m args below meth c H locs cells slots Q (F0 m pc ls st0) := by
  intro T hT X
  obtain ⟨v, st₀, t, T', L, h0, X', hL, e1, e2, ⟨rv, hv, hb, hz, hk⟩, st⟩ := hr T hT X
  cases hv
  rw [h0] at hz hk
  obtain ⟨t2, a1, b1⟩ := kk v T'.heap (locs ++ L) (by rw [e1]; exact hb) (by rw [e1]; exact hz) (fun q h1 h2 => by rw [e1]; exact hk q h1 h2)
    ⟨Nat.le_trans hS.1 (by rw [e1]; exact hz), fun q h1 h2 => by rw [e1, hk q (Nat.lt_of_lt_of_le h1 hS.1) (fun z => h2 (hA q (Nat.lt_of_lt_of_le h1 hS.1) z))]; exact hS.2.1 q h1 h2, fun q hq => by
      rcases List.mem_append.mp hq with h | h
      · exact hS.2.2 q h
      · exact hf _ (hL q h)⟩ T' rfl X'
  exact ⟨t2, st t2 a1, b1⟩
variable {cc : ByteArray} {B : (Nat → Prop) → Heap → Prop} {A : Nat → Prop}
theorem q_aretE {Bv : Option Value → (Nat → Prop) → Heap → Prop} {v : Value} {n : String} (hx : p.tables.exec = Jvm.exec) (hb : c.code = cc) (hr : meth.sig.returnType = some (.object n)) (hlocks : meth.locks = false) (hv : v = .null ∨ ∃ a, v = .ref a) (hB : Bv (some v) A H) (hS : va_S A s.heap H locs) (hdg : decode cc pc = .ok (.areturn, 1)) : W p l e R s m args below meth c H locs cells slots (MQ below (qE (fun rv => Bv rv A) A) args s cells slots A) (F0 m pc ls [v]) :=
  W.aret hx hb hr (Or.inl ⟨n, rfl⟩) hv (fun t ht _ => ⟨_, rfl, by rw [ht]; exact hB, hS.F ht⟩) hS.2.2 hdg hlocks
theorem q_iret {v : Int32} (hx : p.tables.exec = Jvm.exec) (hb : c.code = cc) (hr : meth.sig.returnType = some .int) (hlocks : meth.locks = false) (hB : B A H) (hS : va_S A s.heap H locs) (hdg : decode cc pc = .ok (.ireturn, 1)) : W p l e R s m args below meth c H locs cells slots (MQ below (qQ (some (.int v)) (B A) A) args s cells slots A) (F0 m pc ls [.int v]) :=
  W.iret hx hb hr (fun t ht _ => ⟨rfl, by rw [ht]; exact hB, hS.F ht⟩) hS.2.2 hdg hlocks
theorem q_zret {v : Int32} (hx : p.tables.exec = Jvm.exec) (hb : c.code = cc) (hr : meth.sig.returnType = some .boolean) (hlocks : meth.locks = false) (hn : narrow .boolean (.int v) = .int v) (hB : B A H) (hS : va_S A s.heap H locs) (hdg : decode cc pc = .ok (.ireturn, 1)) : W p l e R s m args below meth c H locs cells slots (MQ below (qQ (some (.int v)) (B A) A) args s cells slots A) (F0 m pc ls [.int v]) :=
  W.zret hx hb hr hn (fun t ht _ => ⟨rfl, by rw [ht]; exact hB, hS.F ht⟩) hS.2.2 hdg hlocks
theorem q_lret {v : Int64} (hx : p.tables.exec = Jvm.exec) (hb : c.code = cc) (hr : meth.sig.returnType = some .long) (hlocks : meth.locks = false) (hB : B A H) (hS : va_S A s.heap H locs) (hdg : decode cc pc = .ok (.lreturn, 1)) : W p l e R s m args below meth c H locs cells slots (MQ below (qQ (some (.long v)) (B A) A) args s cells slots A) (F0 m pc ls [.long v]) :=
  W.lret hx hb hr (fun t ht _ => ⟨rfl, by rw [ht]; exact hB, hS.F ht⟩) hS.2.2 hdg hlocks
theorem q_vret (hx : p.tables.exec = Jvm.exec) (hb : c.code = cc) (hr : meth.sig.returnType = none) (hlocks : meth.locks = false) (hB : B A H) (hS : va_S A s.heap H locs) (hdg : decode cc pc = .ok (.return_, 1)) : W p l e R s m args below meth c H locs cells slots (MQ below (qQ none (B A) A) args s cells slots A) (F0 m pc ls []) :=
  W.vret hx hb hr (fun t ht _ => ⟨rfl, by rw [ht]; exact hB, hS.F ht⟩) hS.2.2 hdg hlocks
theorem q_aret {v : Value} {n : String} (hx : p.tables.exec = Jvm.exec) (hb : c.code = cc) (hr : meth.sig.returnType = some (.object n)) (hlocks : meth.locks = false) (hv : v = .null ∨ ∃ a, v = .ref a) (hB : B A H) (hS : va_S A s.heap H locs) (hdg : decode cc pc = .ok (.areturn, 1)) : W p l e R s m args below meth c H locs cells slots (MQ below (qQ (some v) (B A) A) args s cells slots A) (F0 m pc ls [v]) :=
  W.aret hx hb hr (Or.inl ⟨n, rfl⟩) hv (fun t ht _ => ⟨rfl, by rw [ht]; exact hB, hS.F ht⟩) hS.2.2 hdg hlocks
theorem q_iretW {G : gG} {ws : va_W} {v : Int32} (hx : p.tables.exec = Jvm.exec) (hb : c.code = cc) (hr : meth.sig.returnType = some .int) (hlocks : meth.locks = false) (hP : va_P G.1 vwCl ws H) (hD : va_D A ws) (hS : va_S A s.heap H locs) (hdg : decode cc pc = .ok (.ireturn, 1)) : W p l e R s m args below meth c H locs cells slots (MQ below (qQ (some (.int v)) (wB G ws A) A) args s cells slots A) (F0 m pc ls [.int v]) := q_iret (B := wB G ws) hx hb hr hlocks ⟨hP, hD⟩ hS hdg
theorem q_lretW {G : gG} {ws : va_W} {v : Int64} (hx : p.tables.exec = Jvm.exec) (hb : c.code = cc) (hr : meth.sig.returnType = some .long) (hlocks : meth.locks = false) (hP : va_P G.1 vwCl ws H) (hD : va_D A ws) (hS : va_S A s.heap H locs) (hdg : decode cc pc = .ok (.lreturn, 1)) : W p l e R s m args below meth c H locs cells slots (MQ below (qQ (some (.long v)) (wB G ws A) A) args s cells slots A) (F0 m pc ls [.long v]) := q_lret (B := wB G ws) hx hb hr hlocks ⟨hP, hD⟩ hS hdg
theorem q_vretW {G : gG} {ws : va_W} (hx : p.tables.exec = Jvm.exec) (hb : c.code = cc) (hr : meth.sig.returnType = none) (hlocks : meth.locks = false) (hP : va_P G.1 vwCl ws H) (hD : va_D A ws) (hS : va_S A s.heap H locs) (hdg : decode cc pc = .ok (.return_, 1)) : W p l e R s m args below meth c H locs cells slots (MQ below (qQ none (wB G ws A) A) args s cells slots A) (F0 m pc ls []) := q_vret (B := wB G ws) hx hb hr hlocks ⟨hP, hD⟩ hS hdg
theorem q_zretW {G : gG} {ws : va_W} {v : Int32} (hx : p.tables.exec = Jvm.exec) (hb : c.code = cc) (hr : meth.sig.returnType = some .boolean) (hlocks : meth.locks = false) (hn : narrow .boolean (.int v) = .int v) (hP : va_P G.1 vwCl ws H) (hD : va_D A ws) (hS : va_S A s.heap H locs) (hdg : decode cc pc = .ok (.ireturn, 1)) : W p l e R s m args below meth c H locs cells slots (MQ below (qQ (some (.int v)) (wB G ws A) A) args s cells slots A) (F0 m pc ls [.int v]) := q_zret (B := wB G ws) hx hb hr hlocks hn ⟨hP, hD⟩ hS hdg
theorem q_aretW {G : gG} {ws : va_W} {v : Value} {n : String} (hx : p.tables.exec = Jvm.exec) (hb : c.code = cc) (hr : meth.sig.returnType = some (.object n)) (hlocks : meth.locks = false) (hv : v = .null ∨ ∃ a, v = .ref a) (hP : va_P G.1 vwCl ws H) (hD : va_D A ws) (hS : va_S A s.heap H locs) (hdg : decode cc pc = .ok (.areturn, 1)) : W p l e R s m args below meth c H locs cells slots (MQ below (qQ (some v) (wB G ws A) A) args s cells slots A) (F0 m pc ls [v]) := q_aret (B := wB G ws) hx hb hr hlocks hv ⟨hP, hD⟩ hS hdg
theorem q_newI {G : gG} {ws : va_W} {A : Nat → Prop} (hx : p.tables.exec = Jvm.exec) (hb : c.code = cc) (harr : (Cond.arrayClass .int).before args s = true) (hK : va_K G.1 vwCl (tyL G) s) (hP : va_P G.1 vwCl ws H) (hD : va_D A ws) (hS : va_S A H0 H locs) (hA : ∀ q, H0.size ≤ q → A q) {n : Int32} {N : Nat} (hn : ¬ n < 0) (hN : n.toNatClampNeg = N) (hbytes : N * componentBytes .int ≤ 536870912) (hcells : cells + 1 ≤ R.cells) (hslots : slots + N ≤ R.slots) (hdg : decode cc pc = .ok (.newarray .int, 2))
    (kk : ∀ (q : Nat) (H1 : Heap), va_P G.1 vwCl (ws ++ [(q, .inl (G.2 0, N, .inl (fun _ => 0)))]) H1 → va_D A (ws ++ [(q, .inl (G.2 0, N, .inl (fun _ => 0)))]) → va_S A H0 H1 locs → W p l e R s m args below meth c H1 locs (cells + 1) (slots + N) Q (F0 m (pc + 2) ls (.ref q :: rest))) : W p l e R s m args below meth c H locs cells slots Q (F0 m pc ls (.int n :: rest)) := by
  refine va_newa (atype := .int) (ty := .int) hx hb harr rfl hK hP hD hS hA (a0 := (N, .inl (fun _ => 0))) (fun _ => rfl) hn hN hbytes hcells hslots hdg (fun q cA H1 hK' hP' hD' hS' => ?_)
  have h1 : va_RA s cA .int := (hK'.2 4 (cA, .int) rfl).2
  have h2 : va_RA s (G.2 0) .int := (hK.2 0 (G.2 0, .int) rfl).2
  have hc : cA = G.2 0 := Option.some.inj (Eq.trans (Eq.symm h1) h2)
  subst hc
  exact kk q H1 hP' hD' hS'
theorem q_newZ {G : gG} {ws : va_W} {A : Nat → Prop} (hx : p.tables.exec = Jvm.exec) (hb : c.code = cc) (harr : (Cond.arrayClass .boolean).before args s = true) (hK : va_K G.1 vwCl (tyL G) s) (hP : va_P G.1 vwCl ws H) (hD : va_D A ws) (hS : va_S A H0 H locs) (hA : ∀ q, H0.size ≤ q → A q) {n : Int32} {N : Nat} (hn : ¬ n < 0) (hN : n.toNatClampNeg = N) (hbytes : N * componentBytes .boolean ≤ 536870912) (hcells : cells + 1 ≤ R.cells) (hslots : slots + N ≤ R.slots) (hdg : decode cc pc = .ok (.newarray .boolean, 2))
    (kk : ∀ (q : Nat) (H1 : Heap), va_P G.1 vwCl (ws ++ [(q, .inl (G.2 1, N, .inl (fun _ => 0)))]) H1 → va_D A (ws ++ [(q, .inl (G.2 1, N, .inl (fun _ => 0)))]) → va_S A H0 H1 locs → W p l e R s m args below meth c H1 locs (cells + 1) (slots + N) Q (F0 m (pc + 2) ls (.ref q :: rest))) : W p l e R s m args below meth c H locs cells slots Q (F0 m pc ls (.int n :: rest)) := by
  refine va_newa (atype := .boolean) (ty := .boolean) hx hb harr rfl hK hP hD hS hA (a0 := (N, .inl (fun _ => 0))) (fun _ => rfl) hn hN hbytes hcells hslots hdg (fun q cA H1 hK' hP' hD' hS' => ?_)
  have h1 : va_RA s cA .boolean := (hK'.2 4 (cA, .boolean) rfl).2
  have h2 : va_RA s (G.2 1) .boolean := (hK.2 1 (G.2 1, .boolean) rfl).2
  have hc : cA = G.2 1 := Option.some.inj (Eq.trans (Eq.symm h1) h2)
  subst hc
  exact kk q H1 hP' hD' hS'
theorem q_newJ {G : gG} {ws : va_W} {A : Nat → Prop} (hx : p.tables.exec = Jvm.exec) (hb : c.code = cc) (harr : (Cond.arrayClass .long).before args s = true) (hK : va_K G.1 vwCl (tyL G) s) (hP : va_P G.1 vwCl ws H) (hD : va_D A ws) (hS : va_S A H0 H locs) (hA : ∀ q, H0.size ≤ q → A q) {n : Int32} {N : Nat} (hn : ¬ n < 0) (hN : n.toNatClampNeg = N) (hbytes : N * componentBytes .long ≤ 536870912) (hcells : cells + 1 ≤ R.cells) (hslots : slots + N ≤ R.slots) (hdg : decode cc pc = .ok (.newarray .long, 2))
    (kk : ∀ (q : Nat) (H1 : Heap), va_P G.1 vwCl (ws ++ [(q, .inl (G.2 2, N, .inr (.inl (fun _ => 0))))]) H1 → va_D A (ws ++ [(q, .inl (G.2 2, N, .inr (.inl (fun _ => 0))))]) → va_S A H0 H1 locs → W p l e R s m args below meth c H1 locs (cells + 1) (slots + N) Q (F0 m (pc + 2) ls (.ref q :: rest))) : W p l e R s m args below meth c H locs cells slots Q (F0 m pc ls (.int n :: rest)) := by
  refine va_newa (atype := .long) (ty := .long) hx hb harr rfl hK hP hD hS hA (a0 := (N, .inr (.inl (fun _ => 0)))) (fun _ => rfl) hn hN hbytes hcells hslots hdg (fun q cA H1 hK' hP' hD' hS' => ?_)
  have h1 : va_RA s cA .long := (hK'.2 4 (cA, .long) rfl).2
  have h2 : va_RA s (G.2 2) .long := (hK.2 2 (G.2 2, .long) rfl).2
  have hc : cA = G.2 2 := Option.some.inj (Eq.trans (Eq.symm h1) h2)
  subst hc
  exact kk q H1 hP' hD' hS'
theorem q_newQ {G : gG} {ws : va_W} {A : Nat → Prop} {own : String} {index : Nat} (hx : p.tables.exec = Jvm.exec) (hb : c.code = cc) (hown : s.vm.findClass own = some m.cls) (hcl : (Cond.classLink own index "PlayStates$Person").before args s = true) (hov : va_AO "PlayStates$Person" s) (hK : va_K G.1 vwCl (tyL G) s) (hP : va_P G.1 vwCl ws H) (hD : va_D A ws) (hS : va_S A H0 H locs) (hA : ∀ q, H0.size ≤ q → A q) {n : Int32} {N : Nat} (hn : ¬ n < 0) (hN : n.toNatClampNeg = N) (hbytes : N * 4 ≤ 536870912) (hcells : cells + 1 ≤ R.cells) (hslots : slots + N ≤ R.slots) (hdg : decode cc pc = .ok (.anewarray index, 3))
    (kk : ∀ (q : Nat) (H1 : Heap), va_P G.1 vwCl (ws ++ [(q, .inl (G.2 3, N, .inr (.inr (.inr (.inr (fun _ => none))))))]) H1 → va_D A (ws ++ [(q, .inl (G.2 3, N, .inr (.inr (.inr (.inr (fun _ => none))))))]) → va_S A H0 H1 locs → W p l e R s m args below meth c H1 locs (cells + 1) (slots + N) Q (F0 m (pc + 3) ls (.ref q :: rest))) : W p l e R s m args below meth c H locs cells slots Q (F0 m pc ls (.int n :: rest)) := by
  refine va_newq hx hb hown hcl hov hK hP hD hS hA hn hN hbytes hcells hslots hdg (fun q cA H1 hK' hP' hD' hS' => ?_)
  obtain ⟨k1, c1, a1, a2, a3, a4⟩ : va_RA s cA (.object "PlayStates$Person") := (hK'.2 4 (cA, .object "PlayStates$Person") rfl).2
  obtain ⟨k2, c2, b1, b2, b3, b4⟩ : va_RA s (G.2 3) (.object "PlayStates$Person") := (hK.2 3 (G.2 3, .object "PlayStates$Person") rfl).2
  have hc : cA = G.2 3 := Option.some.inj (a4.symm.trans b4)
  subst hc
  exact kk q H1 hP' hD' hS'
end QQ
theorem pP_blind {G : gG} {sz : Nat} {av : List Value} {ws : va_W} : FrameBlind (pP G sz av ws) := by
  intro a U g mk q
  obtain ⟨q0, q1, qP, qK, qD⟩ := q
  exact ⟨q0, q1, qP, kK_same (s := U) (U := U.calling g mk a) rfl qK, qD⟩
theorem pS {G : gG} {s : State} {H : Heap} {As : List Value} {ws : va_W} {A : Nat → Prop} (hK : va_K G.1 vwCl (tyL G) s) (hN : nW s) (hP : va_P G.1 vwCl ws H) (hD : va_D A ws) : PreS s H (pP G H.size As ws) As :=
  ⟨pP_blind, fun U hU hW => ⟨rfl, by rw [hU], by rw [hU]; exact hP, kK_warm hW ⟨hK, hN⟩, hD.weaken (fun _ _ _ _ => trivial)⟩⟩
theorem pV {G : gG} {s : State} {H : Heap} {As : List Value} {ws : va_W} {A : Nat → Prop} {b q0 ci : Nat} {q : vw_C} {fs : List Value} (hK : va_K G.1 vwCl (tyL G) s) (hN : nW s) (hP : va_P G.1 vwCl ws H) (hD : va_D A ws) (hc : vwCl[ci]? = some q) (he : ws[q0]? = some (b, .inr (ci, fs))) : PreV s H q.1 b (pP G H.size (.ref b :: As) ws) As :=
  ⟨pP_blind, va_recv hK hP hc he, fun U hU hW => ⟨rfl, by rw [hU], by rw [hU]; exact hP, kK_warm hW ⟨hK, hN⟩, hD.weaken (fun _ _ _ _ => trivial)⟩⟩
/-- behind a call: the rest and what came back, in any order -/
theorem q_join {A0 : Nat → Prop} {D : va_G} {cl : List vw_C} {ws wc wr w1 wn : va_W} {H H1 : Heap} (hP : va_P D cl ws H) (hD : va_D A0 ws) (isC isR is : List Nat) (hC : isC.map (fun i => ws[i]?) = wc.map some) (hR : isR.map (fun i => ws[i]?) = wr.map some) (hn : va_nd isR = true) (hdis : ∀ i ∈ isR, i ∉ isC)
    (hI : is.map (fun i => (wr ++ w1)[i]?) = wn.map some) (hI2 : va_nd is = true)
    (hk : ∀ q : Nat, q < H.size → ¬ va_A wc H.size q → H1[q]? = H[q]?) (hF : ∀ q, va_A wc H.size q → A0 q) (hP1 : va_P D cl w1 H1) (hD1 : va_D (va_A wc H.size) w1) : va_P D cl wn H1 ∧ va_D A0 wn := by
  obtain ⟨h1, h2⟩ := va_join hP hD isC isR hC hR hn hdis hk hF hP1 hD1
  refine ⟨fun k q hq => ?_, h2.sub is hI2 hI⟩
  have h3 : (is.map (fun i => (wr ++ w1)[i]?))[k]? = some (some q) := by rw [hI, List.getElem?_map, hq]; rfl
  rw [List.getElem?_map] at h3
  cases hi : is[k]? with
  | none => rw [hi] at h3; cases h3
  | some i => rw [hi] at h3; exact h1 i q (Option.some.inj h3)
/-- .. where the callee had the whole world -/
theorem q_joinA {A0 : Nat → Prop} {D : va_G} {cl : List vw_C} {wc w1 : va_W} {H H1 : Heap} (hF : ∀ q, va_A wc H.size q → A0 q) (hP1 : va_P D cl w1 H1) (hD1 : va_D (va_A wc H.size) w1) : va_P D cl w1 H1 ∧ va_D A0 w1 := ⟨hP1, hD1.weaken (fun _ q _ h => hF q.1 h)⟩
/-- the pure side: a step that may fall -/
theorem o_if {α : Type} {c : Prop} [Decidable c] {x : Option α} {r : α} (h : (if c then x else none) = some r) : c ∧ x = some r := by
  by_cases hc : c
  · rw [if_pos hc] at h; exact ⟨hc, h⟩
  · rw [if_neg hc] at h; cases h
theorem o_bind {α β : Type} {x : Option α} {k : α → Option β} {r : β} (h : x.bind k = some r) : ∃ y, x = some y ∧ k y = some r := by
  cases x with
  | none => cases h
  | some y => exact ⟨y, rfl, h⟩
abbrev inB (i : Int32) (n : Nat) : Prop := ¬ (i < 0 ∨ n ≤ i.toNatClampNeg)
theorem bool01 {x : Int32} (h : x = 0 ∨ x = 1) : narrow .boolean (.int x) = .int x ∧ fits .boolean (.int x) = true := by
  rcases h with h | h <;> subst h <;> decide +kernel
end
section
/-! worlds up to their order; a contract with more cells around it -/
theorem vP_mem {D : va_G} {cl : List vw_C} {ws : va_W} {H : Heap} : va_P D cl ws H ↔ ∀ q ∈ ws, va_at D cl q H :=
  ⟨fun h q hq => by obtain ⟨k, hk⟩ := List.getElem?_of_mem hq; exact h k q hk, fun h k q hk => h q (List.mem_of_getElem? hk)⟩
theorem vD_pw {A : Nat → Prop} {ws : va_W} : va_D A ws ↔ ws.Pairwise (fun p q => p.1 ≠ q.1) ∧ ∀ q ∈ ws, A q.1 := by
  constructor
  · intro h
    refine ⟨List.pairwise_iff_getElem.mpr (fun i j hi hj hij he => ?_), fun q hq => ?_⟩
    · have := h.1 i j ws[i] ws[j] (List.getElem?_eq_getElem hi) (List.getElem?_eq_getElem hj) he
      omega
    · obtain ⟨k, hk⟩ := List.getElem?_of_mem hq
      exact h.2 k q hk
  · intro h
    refine ⟨fun i j p q hp hq he => ?_, fun k q hk => h.2 q (List.mem_of_getElem? hk)⟩
    obtain ⟨hi, rfl⟩ := List.getElem?_eq_some_iff.mp hp
    obtain ⟨hj, rfl⟩ := List.getElem?_eq_some_iff.mp hq
    rcases Nat.lt_trichotomy i j with hl | hl | hl
    · exact absurd he (List.pairwise_iff_getElem.mp h.1 i j hi hj hl)
    · exact hl
    · exact absurd he.symm (List.pairwise_iff_getElem.mp h.1 j i hj hi hl)
theorem vP_perm {D : va_G} {cl : List vw_C} {ws ws' : va_W} {H : Heap} (hp : ws.Perm ws') (h : va_P D cl ws H) : va_P D cl ws' H := vP_mem.mpr fun q hq => vP_mem.mp h q (hp.mem_iff.mpr hq)
theorem vD_perm {A : Nat → Prop} {ws ws' : va_W} (hp : ws.Perm ws') (h : va_D A ws) : va_D A ws' := by
  obtain ⟨h1, h2⟩ := vD_pw.mp h
  exact vD_pw.mpr ⟨(hp.pairwise_iff (fun h => h.symm)).mp h1, fun q hq => h2 q (hp.mem_iff.mpr hq)⟩
theorem vP_left {D : va_G} {cl : List vw_C} {w1 w2 : va_W} {H : Heap} (h : va_P D cl (w1 ++ w2) H) : va_P D cl w1 H := vP_mem.mpr fun q hq => vP_mem.mp h q (List.mem_append_left _ hq)
theorem vP_right {D : va_G} {cl : List vw_C} {w1 w2 : va_W} {H : Heap} (h : va_P D cl (w1 ++ w2) H) : va_P D cl w2 H := vP_mem.mpr fun q hq => vP_mem.mp h q (List.mem_append_right _ hq)
theorem vD_left {A : Nat → Prop} {w1 w2 : va_W} (h : va_D A (w1 ++ w2)) : va_D A w1 := by
  obtain ⟨h1, h2⟩ := vD_pw.mp h
  exact vD_pw.mpr ⟨(List.pairwise_append.mp h1).1, fun q hq => h2 q (List.mem_append_left _ hq)⟩
theorem vA_mem {ws : va_W} {sz q : Nat} : va_A ws sz q ↔ (∃ e, (q, e) ∈ ws) ∨ sz ≤ q := by
  constructor
  · rintro (⟨k, e, h⟩ | h)
    · exact Or.inl ⟨e, List.mem_of_getElem? h⟩
    · exact Or.inr h
  · rintro (⟨e, h⟩ | h)
    · obtain ⟨k, hk⟩ := List.getElem?_of_mem h
      exact Or.inl ⟨k, e, hk⟩
    · exact Or.inr h
theorem vA_sub {wc wr L : va_W} {sz q : Nat} (hp : L.Perm (wc ++ wr)) (h : va_A wc sz q) : va_A L sz q := by
  rcases vA_mem.mp h with ⟨e, h⟩ | h
  · exact vA_mem.mpr (Or.inl ⟨e, hp.mem_iff.mpr (List.mem_append_left _ h)⟩)
  · exact vA_mem.mpr (Or.inr h)
/-- the frame rule, by lists -/
theorem vJ {D : va_G} {cl : List vw_C} {wc wr w1 L : va_W} {H H1 : Heap} {A0 : Nat → Prop} {sz : Nat} (hsz : H.size = sz) (hp : L.Perm (wc ++ wr)) (hP : va_P D cl L H) (hD : va_D A0 L)
    (hk : ∀ q : Nat, q < H.size → ¬ va_A wc sz q → H1[q]? = H[q]?) (hP1 : va_P D cl w1 H1) (hD1 : va_D (va_A wc sz) w1) : va_P D cl (w1 ++ wr) H1 ∧ va_D (va_A L sz) (w1 ++ wr) := by
  have hP' := vP_perm hp hP
  have hD' := vD_pw.mp (vD_perm hp hD)
  have apart : ∀ q ∈ wr, q.1 < H.size ∧ ¬ va_A wc sz q.1 := by
    intro q hq
    have hl := (vP_mem.mp hP' q (List.mem_append_right _ hq)).lt
    refine ⟨hl, fun h => ?_⟩
    rcases vA_mem.mp h with ⟨e, h⟩ | h
    · exact (List.pairwise_append.mp hD'.1).2.2 _ h _ hq rfl
    · omega
  refine ⟨vP_mem.mpr fun q hq => ?_, vD_pw.mpr ⟨List.pairwise_append.mpr ⟨(vD_pw.mp hD1).1, (List.pairwise_append.mp hD'.1).2.1, fun a ha b hb he => ?_⟩, fun q hq => ?_⟩⟩
  · rcases List.mem_append.mp hq with h | h
    · exact vP_mem.mp hP1 q h
    · exact (vP_mem.mp hP' q (List.mem_append_right _ h)).kept (hk q.1 (apart q h).1 (apart q h).2)
  · exact (apart b hb).2 (he ▸ (vD_pw.mp hD1).2 a ha)
  · rcases List.mem_append.mp hq with h | h
    · exact vA_sub hp ((vD_pw.mp hD1).2 q h)
    · exact vA_mem.mpr (Or.inl ⟨q.2, hp.mem_iff.mpr (List.mem_append_right _ h)⟩)
theorem cN_frame {l : Launch} {y : MethodName} {ww : List Cond} {rm : Room} {G : gG} {sz : Nat} {av : List Value} {wc w1 wr L L1 : va_W} {rv : Option Value} {mc ms : Nat} (hM : cN l y ww rm G sz av wc rv (wB G w1) mc ms) (h1 : L.Perm (wc ++ wr)) (h2 : (w1 ++ wr).Perm L1) : cN l y ww rm G sz av L rv (wB G L1) mc ms := by
  refine MetFree.mono hM (fun a s h => ?_) (fun _ _ _ _ _ h => h) (fun a s o t hpre h => ?_)
  · obtain ⟨e, hsz, hP, hK, hD⟩ := h
    exact ⟨e, hsz, vP_left (vP_perm h1 hP), hK, vD_left (vD_perm h1 hD)⟩
  · obtain ⟨e, hsz, hP, hK, hD⟩ := hpre
    obtain ⟨⟨ho, hB, hF⟩, Lc, hFE, hfr⟩ := h
    obtain ⟨g1, g2⟩ := vJ hsz h1 hP hD hF.2 hB.1 hB.2
    exact ⟨⟨ho, ⟨vP_perm h2 g1, vD_perm h2 g2⟩, hF.1, fun q hq hn => hF.2 q hq (fun z => hn (vA_sub h1 z))⟩, Lc, hFE, fun q hq => vA_sub h1 (hfr q hq)⟩
/-- .. with any end -/
theorem cN_frameE {l : Launch} {y : MethodName} {ww : List Cond} {rm : Room} {G : gG} {sz : Nat} {av : List Value} {wc wr L : va_W} {rv : Option Value} {mc ms : Nat} {B B' : (Nat → Prop) → Heap → Prop} (hM : cN l y ww rm G sz av wc rv B mc ms) (h1 : L.Perm (wc ++ wr))
    (hB : ∀ (H1 : Heap), B (va_A wc sz) H1 → ∃ w1, wB G w1 (va_A wc sz) H1 ∧ (wB G (w1 ++ wr) (va_A L sz) H1 → B' (va_A L sz) H1)) : cN l y ww rm G sz av L rv B' mc ms := by
  refine MetFree.mono hM (fun a s h => ?_) (fun _ _ _ _ _ h => h) (fun a s o t hpre h => ?_)
  · obtain ⟨e, hsz, hP, hK, hD⟩ := h
    exact ⟨e, hsz, vP_left (vP_perm h1 hP), hK, vD_left (vD_perm h1 hD)⟩
  · obtain ⟨e, hsz, hP, hK, hD⟩ := hpre
    obtain ⟨⟨ho, hB1, hF⟩, Lc, hFE, hfr⟩ := h
    obtain ⟨w1, hB2, hB3⟩ := hB _ hB1
    obtain ⟨g1, g2⟩ := vJ hsz h1 hP hD hF.2 hB2.1 hB2.2
    exact ⟨⟨ho, hB3 ⟨g1, g2⟩, hF.1, fun q hq hn => hF.2 q hq (fun z => hn (vA_sub h1 z))⟩, Lc, hFE, fun q hq => vA_sub h1 (hfr q hq)⟩
end
section
theorem d_PS_isZeroToNine_0 : decode prog_1_method_21_code 0 = .ok (.iload_n 0, 1) := by decide +kernel
theorem d_PS_isZeroToNine_1 : decode prog_1_method_21_code 1 = .ok (.ifCond .lt 13, 3) := by decide +kernel
theorem d_PS_isZeroToNine_4 : decode prog_1_method_21_code 4 = .ok (.iload_n 0, 1) := by decide +kernel
theorem d_PS_isZeroToNine_5 : decode prog_1_method_21_code 5 = .ok (.bipush 9, 2) := by decide +kernel
theorem d_PS_isZeroToNine_7 : decode prog_1_method_21_code 7 = .ok (.if_icmp .gt 7, 3) := by decide +kernel
theorem d_PS_isZeroToNine_10 : decode prog_1_method_21_code 10 = .ok (.iconst 1, 1) := by decide +kernel
theorem d_PS_isZeroToNine_11 : decode prog_1_method_21_code 11 = .ok (.goto 4, 3) := by decide +kernel
theorem d_PS_isZeroToNine_14 : decode prog_1_method_21_code 14 = .ok (.iconst 0, 1) := by decide +kernel
theorem d_PS_isZeroToNine_15 : decode prog_1_method_21_code 15 = .ok (.ireturn, 1) := by decide +kernel
-- PlayStates.isZeroToNine(I)Z 
def ws_PS_isZeroToNine (G : gG)    : va_W := []
def f_PS_isZeroToNine  (p0 : Int32)  : Option (Int32) :=
  (if p0 < 0 then some (0 : Int32) else (if (9 : Int32) < p0 then some (0 : Int32) else some (1 : Int32)))
set_option maxHeartbeats 4000000 in
set_option maxRecDepth 100000 in
theorem c_PS_isZeroToNine (l : Launch) (G : gG) (sz : Nat)   (p0 : Int32)  (r : Int32) (h : f_PS_isZeroToNine p0 = some r)  : cN l y_PS_isZeroToNine w_PS_isZeroToNine { frames := 0, cells := 0, slots := 0, locals := 0 } G sz [.int p0] (ws_PS_isZeroToNine G) (some (.int r)) (wB G (ws_PS_isZeroToNine G)) 0 0 := by
  refine cN_ofW (cc := prog_1_method_21_code) (maxL := 1) (ret := (some .boolean)) (by decide) rfl (Nat.le_of_ble_eq_true rfl) ?_
  intro p e s m args below meth c A H locs ls hx hb hr hts hown hlocks hin hml hK hN hP hD hA hS hl
  replace hl : lv_has ls 1 [(0, .int p0)] := hl
  replace hown : s.vm.findClass "PlayStates" = some m.cls := hown
  unfold f_PS_isZeroToNine at h
  refine lv_iload_n hx hb d_PS_isZeroToNine_0 rfl (lv_at hl 0 rfl) ?_
  refine lv_if_lt (tgt := 14) hx hb d_PS_isZeroToNine_1 (by decide) (fun c1 => ?_) (fun c1 => ?_)
  · replace h := (if_pos c1).symm.trans h
    refine lv_iconst (v := (0 : Int32)) hx hb d_PS_isZeroToNine_14 (by decide) ?_
    cases h
    exact q_zretW hx hb hr hlocks (by decide) hP hD hS d_PS_isZeroToNine_15
  · replace h := (if_neg c1).symm.trans h
    refine lv_iload_n hx hb d_PS_isZeroToNine_4 rfl (lv_at hl 0 rfl) ?_
    refine lv_bipush (v := (9 : Int32)) hx hb d_PS_isZeroToNine_5 (by decide) ?_
    refine lv_icmp_gt (tgt := 14) hx hb d_PS_isZeroToNine_7 (by decide) (fun c2 => ?_) (fun c2 => ?_)
    · replace h := (if_pos c2).symm.trans h
      refine lv_iconst (v := (0 : Int32)) hx hb d_PS_isZeroToNine_14 (by decide) ?_
      cases h
      exact q_zretW hx hb hr hlocks (by decide) hP hD hS d_PS_isZeroToNine_15
    · replace h := (if_neg c2).symm.trans h
      refine lv_iconst (v := (1 : Int32)) hx hb d_PS_isZeroToNine_10 (by decide) ?_
      refine lv_goto (tgt := 15) hx hb d_PS_isZeroToNine_11 (by decide) ?_
      cases h
      exact q_zretW hx hb hr hlocks (by decide) hP hD hS d_PS_isZeroToNine_15

theorem d_PS_isOneToNine_0 : decode prog_1_method_22_code 0 = .ok (.iload_n 0, 1) := by decide +kernel
theorem d_PS_isOneToNine_1 : decode prog_1_method_22_code 1 = .ok (.iconst 1, 1) := by decide +kernel
theorem d_PS_isOneToNine_2 : decode prog_1_method_22_code 2 = .ok (.if_icmp .lt 13, 3) := by decide +kernel
theorem d_PS_isOneToNine_5 : decode prog_1_method_22_code 5 = .ok (.iload_n 0, 1) := by decide +kernel
theorem d_PS_isOneToNine_6 : decode prog_1_method_22_code 6 = .ok (.bipush 9, 2) := by decide +kernel
theorem d_PS_isOneToNine_8 : decode prog_1_method_22_code 8 = .ok (.if_icmp .gt 7, 3) := by decide +kernel
theorem d_PS_isOneToNine_11 : decode prog_1_method_22_code 11 = .ok (.iconst 1, 1) := by decide +kernel
theorem d_PS_isOneToNine_12 : decode prog_1_method_22_code 12 = .ok (.goto 4, 3) := by decide +kernel
theorem d_PS_isOneToNine_15 : decode prog_1_method_22_code 15 = .ok (.iconst 0, 1) := by decide +kernel
theorem d_PS_isOneToNine_16 : decode prog_1_method_22_code 16 = .ok (.ireturn, 1) := by decide +kernel
-- PlayStates.isOneToNine(I)Z 
def ws_PS_isOneToNine (G : gG)    : va_W := []
def f_PS_isOneToNine  (p0 : Int32)  : Option (Int32) :=
  (if p0 < (1 : Int32) then some (0 : Int32) else (if (9 : Int32) < p0 then some (0 : Int32) else some (1 : Int32)))
set_option maxHeartbeats 4000000 in
set_option maxRecDepth 100000 in
theorem c_PS_isOneToNine (l : Launch) (G : gG) (sz : Nat)   (p0 : Int32)  (r : Int32) (h : f_PS_isOneToNine p0 = some r)  : cN l y_PS_isOneToNine w_PS_isOneToNine { frames := 0, cells := 0, slots := 0, locals := 0 } G sz [.int p0] (ws_PS_isOneToNine G) (some (.int r)) (wB G (ws_PS_isOneToNine G)) 0 0 := by
  refine cN_ofW (cc := prog_1_method_22_code) (maxL := 1) (ret := (some .boolean)) (by decide) rfl (Nat.le_of_ble_eq_true rfl) ?_
  intro p e s m args below meth c A H locs ls hx hb hr hts hown hlocks hin hml hK hN hP hD hA hS hl
  replace hl : lv_has ls 1 [(0, .int p0)] := hl
  replace hown : s.vm.findClass "PlayStates" = some m.cls := hown
  unfold f_PS_isOneToNine at h
  refine lv_iload_n hx hb d_PS_isOneToNine_0 rfl (lv_at hl 0 rfl) ?_
  refine lv_iconst (v := (1 : Int32)) hx hb d_PS_isOneToNine_1 (by decide) ?_
  refine lv_icmp_lt (tgt := 15) hx hb d_PS_isOneToNine_2 (by decide) (fun c1 => ?_) (fun c1 => ?_)
  · replace h := (if_pos c1).symm.trans h
    refine lv_iconst (v := (0 : Int32)) hx hb d_PS_isOneToNine_15 (by decide) ?_
    cases h
    exact q_zretW hx hb hr hlocks (by decide) hP hD hS d_PS_isOneToNine_16
  · replace h := (if_neg c1).symm.trans h
    refine lv_iload_n hx hb d_PS_isOneToNine_5 rfl (lv_at hl 0 rfl) ?_
    refine lv_bipush (v := (9 : Int32)) hx hb d_PS_isOneToNine_6 (by decide) ?_
    refine lv_icmp_gt (tgt := 15) hx hb d_PS_isOneToNine_8 (by decide) (fun c2 => ?_) (fun c2 => ?_)
    · replace h := (if_pos c2).symm.trans h
      refine lv_iconst (v := (0 : Int32)) hx hb d_PS_isOneToNine_15 (by decide) ?_
      cases h
      exact q_zretW hx hb hr hlocks (by decide) hP hD hS d_PS_isOneToNine_16
    · replace h := (if_neg c2).symm.trans h
      refine lv_iconst (v := (1 : Int32)) hx hb d_PS_isOneToNine_11 (by decide) ?_
      refine lv_goto (tgt := 16) hx hb d_PS_isOneToNine_12 (by decide) ?_
      cases h
      exact q_zretW hx hb hr hlocks (by decide) hP hD hS d_PS_isOneToNine_16

theorem d_PS_isWrong_0 : decode prog_1_method_23_code 0 = .ok (.iload_n 0, 1) := by decide +kernel
theorem d_PS_isWrong_1 : decode prog_1_method_23_code 1 = .ok (.ifCond .eq 16, 3) := by decide +kernel
theorem d_PS_isWrong_4 : decode prog_1_method_23_code 4 = .ok (.iload_n 1, 1) := by decide +kernel
theorem d_PS_isWrong_5 : decode prog_1_method_23_code 5 = .ok (.ifCond .eq 12, 3) := by decide +kernel
theorem d_PS_isWrong_8 : decode prog_1_method_23_code 8 = .ok (.iload_n 1, 1) := by decide +kernel
theorem d_PS_isWrong_9 : decode prog_1_method_23_code 9 = .ok (.iload_n 0, 1) := by decide +kernel
theorem d_PS_isWrong_10 : decode prog_1_method_23_code 10 = .ok (.if_icmp .eq 7, 3) := by decide +kernel
theorem d_PS_isWrong_13 : decode prog_1_method_23_code 13 = .ok (.iconst 1, 1) := by decide +kernel
theorem d_PS_isWrong_14 : decode prog_1_method_23_code 14 = .ok (.goto 4, 3) := by decide +kernel
theorem d_PS_isWrong_17 : decode prog_1_method_23_code 17 = .ok (.iconst 0, 1) := by decide +kernel
theorem d_PS_isWrong_18 : decode prog_1_method_23_code 18 = .ok (.ireturn, 1) := by decide +kernel
-- PlayStates.isWrong(II)Z 
def ws_PS_isWrong (G : gG)    : va_W := []
def f_PS_isWrong  (p0 : Int32) (p1 : Int32)  : Option (Int32) :=
  (if p0 = 0 then some (0 : Int32) else (if p1 = 0 then some (0 : Int32) else (if p1 = p0 then some (0 : Int32) else some (1 : Int32))))
set_option maxHeartbeats 4000000 in
set_option maxRecDepth 100000 in
theorem c_PS_isWrong (l : Launch) (G : gG) (sz : Nat)   (p0 : Int32) (p1 : Int32)  (r : Int32) (h : f_PS_isWrong p0 p1 = some r)  : cN l y_PS_isWrong w_PS_isWrong { frames := 0, cells := 0, slots := 0, locals := 0 } G sz [.int p0, .int p1] (ws_PS_isWrong G) (some (.int r)) (wB G (ws_PS_isWrong G)) 0 0 := by
  refine cN_ofW (cc := prog_1_method_23_code) (maxL := 2) (ret := (some .boolean)) (by decide) rfl (Nat.le_of_ble_eq_true rfl) ?_
  intro p e s m args below meth c A H locs ls hx hb hr hts hown hlocks hin hml hK hN hP hD hA hS hl
  replace hl : lv_has ls 2 [(0, .int p0), (1, .int p1)] := hl
  replace hown : s.vm.findClass "PlayStates" = some m.cls := hown
  unfold f_PS_isWrong at h
  refine lv_iload_n hx hb d_PS_isWrong_0 rfl (lv_at hl 0 rfl) ?_
  refine lv_if_eq (tgt := 17) hx hb d_PS_isWrong_1 (by decide) (fun c1 => ?_) (fun c1 => ?_)
  · replace h := (if_pos c1).symm.trans h
    refine lv_iconst (v := (0 : Int32)) hx hb d_PS_isWrong_17 (by decide) ?_
    cases h
    exact q_zretW hx hb hr hlocks (by decide) hP hD hS d_PS_isWrong_18
  · replace h := (if_neg c1).symm.trans h
    refine lv_iload_n hx hb d_PS_isWrong_4 rfl (lv_at hl 1 rfl) ?_
    refine lv_if_eq (tgt := 17) hx hb d_PS_isWrong_5 (by decide) (fun c2 => ?_) (fun c2 => ?_)
    · replace h := (if_pos c2).symm.trans h
      refine lv_iconst (v := (0 : Int32)) hx hb d_PS_isWrong_17 (by decide) ?_
      cases h
      exact q_zretW hx hb hr hlocks (by decide) hP hD hS d_PS_isWrong_18
    · replace h := (if_neg c2).symm.trans h
      refine lv_iload_n hx hb d_PS_isWrong_8 rfl (lv_at hl 1 rfl) ?_
      refine lv_iload_n hx hb d_PS_isWrong_9 rfl (lv_at hl 0 rfl) ?_
      refine lv_icmp_eq (tgt := 17) hx hb d_PS_isWrong_10 (by decide) (fun c3 => ?_) (fun c3 => ?_)
      · replace h := (if_pos c3).symm.trans h
        refine lv_iconst (v := (0 : Int32)) hx hb d_PS_isWrong_17 (by decide) ?_
        cases h
        exact q_zretW hx hb hr hlocks (by decide) hP hD hS d_PS_isWrong_18
      · replace h := (if_neg c3).symm.trans h
        refine lv_iconst (v := (1 : Int32)) hx hb d_PS_isWrong_13 (by decide) ?_
        refine lv_goto (tgt := 18) hx hb d_PS_isWrong_14 (by decide) ?_
        cases h
        exact q_zretW hx hb hr hlocks (by decide) hP hD hS d_PS_isWrong_18

theorem gw_102 : (.fieldLink "PlayStates" 18 "PlayStates" "placeCount" "I" : Cond) ∈ GW := gT 96 (by decide +kernel) (by decide +kernel)
theorem d_PS_isPlace_0 : decode prog_1_method_24_code 0 = .ok (.iload_n 1, 1) := by decide +kernel
theorem d_PS_isPlace_1 : decode prog_1_method_24_code 1 = .ok (.ifCond .lt 15, 3) := by decide +kernel
theorem d_PS_isPlace_4 : decode prog_1_method_24_code 4 = .ok (.iload_n 1, 1) := by decide +kernel
theorem d_PS_isPlace_5 : decode prog_1_method_24_code 5 = .ok (.aload_n 0, 1) := by decide +kernel
theorem d_PS_isPlace_6 : decode prog_1_method_24_code 6 = .ok (.getfield 18, 3) := by decide +kernel
theorem d_PS_isPlace_9 : decode prog_1_method_24_code 9 = .ok (.if_icmp .ge 7, 3) := by decide +kernel
theorem d_PS_isPlace_12 : decode prog_1_method_24_code 12 = .ok (.iconst 1, 1) := by decide +kernel
theorem d_PS_isPlace_13 : decode prog_1_method_24_code 13 = .ok (.goto 4, 3) := by decide +kernel
theorem d_PS_isPlace_16 : decode prog_1_method_24_code 16 = .ok (.iconst 0, 1) := by decide +kernel
theorem d_PS_isPlace_17 : decode prog_1_method_24_code 17 = .ok (.ireturn, 1) := by decide +kernel
-- PlayStates.isPlace(I)Z 
def ws_PS_isPlace (G : gG) (a_t a_t_right a_t_persons a_t_table a_t_joining a_t_units a_t_draft a_t_reader : Nat)  (x_t_placeCount : Int32) (x_t_personCount : Int32) (x_t_unitCount : Int32) : va_W := [(a_t, .inr (5, [.int x_t_placeCount, .ref a_t_right, .ref a_t_persons, .int x_t_personCount, .ref a_t_table, .ref a_t_joining, .ref a_t_units, .int x_t_unitCount, .ref a_t_draft, .ref a_t_reader]))]
def f_PS_isPlace  (p0 : Int32) (x_t_placeCount : Int32) (x_t_personCount : Int32) (x_t_unitCount : Int32) : Option (Int32) :=
  (if p0 < 0 then some (0 : Int32) else (if x_t_placeCount ≤ p0 then some (0 : Int32) else some (1 : Int32)))
set_option maxHeartbeats 4000000 in
set_option maxRecDepth 100000 in
theorem c_PS_isPlace (l : Launch) (G : gG) (sz : Nat) (a_t a_t_right a_t_persons a_t_table a_t_joining a_t_units a_t_draft a_t_reader : Nat)  (p0 : Int32) (x_t_placeCount : Int32) (x_t_personCount : Int32) (x_t_unitCount : Int32) (r : Int32) (h : f_PS_isPlace p0 x_t_placeCount x_t_personCount x_t_unitCount = some r)  : cN l y_PS_isPlace w_PS_isPlace { frames := 0, cells := 0, slots := 0, locals := 0 } G sz [.ref a_t, .int p0] (ws_PS_isPlace G a_t a_t_right a_t_persons a_t_table a_t_joining a_t_units a_t_draft a_t_reader x_t_placeCount x_t_personCount x_t_unitCount) (some (.int r)) (wB G (ws_PS_isPlace G a_t a_t_right a_t_persons a_t_table a_t_joining a_t_units a_t_draft a_t_reader x_t_placeCount x_t_personCount x_t_unitCount)) 0 0 := by
  refine cN_ofW (cc := prog_1_method_24_code) (maxL := 2) (ret := (some .boolean)) (by decide) rfl (Nat.le_of_ble_eq_true rfl) ?_
  intro p e s m args below meth c A H locs ls hx hb hr hts hown hlocks hin hml hK hN hP hD hA hS hl
  replace hl : lv_has ls 2 [(0, .ref a_t), (1, .int p0)] := hl
  replace hown : s.vm.findClass "PlayStates" = some m.cls := hown
  unfold f_PS_isPlace at h
  refine lv_iload_n hx hb d_PS_isPlace_0 rfl (lv_at hl 1 rfl) ?_
  refine lv_if_lt (tgt := 16) hx hb d_PS_isPlace_1 (by decide) (fun c1 => ?_) (fun c1 => ?_)
  · replace h := (if_pos c1).symm.trans h
    refine lv_iconst (v := (0 : Int32)) hx hb d_PS_isPlace_16 (by decide) ?_
    cases h
    exact q_zretW hx hb hr hlocks (by decide) hP hD hS d_PS_isPlace_17
  · replace h := (if_neg c1).symm.trans h
    refine lv_iload_n hx hb d_PS_isPlace_4 rfl (lv_at hl 1 rfl) ?_
    refine lv_aload_n hx hb d_PS_isPlace_5 rfl (lv_at hl 0 rfl) ?_
    refine va_get (D := G.1) (ci := 5) (v := .int x_t_placeCount) (C := "PlayStates") (T := TPS) (N := 10) hx hb hts iw_5 hown hK hP 0 rfl rfl 0 (by decide) (hts _ gw_102) (fun _ h9 => h9) rfl d_PS_isPlace_6 ?_
    refine lv_icmp_ge (tgt := 16) hx hb d_PS_isPlace_9 (by decide) (fun c2 => ?_) (fun c2 => ?_)
    · replace h := (if_pos c2).symm.trans h
      refine lv_iconst (v := (0 : Int32)) hx hb d_PS_isPlace_16 (by decide) ?_
      cases h
      exact q_zretW hx hb hr hlocks (by decide) hP hD hS d_PS_isPlace_17
    · replace h := (if_neg c2).symm.trans h
      refine lv_iconst (v := (1 : Int32)) hx hb d_PS_isPlace_12 (by decide) ?_
      refine lv_goto (tgt := 17) hx hb d_PS_isPlace_13 (by decide) ?_
      cases h
      exact q_zretW hx hb hr hlocks (by decide) hP hD hS d_PS_isPlace_17

theorem gw_105 : (.fieldLink "PlayStates" 200 "PlayStates" "personCount" "I" : Cond) ∈ GW := gT 99 (by decide +kernel) (by decide +kernel)
theorem d_PS_hasRoomForPerson_0 : decode prog_1_method_26_code 0 = .ok (.aload_n 0, 1) := by decide +kernel
theorem d_PS_hasRoomForPerson_1 : decode prog_1_method_26_code 1 = .ok (.getfield 200, 3) := by decide +kernel
theorem d_PS_hasRoomForPerson_4 : decode prog_1_method_26_code 4 = .ok (.bipush 8, 2) := by decide +kernel
theorem d_PS_hasRoomForPerson_6 : decode prog_1_method_26_code 6 = .ok (.if_icmp .ge 7, 3) := by decide +kernel
theorem d_PS_hasRoomForPerson_9 : decode prog_1_method_26_code 9 = .ok (.iconst 1, 1) := by decide +kernel
theorem d_PS_hasRoomForPerson_10 : decode prog_1_method_26_code 10 = .ok (.goto 4, 3) := by decide +kernel
theorem d_PS_hasRoomForPerson_13 : decode prog_1_method_26_code 13 = .ok (.iconst 0, 1) := by decide +kernel
theorem d_PS_hasRoomForPerson_14 : decode prog_1_method_26_code 14 = .ok (.ireturn, 1) := by decide +kernel
-- PlayStates.hasRoomForPerson()Z 
def ws_PS_hasRoomForPerson (G : gG) (a_t a_t_right a_t_persons a_t_table a_t_joining a_t_units a_t_draft a_t_reader : Nat)  (x_t_placeCount : Int32) (x_t_personCount : Int32) (x_t_unitCount : Int32) : va_W := [(a_t, .inr (5, [.int x_t_placeCount, .ref a_t_right, .ref a_t_persons, .int x_t_personCount, .ref a_t_table, .ref a_t_joining, .ref a_t_units, .int x_t_unitCount, .ref a_t_draft, .ref a_t_reader]))]
def f_PS_hasRoomForPerson   (x_t_placeCount : Int32) (x_t_personCount : Int32) (x_t_unitCount : Int32) : Option (Int32) :=
  (if (8 : Int32) ≤ x_t_personCount then some (0 : Int32) else some (1 : Int32))
set_option maxHeartbeats 4000000 in
set_option maxRecDepth 100000 in
theorem c_PS_hasRoomForPerson (l : Launch) (G : gG) (sz : Nat) (a_t a_t_right a_t_persons a_t_table a_t_joining a_t_units a_t_draft a_t_reader : Nat)   (x_t_placeCount : Int32) (x_t_personCount : Int32) (x_t_unitCount : Int32) (r : Int32) (h : f_PS_hasRoomForPerson x_t_placeCount x_t_personCount x_t_unitCount = some r)  : cN l y_PS_hasRoomForPerson w_PS_hasRoomForPerson { frames := 0, cells := 0, slots := 0, locals := 0 } G sz [.ref a_t] (ws_PS_hasRoomForPerson G a_t a_t_right a_t_persons a_t_table a_t_joining a_t_units a_t_draft a_t_reader x_t_placeCount x_t_personCount x_t_unitCount) (some (.int r)) (wB G (ws_PS_hasRoomForPerson G a_t a_t_right a_t_persons a_t_table a_t_joining a_t_units a_t_draft a_t_reader x_t_placeCount x_t_personCount x_t_unitCount)) 0 0 := by
  refine cN_ofW (cc := prog_1_method_26_code) (maxL := 1) (ret := (some .boolean)) (by decide) rfl (Nat.le_of_ble_eq_true rfl) ?_
  intro p e s m args below meth c A H locs ls hx hb hr hts hown hlocks hin hml hK hN hP hD hA hS hl
  replace hl : lv_has ls 1 [(0, .ref a_t)] := hl
  replace hown : s.vm.findClass "PlayStates" = some m.cls := hown
  unfold f_PS_hasRoomForPerson at h
  refine lv_aload_n hx hb d_PS_hasRoomForPerson_0 rfl (lv_at hl 0 rfl) ?_
  refine va_get (D := G.1) (ci := 5) (v := .int x_t_personCount) (C := "PlayStates") (T := TPS) (N := 10) hx hb hts iw_5 hown hK hP 0 rfl rfl 3 (by decide) (hts _ gw_105) (fun _ h9 => h9) rfl d_PS_hasRoomForPerson_1 ?_
  refine lv_bipush (v := (8 : Int32)) hx hb d_PS_hasRoomForPerson_4 (by decide) ?_
  refine lv_icmp_ge (tgt := 13) hx hb d_PS_hasRoomForPerson_6 (by decide) (fun c1 => ?_) (fun c1 => ?_)
  · replace h := (if_pos c1).symm.trans h
    refine lv_iconst (v := (0 : Int32)) hx hb d_PS_hasRoomForPerson_13 (by decide) ?_
    cases h
    exact q_zretW hx hb hr hlocks (by decide) hP hD hS d_PS_hasRoomForPerson_14
  · replace h := (if_neg c1).symm.trans h
    refine lv_iconst (v := (1 : Int32)) hx hb d_PS_hasRoomForPerson_9 (by decide) ?_
    refine lv_goto (tgt := 14) hx hb d_PS_hasRoomForPerson_10 (by decide) ?_
    cases h
    exact q_zretW hx hb hr hlocks (by decide) hP hD hS d_PS_hasRoomForPerson_14

theorem gw_104 : (.fieldLink "PlayStates" 28 "PlayStates" "persons" "[LPlayStates$Person;" : Cond) ∈ GW := gT 98 (by decide +kernel) (by decide +kernel)
theorem d_PS_find_0 : decode prog_1_method_25_code 0 = .ok (.iload_n 1, 1) := by decide +kernel
theorem d_PS_find_1 : decode prog_1_method_25_code 1 = .ok (.ifCond .lt 20, 3) := by decide +kernel
theorem d_PS_find_4 : decode prog_1_method_25_code 4 = .ok (.iload_n 1, 1) := by decide +kernel
theorem d_PS_find_5 : decode prog_1_method_25_code 5 = .ok (.aload_n 0, 1) := by decide +kernel
theorem d_PS_find_6 : decode prog_1_method_25_code 6 = .ok (.getfield 200, 3) := by decide +kernel
theorem d_PS_find_9 : decode prog_1_method_25_code 9 = .ok (.if_icmp .ge 12, 3) := by decide +kernel
theorem d_PS_find_12 : decode prog_1_method_25_code 12 = .ok (.aload_n 0, 1) := by decide +kernel
theorem d_PS_find_13 : decode prog_1_method_25_code 13 = .ok (.getfield 28, 3) := by decide +kernel
theorem d_PS_find_16 : decode prog_1_method_25_code 16 = .ok (.iload_n 1, 1) := by decide +kernel
theorem d_PS_find_17 : decode prog_1_method_25_code 17 = .ok (.aaload, 1) := by decide +kernel
theorem d_PS_find_18 : decode prog_1_method_25_code 18 = .ok (.goto 4, 3) := by decide +kernel
theorem d_PS_find_21 : decode prog_1_method_25_code 21 = .ok (.aconst_null, 1) := by decide +kernel
theorem d_PS_find_22 : decode prog_1_method_25_code 22 = .ok (.areturn, 1) := by decide +kernel
-- PlayStates.find(I)LPlayStates$Person; 
def ws_PS_find (G : gG) (a_t a_t_right a_t_table a_t_joining a_t_units a_t_draft a_t_reader a_t_persons : Nat)  (x_t_placeCount : Int32) (x_t_personCount : Int32) (x_t_unitCount : Int32) (x_t_persons : Nat → Option Nat) : va_W := [(a_t, .inr (5, [.int x_t_placeCount, .ref a_t_right, .ref a_t_persons, .int x_t_personCount, .ref a_t_table, .ref a_t_joining, .ref a_t_units, .int x_t_unitCount, .ref a_t_draft, .ref a_t_reader])), (a_t_persons, .inl (G.2 3, 8, .inr (.inr (.inr (.inr x_t_persons)))))]
def f_PS_find  (p0 : Int32) (x_t_placeCount : Int32) (x_t_personCount : Int32) (x_t_unitCount : Int32) (x_t_persons : Nat → Option Nat) : Option ((Option Nat)) :=
  (if p0 < 0 then some none else (if x_t_personCount ≤ p0 then some none else (if inB p0 8 then some (x_t_persons p0.toNatClampNeg) else none)))
set_option maxHeartbeats 4000000 in
set_option maxRecDepth 100000 in
theorem c_PS_find (l : Launch) (G : gG) (sz : Nat) (a_t a_t_right a_t_table a_t_joining a_t_units a_t_draft a_t_reader a_t_persons : Nat)  (p0 : Int32) (x_t_placeCount : Int32) (x_t_personCount : Int32) (x_t_unitCount : Int32) (x_t_persons : Nat → Option Nat) (r : Option Nat) (h : f_PS_find p0 x_t_placeCount x_t_personCount x_t_unitCount x_t_persons = some r)  : cN l y_PS_find w_PS_find { frames := 0, cells := 0, slots := 0, locals := 0 } G sz [.ref a_t, .int p0] (ws_PS_find G a_t a_t_right a_t_table a_t_joining a_t_units a_t_draft a_t_reader a_t_persons x_t_placeCount x_t_personCount x_t_unitCount x_t_persons) (some (va_rf r)) (wB G (ws_PS_find G a_t a_t_right a_t_table a_t_joining a_t_units a_t_draft a_t_reader a_t_persons x_t_placeCount x_t_personCount x_t_unitCount x_t_persons)) 0 0 := by
  refine cN_ofW (cc := prog_1_method_25_code) (maxL := 2) (ret := (some (.object "PlayStates$Person"))) (by decide) rfl (Nat.le_of_ble_eq_true rfl) ?_
  intro p e s m args below meth c A H locs ls hx hb hr hts hown hlocks hin hml hK hN hP hD hA hS hl
  replace hl : lv_has ls 2 [(0, .ref a_t), (1, .int p0)] := hl
  replace hown : s.vm.findClass "PlayStates" = some m.cls := hown
  unfold f_PS_find at h
  refine lv_iload_n hx hb d_PS_find_0 rfl (lv_at hl 1 rfl) ?_
  refine lv_if_lt (tgt := 21) hx hb d_PS_find_1 (by decide) (fun c1 => ?_) (fun c1 => ?_)
  · replace h := (if_pos c1).symm.trans h
    refine lv_null hx hb d_PS_find_21 ?_
    cases h
    exact q_aretW hx hb hr hlocks (Or.inl rfl) hP hD hS d_PS_find_22
  · replace h := (if_neg c1).symm.trans h
    refine lv_iload_n hx hb d_PS_find_4 rfl (lv_at hl 1 rfl) ?_
    refine lv_aload_n hx hb d_PS_find_5 rfl (lv_at hl 0 rfl) ?_
    refine va_get (D := G.1) (ci := 5) (v := .int x_t_personCount) (C := "PlayStates") (T := TPS) (N := 10) hx hb hts iw_5 hown hK hP 0 rfl rfl 3 (by decide) (hts _ gw_105) (fun _ h9 => h9) rfl d_PS_find_6 ?_
    refine lv_icmp_ge (tgt := 21) hx hb d_PS_find_9 (by decide) (fun c2 => ?_) (fun c2 => ?_)
    · replace h := (if_pos c2).symm.trans h
      refine lv_null hx hb d_PS_find_21 ?_
      cases h
      exact q_aretW hx hb hr hlocks (Or.inl rfl) hP hD hS d_PS_find_22
    · replace h := (if_neg c2).symm.trans h
      refine lv_aload_n hx hb d_PS_find_12 rfl (lv_at hl 0 rfl) ?_
      refine va_get (D := G.1) (ci := 5) (v := .ref a_t_persons) (C := "PlayStates") (T := TPS) (N := 10) hx hb hts iw_5 hown hK hP 0 rfl rfl 2 (by decide) (hts _ gw_104) (fun _ h9 => h9) rfl d_PS_find_13 ?_
      refine lv_iload_n hx hb d_PS_find_16 rfl (lv_at hl 1 rfl) ?_
      obtain ⟨i3, h⟩ := o_if h
      refine va_aldq (n := 8) (f := x_t_persons) hx hb hK hP 1 3 rfl rfl i3 d_PS_find_17 ?_
      refine lv_goto (tgt := 22) hx hb d_PS_find_18 (by decide) ?_
      cases h
      exact q_aretW hx hb hr hlocks (va_rf_or _) hP hD hS d_PS_find_22

theorem gw_80 : (.fieldLink "PlayStates$Board" 15 "PlayStates$Board" "markBits" "[I" : Cond) ∈ GW := gT 63 (by decide +kernel) (by decide +kernel)
theorem d_Bd_hasMark_0 : decode prog_2_method_3_code 0 = .ok (.aload_n 0, 1) := by decide +kernel
theorem d_Bd_hasMark_1 : decode prog_2_method_3_code 1 = .ok (.getfield 15, 3) := by decide +kernel
theorem d_Bd_hasMark_4 : decode prog_2_method_3_code 4 = .ok (.iload_n 1, 1) := by decide +kernel
theorem d_Bd_hasMark_5 : decode prog_2_method_3_code 5 = .ok (.iaload, 1) := by decide +kernel
theorem d_Bd_hasMark_6 : decode prog_2_method_3_code 6 = .ok (.iconst 1, 1) := by decide +kernel
theorem d_Bd_hasMark_7 : decode prog_2_method_3_code 7 = .ok (.iload_n 2, 1) := by decide +kernel
theorem d_Bd_hasMark_8 : decode prog_2_method_3_code 8 = .ok (.ishl, 1) := by decide +kernel
theorem d_Bd_hasMark_9 : decode prog_2_method_3_code 9 = .ok (.iand, 1) := by decide +kernel
theorem d_Bd_hasMark_10 : decode prog_2_method_3_code 10 = .ok (.ifCond .eq 7, 3) := by decide +kernel
theorem d_Bd_hasMark_13 : decode prog_2_method_3_code 13 = .ok (.iconst 1, 1) := by decide +kernel
theorem d_Bd_hasMark_14 : decode prog_2_method_3_code 14 = .ok (.goto 4, 3) := by decide +kernel
theorem d_Bd_hasMark_17 : decode prog_2_method_3_code 17 = .ok (.iconst 0, 1) := by decide +kernel
theorem d_Bd_hasMark_18 : decode prog_2_method_3_code 18 = .ok (.ireturn, 1) := by decide +kernel
-- PlayStates$Board.hasMark(II)Z 
def ws_Bd_hasMark (G : gG) (a_t a_t_entries a_t_markBits : Nat) (n : Nat) (x_t_markBits : Nat → Int32) : va_W := [(a_t, .inr (0, [.ref a_t_entries, .ref a_t_markBits])), (a_t_markBits, .inl (G.2 0, n, .inl x_t_markBits))]
def f_Bd_hasMark (n : Nat) (p0 : Int32) (p1 : Int32) (x_t_markBits : Nat → Int32) : Option (Int32) :=
  (if inB p0 n then (if ((x_t_markBits p0.toNatClampNeg) &&& ((1 : Int32) <<< (p1 &&& 31))) = 0 then some (0 : Int32) else some (1 : Int32)) else none)
set_option maxHeartbeats 4000000 in
set_option maxRecDepth 100000 in
theorem c_Bd_hasMark (l : Launch) (G : gG) (sz : Nat) (a_t a_t_entries a_t_markBits : Nat) (n : Nat) (p0 : Int32) (p1 : Int32) (x_t_markBits : Nat → Int32) (r : Int32) (h : f_Bd_hasMark n p0 p1 x_t_markBits = some r)  : cN l y_Bd_hasMark w_Bd_hasMark { frames := 0, cells := 0, slots := 0, locals := 0 } G sz [.ref a_t, .int p0, .int p1] (ws_Bd_hasMark G a_t a_t_entries a_t_markBits n x_t_markBits) (some (.int r)) (wB G (ws_Bd_hasMark G a_t a_t_entries a_t_markBits n x_t_markBits)) 0 0 := by
  refine cN_ofW (cc := prog_2_method_3_code) (maxL := 3) (ret := (some .boolean)) (by decide) rfl (Nat.le_of_ble_eq_true rfl) ?_
  intro p e s m args below meth c A H locs ls hx hb hr hts hown hlocks hin hml hK hN hP hD hA hS hl
  replace hl : lv_has ls 3 [(0, .ref a_t), (1, .int p0), (2, .int p1)] := hl
  replace hown : s.vm.findClass "PlayStates$Board" = some m.cls := hown
  unfold f_Bd_hasMark at h
  refine lv_aload_n hx hb d_Bd_hasMark_0 rfl (lv_at hl 0 rfl) ?_
  refine va_get (D := G.1) (ci := 0) (v := .ref a_t_markBits) (C := "PlayStates$Board") (T := TBd) (N := 2) hx hb hts iw_0 hown hK hP 0 rfl rfl 1 (by decide) (hts _ gw_80) (fun _ h9 => h9) rfl d_Bd_hasMark_1 ?_
  refine lv_iload_n hx hb d_Bd_hasMark_4 rfl (lv_at hl 1 rfl) ?_
  obtain ⟨i1, h⟩ := o_if h
  refine va_iald (n := n) (f := x_t_markBits) hx hb hK hP 1 0 rfl rfl i1 d_Bd_hasMark_5 ?_
  refine lv_iconst (v := (1 : Int32)) hx hb d_Bd_hasMark_6 (by decide) ?_
  refine lv_iload_n hx hb d_Bd_hasMark_7 rfl (lv_at hl 2 rfl) ?_
  refine lv_ishl hx hb d_Bd_hasMark_8 ?_
  refine lv_iand hx hb d_Bd_hasMark_9 ?_
  refine lv_if_eq (tgt := 17) hx hb d_Bd_hasMark_10 (by decide) (fun c2 => ?_) (fun c2 => ?_)
  · replace h := (if_pos c2).symm.trans h
    refine lv_iconst (v := (0 : Int32)) hx hb d_Bd_hasMark_17 (by decide) ?_
    cases h
    exact q_zretW hx hb hr hlocks (by decide) hP hD hS d_Bd_hasMark_18
  · replace h := (if_neg c2).symm.trans h
    refine lv_iconst (v := (1 : Int32)) hx hb d_Bd_hasMark_13 (by decide) ?_
    refine lv_goto (tgt := 18) hx hb d_Bd_hasMark_14 (by decide) ?_
    cases h
    exact q_zretW hx hb hr hlocks (by decide) hP hD hS d_Bd_hasMark_18

theorem gw_182 : (.code ⟨"PlayStates$Board", "hasMark", "(II)Z"⟩ prog_2_method_3_code 3 (some .boolean) : Cond) ∈ GW := gT 208 (by decide +kernel) (by decide +kernel)
theorem gw_179 : (.methodLink "PlayStates$Board" 24 ⟨"PlayStates$Board", "hasMark", "(II)Z"⟩ : Cond) ∈ GW := gT 205 (by decide +kernel) (by decide +kernel)
theorem gw_34 : (.initialized "PlayStates$Board" : Cond) ∈ GW := gT 4 (by decide +kernel) (by decide +kernel)
theorem gw_180 : (.instanceMethod ⟨"PlayStates$Board", "hasMark", "(II)Z"⟩ : Cond) ∈ GW := gT 206 (by decide +kernel) (by decide +kernel)
theorem gw_181 : (.selects "PlayStates$Board" ⟨"PlayStates$Board", "hasMark", "(II)Z"⟩ ⟨"PlayStates$Board", "hasMark", "(II)Z"⟩ : Cond) ∈ GW := gT 207 (by decide +kernel) (by decide +kernel)
theorem gw_79 : (.fieldLink "PlayStates$Board" 9 "PlayStates$Board" "entries" "[I" : Cond) ∈ GW := gT 61 (by decide +kernel) (by decide +kernel)
theorem d_Bd_asItIs_0 : decode prog_2_method_4_code 0 = .ok (.iload_n 2, 1) := by decide +kernel
theorem d_Bd_asItIs_1 : decode prog_2_method_4_code 1 = .ok (.bipush 10, 2) := by decide +kernel
theorem d_Bd_asItIs_3 : decode prog_2_method_4_code 3 = .ok (.if_icmp .ge 10, 3) := by decide +kernel
theorem d_Bd_asItIs_6 : decode prog_2_method_4_code 6 = .ok (.aload_n 0, 1) := by decide +kernel
theorem d_Bd_asItIs_7 : decode prog_2_method_4_code 7 = .ok (.getfield 9, 3) := by decide +kernel
theorem d_Bd_asItIs_10 : decode prog_2_method_4_code 10 = .ok (.iload_n 1, 1) := by decide +kernel
theorem d_Bd_asItIs_11 : decode prog_2_method_4_code 11 = .ok (.iaload, 1) := by decide +kernel
theorem d_Bd_asItIs_12 : decode prog_2_method_4_code 12 = .ok (.ireturn, 1) := by decide +kernel
theorem d_Bd_asItIs_13 : decode prog_2_method_4_code 13 = .ok (.iload_n 2, 1) := by decide +kernel
theorem d_Bd_asItIs_14 : decode prog_2_method_4_code 14 = .ok (.bipush 20, 2) := by decide +kernel
theorem d_Bd_asItIs_16 : decode prog_2_method_4_code 16 = .ok (.if_icmp .ge 10, 3) := by decide +kernel
theorem d_Bd_asItIs_19 : decode prog_2_method_4_code 19 = .ok (.iload_n 2, 1) := by decide +kernel
theorem d_Bd_asItIs_20 : decode prog_2_method_4_code 20 = .ok (.bipush 10, 2) := by decide +kernel
theorem d_Bd_asItIs_22 : decode prog_2_method_4_code 22 = .ok (.isub, 1) := by decide +kernel
theorem d_Bd_asItIs_23 : decode prog_2_method_4_code 23 = .ok (.goto 7, 3) := by decide +kernel
theorem d_Bd_asItIs_26 : decode prog_2_method_4_code 26 = .ok (.iload_n 2, 1) := by decide +kernel
theorem d_Bd_asItIs_27 : decode prog_2_method_4_code 27 = .ok (.bipush 20, 2) := by decide +kernel
theorem d_Bd_asItIs_29 : decode prog_2_method_4_code 29 = .ok (.isub, 1) := by decide +kernel
theorem d_Bd_asItIs_30 : decode prog_2_method_4_code 30 = .ok (.istore_n 3, 1) := by decide +kernel
theorem d_Bd_asItIs_31 : decode prog_2_method_4_code 31 = .ok (.aload_n 0, 1) := by decide +kernel
theorem d_Bd_asItIs_32 : decode prog_2_method_4_code 32 = .ok (.iload_n 1, 1) := by decide +kernel
theorem d_Bd_asItIs_33 : decode prog_2_method_4_code 33 = .ok (.iload_n 3, 1) := by decide +kernel
theorem d_Bd_asItIs_34 : decode prog_2_method_4_code 34 = .ok (.invokevirtual 24, 3) := by decide +kernel
theorem d_Bd_asItIs_37 : decode prog_2_method_4_code 37 = .ok (.ifCond .eq 10, 3) := by decide +kernel
theorem d_Bd_asItIs_40 : decode prog_2_method_4_code 40 = .ok (.bipush 10, 2) := by decide +kernel
theorem d_Bd_asItIs_42 : decode prog_2_method_4_code 42 = .ok (.iload_n 3, 1) := by decide +kernel
theorem d_Bd_asItIs_43 : decode prog_2_method_4_code 43 = .ok (.iadd, 1) := by decide +kernel
theorem d_Bd_asItIs_44 : decode prog_2_method_4_code 44 = .ok (.goto 7, 3) := by decide +kernel
theorem d_Bd_asItIs_47 : decode prog_2_method_4_code 47 = .ok (.bipush 20, 2) := by decide +kernel
theorem d_Bd_asItIs_49 : decode prog_2_method_4_code 49 = .ok (.iload_n 3, 1) := by decide +kernel
theorem d_Bd_asItIs_50 : decode prog_2_method_4_code 50 = .ok (.iadd, 1) := by decide +kernel
theorem d_Bd_asItIs_51 : decode prog_2_method_4_code 51 = .ok (.ireturn, 1) := by decide +kernel
-- PlayStates$Board.asItIs(II)I 
def ws_Bd_asItIs (G : gG) (a_t a_t_entries a_t_markBits : Nat) (n : Nat) (x_t_entries : Nat → Int32) (x_t_markBits : Nat → Int32) : va_W := [(a_t, .inr (0, [.ref a_t_entries, .ref a_t_markBits])), (a_t_entries, .inl (G.2 0, n, .inl x_t_entries)), (a_t_markBits, .inl (G.2 0, n, .inl x_t_markBits))]
def f_Bd_asItIs (n : Nat) (p0 : Int32) (p1 : Int32) (x_t_entries : Nat → Int32) (x_t_markBits : Nat → Int32) : Option (Int32) :=
  (if (10 : Int32) ≤ p1 then (if (20 : Int32) ≤ p1 then ((f_Bd_hasMark n p0 (p1 - (20 : Int32)) x_t_markBits).bind fun y3 => (if y3 = 0 then some ((20 : Int32) + (p1 - (20 : Int32))) else some ((10 : Int32) + (p1 - (20 : Int32))))) else ((f_Bd_hasMark n p0 (p1 - (10 : Int32)) x_t_markBits).bind fun y5 => (if y5 = 0 then some ((20 : Int32) + (p1 - (10 : Int32))) else some ((10 : Int32) + (p1 - (10 : Int32)))))) else (if inB p0 n then some (x_t_entries p0.toNatClampNeg) else none))
set_option maxHeartbeats 4000000 in
set_option maxRecDepth 100000 in
theorem c_Bd_asItIs (l : Launch) (G : gG) (sz : Nat) (a_t a_t_entries a_t_markBits : Nat) (n : Nat) (p0 : Int32) (p1 : Int32) (x_t_entries : Nat → Int32) (x_t_markBits : Nat → Int32) (r : Int32) (h : f_Bd_asItIs n p0 p1 x_t_entries x_t_markBits = some r)  : cN l y_Bd_asItIs w_Bd_asItIs { frames := 1, cells := 0, slots := 0, locals := 22 } G sz [.ref a_t, .int p0, .int p1] (ws_Bd_asItIs G a_t a_t_entries a_t_markBits n x_t_entries x_t_markBits) (some (.int r)) (wB G (ws_Bd_asItIs G a_t a_t_entries a_t_markBits n x_t_entries x_t_markBits)) 0 0 := by
  refine cN_ofW (cc := prog_2_method_4_code) (maxL := 4) (ret := (some .int)) (by decide) rfl (Nat.le_of_ble_eq_true rfl) ?_
  intro p e s m args below meth c A H locs ls hx hb hr hts hown hlocks hin hml hK hN hP hD hA hS hl
  replace hl : lv_has ls 4 [(0, .ref a_t), (1, .int p0), (2, .int p1)] := hl
  replace hown : s.vm.findClass "PlayStates$Board" = some m.cls := hown
  unfold f_Bd_asItIs at h
  refine lv_iload_n hx hb d_Bd_asItIs_0 rfl (lv_at hl 2 rfl) ?_
  refine lv_bipush (v := (10 : Int32)) hx hb d_Bd_asItIs_1 (by decide) ?_
  refine lv_icmp_ge (tgt := 13) hx hb d_Bd_asItIs_3 (by decide) (fun c1 => ?_) (fun c1 => ?_)
  · replace h := (if_pos c1).symm.trans h
    refine lv_iload_n hx hb d_Bd_asItIs_13 rfl (lv_at hl 2 rfl) ?_
    refine lv_bipush (v := (20 : Int32)) hx hb d_Bd_asItIs_14 (by decide) ?_
    refine lv_icmp_ge (tgt := 26) hx hb d_Bd_asItIs_16 (by decide) (fun c2 => ?_) (fun c2 => ?_)
    · replace h := (if_pos c2).symm.trans h
      refine lv_iload_n hx hb d_Bd_asItIs_26 rfl (lv_at hl 2 rfl) ?_
      refine lv_bipush (v := (20 : Int32)) hx hb d_Bd_asItIs_27 (by decide) ?_
      refine lv_isub hx hb d_Bd_asItIs_29 ?_
      refine lv_istore_n (lv' := [(3, .int (p1 - (20 : Int32))), (0, .ref a_t), (1, .int p0), (2, .int p1)]) hx hb d_Bd_asItIs_30 rfl hl (by decide) rfl (fun ls hl => ?_)
      refine lv_aload_n hx hb d_Bd_asItIs_31 rfl (lv_at hl 1 rfl) ?_
      refine lv_iload_n hx hb d_Bd_asItIs_32 rfl (lv_at hl 2 rfl) ?_
      refine lv_iload_n hx hb d_Bd_asItIs_33 rfl (lv_at hl 0 rfl) ?_
      obtain ⟨y3, hy3, h⟩ := o_bind h
      have hPc := hP.sub (ws' := (ws_Bd_hasMark G a_t a_t_entries a_t_markBits n x_t_markBits)) [0, 2] rfl
      have hDc := hD.sub (ws' := (ws_Bd_hasMark G a_t a_t_entries a_t_markBits n x_t_markBits)) [0, 2] (by decide) rfl
      have hFc := va_free (wc := (ws_Bd_hasMark G a_t a_t_entries a_t_markBits n x_t_markBits)) hD hS hA [0, 2] rfl
      refine q_call1 (va_runV (As := [.int p0, .int (p1 - (20 : Int32))]) (rest := []) ⟨hx, hb, hml, hown, hts⟩ (c_Bd_hasMark l G H.size a_t a_t_entries a_t_markBits n p0 (p1 - (20 : Int32)) x_t_markBits _ hy3) (cwV 2 hts (gV gw_179 gw_180 gw_181 gw_34 gw_182) rfl rfl rfl (by decide +kernel) ⟨Nat.le_of_ble_eq_true rfl, Nat.le_of_ble_eq_true rfl⟩) (pV hK hN hPc hDc (ci := 0) (q0 := 0) rfl rfl) rfl rfl hl.1 rfl (lv_room (Nat.le_of_ble_eq_true rfl)) d_Bd_asItIs_34 ⟨Nat.le_of_ble_eq_true rfl, Nat.le_of_ble_eq_true rfl⟩) hS (fun q _ h => hFc q h) hFc (fun H1 locs hB hz hk hS => ?_)
      obtain ⟨hP, hD⟩ := q_join (wr := [(a_t_entries, .inl (G.2 0, n, .inl x_t_entries))]) (wn := (ws_Bd_asItIs G a_t a_t_entries a_t_markBits n x_t_entries x_t_markBits)) hP hD [0, 2] [1] [1, 0, 2] rfl rfl (by decide) (by decide) rfl (by decide) hk hFc hB.1 hB.2
      generalize H1 = H at hP hS ⊢
      replace hP : va_P G.1 vwCl (ws_Bd_asItIs G a_t a_t_entries a_t_markBits n x_t_entries x_t_markBits) H := hP
      replace hD : va_D A (ws_Bd_asItIs G a_t a_t_entries a_t_markBits n x_t_entries x_t_markBits) := hD
      refine lv_if_eq (tgt := 47) hx hb d_Bd_asItIs_37 (by decide) (fun c4 => ?_) (fun c4 => ?_)
      · replace h := (if_pos c4).symm.trans h
        refine lv_bipush (v := (20 : Int32)) hx hb d_Bd_asItIs_47 (by decide) ?_
        refine lv_iload_n hx hb d_Bd_asItIs_49 rfl (lv_at hl 0 rfl) ?_
        refine lv_iadd hx hb d_Bd_asItIs_50 ?_
        cases h
        exact q_iretW hx hb hr hlocks hP hD hS d_Bd_asItIs_51
      · replace h := (if_neg c4).symm.trans h
        refine lv_bipush (v := (10 : Int32)) hx hb d_Bd_asItIs_40 (by decide) ?_
        refine lv_iload_n hx hb d_Bd_asItIs_42 rfl (lv_at hl 0 rfl) ?_
        refine lv_iadd hx hb d_Bd_asItIs_43 ?_
        refine lv_goto (tgt := 51) hx hb d_Bd_asItIs_44 (by decide) ?_
        cases h
        exact q_iretW hx hb hr hlocks hP hD hS d_Bd_asItIs_51
    · replace h := (if_neg c2).symm.trans h
      refine lv_iload_n hx hb d_Bd_asItIs_19 rfl (lv_at hl 2 rfl) ?_
      refine lv_bipush (v := (10 : Int32)) hx hb d_Bd_asItIs_20 (by decide) ?_
      refine lv_isub hx hb d_Bd_asItIs_22 ?_
      refine lv_goto (tgt := 30) hx hb d_Bd_asItIs_23 (by decide) ?_
      refine lv_istore_n (lv' := [(3, .int (p1 - (10 : Int32))), (0, .ref a_t), (1, .int p0), (2, .int p1)]) hx hb d_Bd_asItIs_30 rfl hl (by decide) rfl (fun ls hl => ?_)
      refine lv_aload_n hx hb d_Bd_asItIs_31 rfl (lv_at hl 1 rfl) ?_
      refine lv_iload_n hx hb d_Bd_asItIs_32 rfl (lv_at hl 2 rfl) ?_
      refine lv_iload_n hx hb d_Bd_asItIs_33 rfl (lv_at hl 0 rfl) ?_
      obtain ⟨y5, hy5, h⟩ := o_bind h
      have hPc := hP.sub (ws' := (ws_Bd_hasMark G a_t a_t_entries a_t_markBits n x_t_markBits)) [0, 2] rfl
      have hDc := hD.sub (ws' := (ws_Bd_hasMark G a_t a_t_entries a_t_markBits n x_t_markBits)) [0, 2] (by decide) rfl
      have hFc := va_free (wc := (ws_Bd_hasMark G a_t a_t_entries a_t_markBits n x_t_markBits)) hD hS hA [0, 2] rfl
      refine q_call1 (va_runV (As := [.int p0, .int (p1 - (10 : Int32))]) (rest := []) ⟨hx, hb, hml, hown, hts⟩ (c_Bd_hasMark l G H.size a_t a_t_entries a_t_markBits n p0 (p1 - (10 : Int32)) x_t_markBits _ hy5) (cwV 2 hts (gV gw_179 gw_180 gw_181 gw_34 gw_182) rfl rfl rfl (by decide +kernel) ⟨Nat.le_of_ble_eq_true rfl, Nat.le_of_ble_eq_true rfl⟩) (pV hK hN hPc hDc (ci := 0) (q0 := 0) rfl rfl) rfl rfl hl.1 rfl (lv_room (Nat.le_of_ble_eq_true rfl)) d_Bd_asItIs_34 ⟨Nat.le_of_ble_eq_true rfl, Nat.le_of_ble_eq_true rfl⟩) hS (fun q _ h => hFc q h) hFc (fun H1 locs hB hz hk hS => ?_)
      obtain ⟨hP, hD⟩ := q_join (wr := [(a_t_entries, .inl (G.2 0, n, .inl x_t_entries))]) (wn := (ws_Bd_asItIs G a_t a_t_entries a_t_markBits n x_t_entries x_t_markBits)) hP hD [0, 2] [1] [1, 0, 2] rfl rfl (by decide) (by decide) rfl (by decide) hk hFc hB.1 hB.2
      generalize H1 = H at hP hS ⊢
      replace hP : va_P G.1 vwCl (ws_Bd_asItIs G a_t a_t_entries a_t_markBits n x_t_entries x_t_markBits) H := hP
      replace hD : va_D A (ws_Bd_asItIs G a_t a_t_entries a_t_markBits n x_t_entries x_t_markBits) := hD
      refine lv_if_eq (tgt := 47) hx hb d_Bd_asItIs_37 (by decide) (fun c6 => ?_) (fun c6 => ?_)
      · replace h := (if_pos c6).symm.trans h
        refine lv_bipush (v := (20 : Int32)) hx hb d_Bd_asItIs_47 (by decide) ?_
        refine lv_iload_n hx hb d_Bd_asItIs_49 rfl (lv_at hl 0 rfl) ?_
        refine lv_iadd hx hb d_Bd_asItIs_50 ?_
        cases h
        exact q_iretW hx hb hr hlocks hP hD hS d_Bd_asItIs_51
      · replace h := (if_neg c6).symm.trans h
        refine lv_bipush (v := (10 : Int32)) hx hb d_Bd_asItIs_40 (by decide) ?_
        refine lv_iload_n hx hb d_Bd_asItIs_42 rfl (lv_at hl 0 rfl) ?_
        refine lv_iadd hx hb d_Bd_asItIs_43 ?_
        refine lv_goto (tgt := 51) hx hb d_Bd_asItIs_44 (by decide) ?_
        cases h
        exact q_iretW hx hb hr hlocks hP hD hS d_Bd_asItIs_51
  · replace h := (if_neg c1).symm.trans h
    refine lv_aload_n hx hb d_Bd_asItIs_6 rfl (lv_at hl 0 rfl) ?_
    refine va_get (D := G.1) (ci := 0) (v := .ref a_t_entries) (C := "PlayStates$Board") (T := TBd) (N := 2) hx hb hts iw_0 hown hK hP 0 rfl rfl 0 (by decide) (hts _ gw_79) (fun _ h9 => h9) rfl d_Bd_asItIs_7 ?_
    refine lv_iload_n hx hb d_Bd_asItIs_10 rfl (lv_at hl 1 rfl) ?_
    obtain ⟨i7, h⟩ := o_if h
    refine va_iald (n := n) (f := x_t_entries) hx hb hK hP 1 0 rfl rfl i7 d_Bd_asItIs_11 ?_
    cases h
    exact q_iretW hx hb hr hlocks hP hD hS d_Bd_asItIs_12

theorem d_Bd_put_0 : decode prog_2_method_5_code 0 = .ok (.iload_n 2, 1) := by decide +kernel
theorem d_Bd_put_1 : decode prog_2_method_5_code 1 = .ok (.bipush 10, 2) := by decide +kernel
theorem d_Bd_put_3 : decode prog_2_method_5_code 3 = .ok (.if_icmp .ge 13, 3) := by decide +kernel
theorem d_Bd_put_6 : decode prog_2_method_5_code 6 = .ok (.aload_n 0, 1) := by decide +kernel
theorem d_Bd_put_7 : decode prog_2_method_5_code 7 = .ok (.getfield 9, 3) := by decide +kernel
theorem d_Bd_put_10 : decode prog_2_method_5_code 10 = .ok (.iload_n 1, 1) := by decide +kernel
theorem d_Bd_put_11 : decode prog_2_method_5_code 11 = .ok (.iload_n 2, 1) := by decide +kernel
theorem d_Bd_put_12 : decode prog_2_method_5_code 12 = .ok (.iastore, 1) := by decide +kernel
theorem d_Bd_put_13 : decode prog_2_method_5_code 13 = .ok (.goto 44, 3) := by decide +kernel
theorem d_Bd_put_16 : decode prog_2_method_5_code 16 = .ok (.iload_n 2, 1) := by decide +kernel
theorem d_Bd_put_17 : decode prog_2_method_5_code 17 = .ok (.bipush 20, 2) := by decide +kernel
theorem d_Bd_put_19 : decode prog_2_method_5_code 19 = .ok (.if_icmp .ge 21, 3) := by decide +kernel
theorem d_Bd_put_22 : decode prog_2_method_5_code 22 = .ok (.aload_n 0, 1) := by decide +kernel
theorem d_Bd_put_23 : decode prog_2_method_5_code 23 = .ok (.getfield 15, 3) := by decide +kernel
theorem d_Bd_put_26 : decode prog_2_method_5_code 26 = .ok (.iload_n 1, 1) := by decide +kernel
theorem d_Bd_put_27 : decode prog_2_method_5_code 27 = .ok (.dup2, 1) := by decide +kernel
theorem d_Bd_put_28 : decode prog_2_method_5_code 28 = .ok (.iaload, 1) := by decide +kernel
theorem d_Bd_put_29 : decode prog_2_method_5_code 29 = .ok (.iconst 1, 1) := by decide +kernel
theorem d_Bd_put_30 : decode prog_2_method_5_code 30 = .ok (.iload_n 2, 1) := by decide +kernel
theorem d_Bd_put_31 : decode prog_2_method_5_code 31 = .ok (.bipush 10, 2) := by decide +kernel
theorem d_Bd_put_33 : decode prog_2_method_5_code 33 = .ok (.isub, 1) := by decide +kernel
theorem d_Bd_put_34 : decode prog_2_method_5_code 34 = .ok (.ishl, 1) := by decide +kernel
theorem d_Bd_put_35 : decode prog_2_method_5_code 35 = .ok (.ior, 1) := by decide +kernel
theorem d_Bd_put_36 : decode prog_2_method_5_code 36 = .ok (.iastore, 1) := by decide +kernel
theorem d_Bd_put_37 : decode prog_2_method_5_code 37 = .ok (.goto 20, 3) := by decide +kernel
theorem d_Bd_put_40 : decode prog_2_method_5_code 40 = .ok (.aload_n 0, 1) := by decide +kernel
theorem d_Bd_put_41 : decode prog_2_method_5_code 41 = .ok (.getfield 15, 3) := by decide +kernel
theorem d_Bd_put_44 : decode prog_2_method_5_code 44 = .ok (.iload_n 1, 1) := by decide +kernel
theorem d_Bd_put_45 : decode prog_2_method_5_code 45 = .ok (.dup2, 1) := by decide +kernel
theorem d_Bd_put_46 : decode prog_2_method_5_code 46 = .ok (.iaload, 1) := by decide +kernel
theorem d_Bd_put_47 : decode prog_2_method_5_code 47 = .ok (.iconst 1, 1) := by decide +kernel
theorem d_Bd_put_48 : decode prog_2_method_5_code 48 = .ok (.iload_n 2, 1) := by decide +kernel
theorem d_Bd_put_49 : decode prog_2_method_5_code 49 = .ok (.bipush 20, 2) := by decide +kernel
theorem d_Bd_put_51 : decode prog_2_method_5_code 51 = .ok (.isub, 1) := by decide +kernel
theorem d_Bd_put_52 : decode prog_2_method_5_code 52 = .ok (.ishl, 1) := by decide +kernel
theorem d_Bd_put_53 : decode prog_2_method_5_code 53 = .ok (.iconst (-1), 1) := by decide +kernel
theorem d_Bd_put_54 : decode prog_2_method_5_code 54 = .ok (.ixor, 1) := by decide +kernel
theorem d_Bd_put_55 : decode prog_2_method_5_code 55 = .ok (.iand, 1) := by decide +kernel
theorem d_Bd_put_56 : decode prog_2_method_5_code 56 = .ok (.iastore, 1) := by decide +kernel
theorem d_Bd_put_57 : decode prog_2_method_5_code 57 = .ok (.return_, 1) := by decide +kernel
-- PlayStates$Board.put(II)V 
def ws_Bd_put (G : gG) (a_t a_t_entries a_t_markBits : Nat) (n : Nat) (x_t_entries : Nat → Int32) (x_t_markBits : Nat → Int32) : va_W := [(a_t, .inr (0, [.ref a_t_entries, .ref a_t_markBits])), (a_t_entries, .inl (G.2 0, n, .inl x_t_entries)), (a_t_markBits, .inl (G.2 0, n, .inl x_t_markBits))]
def f_Bd_put (n : Nat) (p0 : Int32) (p1 : Int32) (x_t_entries : Nat → Int32) (x_t_markBits : Nat → Int32) : Option ((Nat → Int32) × (Nat → Int32)) :=
  (if (10 : Int32) ≤ p1 then (if (20 : Int32) ≤ p1 then (if inB p0 n then (if inB p0 n then some (x_t_entries, (upd x_t_markBits p0.toNatClampNeg ((x_t_markBits p0.toNatClampNeg) &&& (((1 : Int32) <<< ((p1 - (20 : Int32)) &&& 31)) ^^^ (-1 : Int32))))) else none) else none) else (if inB p0 n then (if inB p0 n then some (x_t_entries, (upd x_t_markBits p0.toNatClampNeg ((x_t_markBits p0.toNatClampNeg) ||| ((1 : Int32) <<< ((p1 - (10 : Int32)) &&& 31))))) else none) else none)) else (if inB p0 n then some ((upd x_t_entries p0.toNatClampNeg p1), x_t_markBits) else none))
set_option maxHeartbeats 4000000 in
set_option maxRecDepth 100000 in
theorem c_Bd_put (l : Launch) (G : gG) (sz : Nat) (a_t a_t_entries a_t_markBits : Nat) (n : Nat) (p0 : Int32) (p1 : Int32) (x_t_entries : Nat → Int32) (x_t_markBits : Nat → Int32) (x_t_entries' : Nat → Int32) (x_t_markBits' : Nat → Int32) (h : f_Bd_put n p0 p1 x_t_entries x_t_markBits = some (x_t_entries', x_t_markBits'))  : cN l y_Bd_put w_Bd_put { frames := 0, cells := 0, slots := 0, locals := 0 } G sz [.ref a_t, .int p0, .int p1] (ws_Bd_put G a_t a_t_entries a_t_markBits n x_t_entries x_t_markBits) none (wB G (ws_Bd_put G a_t a_t_entries a_t_markBits n x_t_entries' x_t_markBits')) 0 0 := by
  refine cN_ofW (cc := prog_2_method_5_code) (maxL := 3) (ret := none) (by decide) rfl (Nat.le_of_ble_eq_true rfl) ?_
  intro p e s m args below meth c A H locs ls hx hb hr hts hown hlocks hin hml hK hN hP hD hA hS hl
  replace hl : lv_has ls 3 [(0, .ref a_t), (1, .int p0), (2, .int p1)] := hl
  replace hown : s.vm.findClass "PlayStates$Board" = some m.cls := hown
  unfold f_Bd_put at h
  refine lv_iload_n hx hb d_Bd_put_0 rfl (lv_at hl 2 rfl) ?_
  refine lv_bipush (v := (10 : Int32)) hx hb d_Bd_put_1 (by decide) ?_
  refine lv_icmp_ge (tgt := 16) hx hb d_Bd_put_3 (by decide) (fun c1 => ?_) (fun c1 => ?_)
  · replace h := (if_pos c1).symm.trans h
    refine lv_iload_n hx hb d_Bd_put_16 rfl (lv_at hl 2 rfl) ?_
    refine lv_bipush (v := (20 : Int32)) hx hb d_Bd_put_17 (by decide) ?_
    refine lv_icmp_ge (tgt := 40) hx hb d_Bd_put_19 (by decide) (fun c2 => ?_) (fun c2 => ?_)
    · replace h := (if_pos c2).symm.trans h
      refine lv_aload_n hx hb d_Bd_put_40 rfl (lv_at hl 0 rfl) ?_
      refine va_get (D := G.1) (ci := 0) (v := .ref a_t_markBits) (C := "PlayStates$Board") (T := TBd) (N := 2) hx hb hts iw_0 hown hK hP 0 rfl rfl 1 (by decide) (hts _ gw_80) (fun _ h9 => h9) rfl d_Bd_put_41 ?_
      refine lv_iload_n hx hb d_Bd_put_44 rfl (lv_at hl 1 rfl) ?_
      refine lv_dup2_11 hx hb d_Bd_put_45 rfl rfl ?_
      obtain ⟨i3, h⟩ := o_if h
      refine va_iald (n := n) (f := x_t_markBits) hx hb hK hP 2 0 rfl rfl i3 d_Bd_put_46 ?_
      refine lv_iconst (v := (1 : Int32)) hx hb d_Bd_put_47 (by decide) ?_
      refine lv_iload_n hx hb d_Bd_put_48 rfl (lv_at hl 2 rfl) ?_
      refine lv_bipush (v := (20 : Int32)) hx hb d_Bd_put_49 (by decide) ?_
      refine lv_isub hx hb d_Bd_put_51 ?_
      refine lv_ishl hx hb d_Bd_put_52 ?_
      refine lv_iconst (v := (-1 : Int32)) hx hb d_Bd_put_53 (by decide) ?_
      refine lv_ixor hx hb d_Bd_put_54 ?_
      refine lv_iand hx hb d_Bd_put_55 ?_
      obtain ⟨i4, h⟩ := o_if h
      refine va_iast (n := n) (f := x_t_markBits) hx hb hK hP hD hS 2 0 rfl rfl i4 d_Bd_put_56 (fun H locs hP hD hS => ?_)
      replace hP : va_P G.1 vwCl (ws_Bd_put G a_t a_t_entries a_t_markBits n x_t_entries (upd x_t_markBits p0.toNatClampNeg ((x_t_markBits p0.toNatClampNeg) &&& (((1 : Int32) <<< ((p1 - (20 : Int32)) &&& 31)) ^^^ (-1 : Int32))))) H := hP
      replace hD : va_D A (ws_Bd_put G a_t a_t_entries a_t_markBits n x_t_entries (upd x_t_markBits p0.toNatClampNeg ((x_t_markBits p0.toNatClampNeg) &&& (((1 : Int32) <<< ((p1 - (20 : Int32)) &&& 31)) ^^^ (-1 : Int32))))) := hD
      cases h
      exact q_vretW hx hb hr hlocks hP hD hS d_Bd_put_57
    · replace h := (if_neg c2).symm.trans h
      refine lv_aload_n hx hb d_Bd_put_22 rfl (lv_at hl 0 rfl) ?_
      refine va_get (D := G.1) (ci := 0) (v := .ref a_t_markBits) (C := "PlayStates$Board") (T := TBd) (N := 2) hx hb hts iw_0 hown hK hP 0 rfl rfl 1 (by decide) (hts _ gw_80) (fun _ h9 => h9) rfl d_Bd_put_23 ?_
      refine lv_iload_n hx hb d_Bd_put_26 rfl (lv_at hl 1 rfl) ?_
      refine lv_dup2_11 hx hb d_Bd_put_27 rfl rfl ?_
      obtain ⟨i5, h⟩ := o_if h
      refine va_iald (n := n) (f := x_t_markBits) hx hb hK hP 2 0 rfl rfl i5 d_Bd_put_28 ?_
      refine lv_iconst (v := (1 : Int32)) hx hb d_Bd_put_29 (by decide) ?_
      refine lv_iload_n hx hb d_Bd_put_30 rfl (lv_at hl 2 rfl) ?_
      refine lv_bipush (v := (10 : Int32)) hx hb d_Bd_put_31 (by decide) ?_
      refine lv_isub hx hb d_Bd_put_33 ?_
      refine lv_ishl hx hb d_Bd_put_34 ?_
      refine lv_ior hx hb d_Bd_put_35 ?_
      obtain ⟨i6, h⟩ := o_if h
      refine va_iast (n := n) (f := x_t_markBits) hx hb hK hP hD hS 2 0 rfl rfl i6 d_Bd_put_36 (fun H locs hP hD hS => ?_)
      replace hP : va_P G.1 vwCl (ws_Bd_put G a_t a_t_entries a_t_markBits n x_t_entries (upd x_t_markBits p0.toNatClampNeg ((x_t_markBits p0.toNatClampNeg) ||| ((1 : Int32) <<< ((p1 - (10 : Int32)) &&& 31))))) H := hP
      replace hD : va_D A (ws_Bd_put G a_t a_t_entries a_t_markBits n x_t_entries (upd x_t_markBits p0.toNatClampNeg ((x_t_markBits p0.toNatClampNeg) ||| ((1 : Int32) <<< ((p1 - (10 : Int32)) &&& 31))))) := hD
      refine lv_goto (tgt := 57) hx hb d_Bd_put_37 (by decide) ?_
      cases h
      exact q_vretW hx hb hr hlocks hP hD hS d_Bd_put_57
  · replace h := (if_neg c1).symm.trans h
    refine lv_aload_n hx hb d_Bd_put_6 rfl (lv_at hl 0 rfl) ?_
    refine va_get (D := G.1) (ci := 0) (v := .ref a_t_entries) (C := "PlayStates$Board") (T := TBd) (N := 2) hx hb hts iw_0 hown hK hP 0 rfl rfl 0 (by decide) (hts _ gw_79) (fun _ h9 => h9) rfl d_Bd_put_7 ?_
    refine lv_iload_n hx hb d_Bd_put_10 rfl (lv_at hl 1 rfl) ?_
    refine lv_iload_n hx hb d_Bd_put_11 rfl (lv_at hl 2 rfl) ?_
    obtain ⟨i7, h⟩ := o_if h
    refine va_iast (n := n) (f := x_t_entries) hx hb hK hP hD hS 1 0 rfl rfl i7 d_Bd_put_12 (fun H locs hP hD hS => ?_)
    replace hP : va_P G.1 vwCl (ws_Bd_put G a_t a_t_entries a_t_markBits n (upd x_t_entries p0.toNatClampNeg p1) x_t_markBits) H := hP
    replace hD : va_D A (ws_Bd_put G a_t a_t_entries a_t_markBits n (upd x_t_entries p0.toNatClampNeg p1) x_t_markBits) := hD
    refine lv_goto (tgt := 57) hx hb d_Bd_put_13 (by decide) ?_
    cases h
    exact q_vretW hx hb hr hlocks hP hD hS d_Bd_put_57

theorem gw_145 : (.fieldLink "PlayStates$Clock" 7 "PlayStates$Clock" "lastTold" "J" : Cond) ∈ GW := gT 153 (by decide +kernel) (by decide +kernel)
theorem d_Ck_mayBeTold_0 : decode prog_3_method_2_code 0 = .ok (.lload_n 1, 1) := by decide +kernel
theorem d_Ck_mayBeTold_1 : decode prog_3_method_2_code 1 = .ok (.aload_n 0, 1) := by decide +kernel
theorem d_Ck_mayBeTold_2 : decode prog_3_method_2_code 2 = .ok (.getfield 7, 3) := by decide +kernel
theorem d_Ck_mayBeTold_5 : decode prog_3_method_2_code 5 = .ok (.lcmp, 1) := by decide +kernel
theorem d_Ck_mayBeTold_6 : decode prog_3_method_2_code 6 = .ok (.ifCond .lt 7, 3) := by decide +kernel
theorem d_Ck_mayBeTold_9 : decode prog_3_method_2_code 9 = .ok (.iconst 1, 1) := by decide +kernel
theorem d_Ck_mayBeTold_10 : decode prog_3_method_2_code 10 = .ok (.goto 4, 3) := by decide +kernel
theorem d_Ck_mayBeTold_13 : decode prog_3_method_2_code 13 = .ok (.iconst 0, 1) := by decide +kernel
theorem d_Ck_mayBeTold_14 : decode prog_3_method_2_code 14 = .ok (.ireturn, 1) := by decide +kernel
-- PlayStates$Clock.mayBeTold(J)Z 
def ws_Ck_mayBeTold (G : gG) (a_t : Nat)  (x_t_running : Int32) (x_t_lastTold : Int64) (x_t_counted : Int64) : va_W := [(a_t, .inr (1, [.int x_t_running, .long x_t_lastTold, .long x_t_counted]))]
def f_Ck_mayBeTold  (p0 : Int64) (x_t_running : Int32) (x_t_lastTold : Int64) (x_t_counted : Int64) : Option (Int32) :=
  (if (lg_cmp p0 x_t_lastTold) < 0 then some (0 : Int32) else some (1 : Int32))
set_option maxHeartbeats 4000000 in
set_option maxRecDepth 100000 in
theorem c_Ck_mayBeTold (l : Launch) (G : gG) (sz : Nat) (a_t : Nat)  (p0 : Int64) (x_t_running : Int32) (x_t_lastTold : Int64) (x_t_counted : Int64) (r : Int32) (h : f_Ck_mayBeTold p0 x_t_running x_t_lastTold x_t_counted = some r)  : cN l y_Ck_mayBeTold w_Ck_mayBeTold { frames := 0, cells := 0, slots := 0, locals := 0 } G sz [.ref a_t, .long p0] (ws_Ck_mayBeTold G a_t x_t_running x_t_lastTold x_t_counted) (some (.int r)) (wB G (ws_Ck_mayBeTold G a_t x_t_running x_t_lastTold x_t_counted)) 0 0 := by
  refine cN_ofW (cc := prog_3_method_2_code) (maxL := 3) (ret := (some .boolean)) (by decide) rfl (Nat.le_of_ble_eq_true rfl) ?_
  intro p e s m args below meth c A H locs ls hx hb hr hts hown hlocks hin hml hK hN hP hD hA hS hl
  replace hl : lv_has ls 3 [(0, .ref a_t), (1, .long p0)] := hl
  replace hown : s.vm.findClass "PlayStates$Clock" = some m.cls := hown
  unfold f_Ck_mayBeTold at h
  refine lv_lload_n hx hb d_Ck_mayBeTold_0 rfl (lv_at hl 1 rfl) ?_
  refine lv_aload_n hx hb d_Ck_mayBeTold_1 rfl (lv_at hl 0 rfl) ?_
  refine va_get (D := G.1) (ci := 1) (v := .long x_t_lastTold) (C := "PlayStates$Clock") (T := TCk) (N := 3) hx hb hts iw_1 hown hK hP 0 rfl rfl 1 (by decide) (hts _ gw_145) (fun _ h9 => h9) rfl d_Ck_mayBeTold_2 ?_
  refine W.lcmp hx hb d_Ck_mayBeTold_5 ?_
  refine lv_if_lt (tgt := 13) hx hb d_Ck_mayBeTold_6 (by decide) (fun c1 => ?_) (fun c1 => ?_)
  · replace h := (if_pos c1).symm.trans h
    refine lv_iconst (v := (0 : Int32)) hx hb d_Ck_mayBeTold_13 (by decide) ?_
    cases h
    exact q_zretW hx hb hr hlocks (by decide) hP hD hS d_Ck_mayBeTold_14
  · replace h := (if_neg c1).symm.trans h
    refine lv_iconst (v := (1 : Int32)) hx hb d_Ck_mayBeTold_9 (by decide) ?_
    refine lv_goto (tgt := 14) hx hb d_Ck_mayBeTold_10 (by decide) ?_
    cases h
    exact q_zretW hx hb hr hlocks (by decide) hP hD hS d_Ck_mayBeTold_14

theorem gw_144 : (.fieldLink "PlayStates$Clock" 13 "PlayStates$Clock" "running" "Z" : Cond) ∈ GW := gT 152 (by decide +kernel) (by decide +kernel)
theorem gw_146 : (.fieldLink "PlayStates$Clock" 17 "PlayStates$Clock" "counted" "J" : Cond) ∈ GW := gT 154 (by decide +kernel) (by decide +kernel)
theorem d_Ck_countUpTo_0 : decode prog_3_method_3_code 0 = .ok (.aload_n 0, 1) := by decide +kernel
theorem d_Ck_countUpTo_1 : decode prog_3_method_3_code 1 = .ok (.getfield 13, 3) := by decide +kernel
theorem d_Ck_countUpTo_4 : decode prog_3_method_3_code 4 = .ok (.ifCond .eq 17, 3) := by decide +kernel
theorem d_Ck_countUpTo_7 : decode prog_3_method_3_code 7 = .ok (.aload_n 0, 1) := by decide +kernel
theorem d_Ck_countUpTo_8 : decode prog_3_method_3_code 8 = .ok (.getfield 17, 3) := by decide +kernel
theorem d_Ck_countUpTo_11 : decode prog_3_method_3_code 11 = .ok (.lload_n 1, 1) := by decide +kernel
theorem d_Ck_countUpTo_12 : decode prog_3_method_3_code 12 = .ok (.aload_n 0, 1) := by decide +kernel
theorem d_Ck_countUpTo_13 : decode prog_3_method_3_code 13 = .ok (.getfield 7, 3) := by decide +kernel
theorem d_Ck_countUpTo_16 : decode prog_3_method_3_code 16 = .ok (.lsub, 1) := by decide +kernel
theorem d_Ck_countUpTo_17 : decode prog_3_method_3_code 17 = .ok (.ladd, 1) := by decide +kernel
theorem d_Ck_countUpTo_18 : decode prog_3_method_3_code 18 = .ok (.goto 7, 3) := by decide +kernel
theorem d_Ck_countUpTo_21 : decode prog_3_method_3_code 21 = .ok (.aload_n 0, 1) := by decide +kernel
theorem d_Ck_countUpTo_22 : decode prog_3_method_3_code 22 = .ok (.getfield 17, 3) := by decide +kernel
theorem d_Ck_countUpTo_25 : decode prog_3_method_3_code 25 = .ok (.lreturn, 1) := by decide +kernel
-- PlayStates$Clock.countUpTo(J)J 
def ws_Ck_countUpTo (G : gG) (a_t : Nat)  (x_t_running : Int32) (x_t_lastTold : Int64) (x_t_counted : Int64) : va_W := [(a_t, .inr (1, [.int x_t_running, .long x_t_lastTold, .long x_t_counted]))]
def f_Ck_countUpTo  (p0 : Int64) (x_t_running : Int32) (x_t_lastTold : Int64) (x_t_counted : Int64) : Option (Int64) :=
  (if x_t_running = 0 then some x_t_counted else some (x_t_counted + (p0 - x_t_lastTold)))
set_option maxHeartbeats 4000000 in
set_option maxRecDepth 100000 in
theorem c_Ck_countUpTo (l : Launch) (G : gG) (sz : Nat) (a_t : Nat)  (p0 : Int64) (x_t_running : Int32) (x_t_lastTold : Int64) (x_t_counted : Int64) (r : Int64) (h : f_Ck_countUpTo p0 x_t_running x_t_lastTold x_t_counted = some r)  : cN l y_Ck_countUpTo w_Ck_countUpTo { frames := 0, cells := 0, slots := 0, locals := 0 } G sz [.ref a_t, .long p0] (ws_Ck_countUpTo G a_t x_t_running x_t_lastTold x_t_counted) (some (.long r)) (wB G (ws_Ck_countUpTo G a_t x_t_running x_t_lastTold x_t_counted)) 0 0 := by
  refine cN_ofW (cc := prog_3_method_3_code) (maxL := 3) (ret := (some .long)) (by decide) rfl (Nat.le_of_ble_eq_true rfl) ?_
  intro p e s m args below meth c A H locs ls hx hb hr hts hown hlocks hin hml hK hN hP hD hA hS hl
  replace hl : lv_has ls 3 [(0, .ref a_t), (1, .long p0)] := hl
  replace hown : s.vm.findClass "PlayStates$Clock" = some m.cls := hown
  unfold f_Ck_countUpTo at h
  refine lv_aload_n hx hb d_Ck_countUpTo_0 rfl (lv_at hl 0 rfl) ?_
  refine va_get (D := G.1) (ci := 1) (v := .int x_t_running) (C := "PlayStates$Clock") (T := TCk) (N := 3) hx hb hts iw_1 hown hK hP 0 rfl rfl 0 (by decide) (hts _ gw_144) (fun _ h9 => h9) rfl d_Ck_countUpTo_1 ?_
  refine lv_if_eq (tgt := 21) hx hb d_Ck_countUpTo_4 (by decide) (fun c1 => ?_) (fun c1 => ?_)
  · replace h := (if_pos c1).symm.trans h
    refine lv_aload_n hx hb d_Ck_countUpTo_21 rfl (lv_at hl 0 rfl) ?_
    refine va_get (D := G.1) (ci := 1) (v := .long x_t_counted) (C := "PlayStates$Clock") (T := TCk) (N := 3) hx hb hts iw_1 hown hK hP 0 rfl rfl 2 (by decide) (hts _ gw_146) (fun _ h9 => h9) rfl d_Ck_countUpTo_22 ?_
    cases h
    exact q_lretW hx hb hr hlocks hP hD hS d_Ck_countUpTo_25
  · replace h := (if_neg c1).symm.trans h
    refine lv_aload_n hx hb d_Ck_countUpTo_7 rfl (lv_at hl 0 rfl) ?_
    refine va_get (D := G.1) (ci := 1) (v := .long x_t_counted) (C := "PlayStates$Clock") (T := TCk) (N := 3) hx hb hts iw_1 hown hK hP 0 rfl rfl 2 (by decide) (hts _ gw_146) (fun _ h9 => h9) rfl d_Ck_countUpTo_8 ?_
    refine lv_lload_n hx hb d_Ck_countUpTo_11 rfl (lv_at hl 1 rfl) ?_
    refine lv_aload_n hx hb d_Ck_countUpTo_12 rfl (lv_at hl 0 rfl) ?_
    refine va_get (D := G.1) (ci := 1) (v := .long x_t_lastTold) (C := "PlayStates$Clock") (T := TCk) (N := 3) hx hb hts iw_1 hown hK hP 0 rfl rfl 1 (by decide) (hts _ gw_145) (fun _ h9 => h9) rfl d_Ck_countUpTo_13 ?_
    refine lv_lsub hx hb d_Ck_countUpTo_16 ?_
    refine lv_ladd hx hb d_Ck_countUpTo_17 ?_
    refine lv_goto (tgt := 25) hx hb d_Ck_countUpTo_18 (by decide) ?_
    cases h
    exact q_lretW hx hb hr hlocks hP hD hS d_Ck_countUpTo_25

theorem gw_271 : (.code ⟨"PlayStates$Clock", "countUpTo", "(J)J"⟩ prog_3_method_3_code 3 (some .long) : Cond) ∈ GW := gT 298 (by decide +kernel) (by decide +kernel)
theorem gw_268 : (.methodLink "PlayStates$Clock" 20 ⟨"PlayStates$Clock", "countUpTo", "(J)J"⟩ : Cond) ∈ GW := gT 295 (by decide +kernel) (by decide +kernel)
theorem gw_38 : (.initialized "PlayStates$Clock" : Cond) ∈ GW := gT 8 (by decide +kernel) (by decide +kernel)
theorem gw_269 : (.instanceMethod ⟨"PlayStates$Clock", "countUpTo", "(J)J"⟩ : Cond) ∈ GW := gT 296 (by decide +kernel) (by decide +kernel)
theorem gw_270 : (.selects "PlayStates$Clock" ⟨"PlayStates$Clock", "countUpTo", "(J)J"⟩ ⟨"PlayStates$Clock", "countUpTo", "(J)J"⟩ : Cond) ∈ GW := gT 297 (by decide +kernel) (by decide +kernel)
theorem d_Ck_tellTime_0 : decode prog_3_method_4_code 0 = .ok (.aload_n 0, 1) := by decide +kernel
theorem d_Ck_tellTime_1 : decode prog_3_method_4_code 1 = .ok (.aload_n 0, 1) := by decide +kernel
theorem d_Ck_tellTime_2 : decode prog_3_method_4_code 2 = .ok (.lload_n 1, 1) := by decide +kernel
theorem d_Ck_tellTime_3 : decode prog_3_method_4_code 3 = .ok (.invokevirtual 20, 3) := by decide +kernel
theorem d_Ck_tellTime_6 : decode prog_3_method_4_code 6 = .ok (.putfield 17, 3) := by decide +kernel
theorem d_Ck_tellTime_9 : decode prog_3_method_4_code 9 = .ok (.aload_n 0, 1) := by decide +kernel
theorem d_Ck_tellTime_10 : decode prog_3_method_4_code 10 = .ok (.lload_n 1, 1) := by decide +kernel
theorem d_Ck_tellTime_11 : decode prog_3_method_4_code 11 = .ok (.putfield 7, 3) := by decide +kernel
theorem d_Ck_tellTime_14 : decode prog_3_method_4_code 14 = .ok (.aload_n 0, 1) := by decide +kernel
theorem d_Ck_tellTime_15 : decode prog_3_method_4_code 15 = .ok (.iload_n 3, 1) := by decide +kernel
theorem d_Ck_tellTime_16 : decode prog_3_method_4_code 16 = .ok (.putfield 13, 3) := by decide +kernel
theorem d_Ck_tellTime_19 : decode prog_3_method_4_code 19 = .ok (.return_, 1) := by decide +kernel
-- PlayStates$Clock.tellTime(JZ)V 
def ws_Ck_tellTime (G : gG) (a_t : Nat)  (x_t_running : Int32) (x_t_lastTold : Int64) (x_t_counted : Int64) : va_W := [(a_t, .inr (1, [.int x_t_running, .long x_t_lastTold, .long x_t_counted]))]
def f_Ck_tellTime  (p0 : Int64) (p1 : Int32) (x_t_running : Int32) (x_t_lastTold : Int64) (x_t_counted : Int64) : Option (Int32 × Int64 × Int64) :=
  ((f_Ck_countUpTo p0 x_t_running x_t_lastTold x_t_counted).bind fun y1 => (if (p1 = 0 ∨ p1 = 1) then some (p1, p0, y1) else none))
set_option maxHeartbeats 4000000 in
set_option maxRecDepth 100000 in
theorem c_Ck_tellTime (l : Launch) (G : gG) (sz : Nat) (a_t : Nat)  (p0 : Int64) (p1 : Int32) (x_t_running : Int32) (x_t_lastTold : Int64) (x_t_counted : Int64) (x_t_running' : Int32) (x_t_lastTold' : Int64) (x_t_counted' : Int64) (h : f_Ck_tellTime p0 p1 x_t_running x_t_lastTold x_t_counted = some (x_t_running', x_t_lastTold', x_t_counted'))  : cN l y_Ck_tellTime w_Ck_tellTime { frames := 1, cells := 0, slots := 0, locals := 22 } G sz [.ref a_t, .long p0, .int p1] (ws_Ck_tellTime G a_t x_t_running x_t_lastTold x_t_counted) none (wB G (ws_Ck_tellTime G a_t x_t_running' x_t_lastTold' x_t_counted')) 0 0 := by
  refine cN_ofW (cc := prog_3_method_4_code) (maxL := 4) (ret := none) (by decide) rfl (Nat.le_of_ble_eq_true rfl) ?_
  intro p e s m args below meth c A H locs ls hx hb hr hts hown hlocks hin hml hK hN hP hD hA hS hl
  replace hl : lv_has ls 4 [(0, .ref a_t), (1, .long p0), (3, .int p1)] := hl
  replace hown : s.vm.findClass "PlayStates$Clock" = some m.cls := hown
  unfold f_Ck_tellTime at h
  refine lv_aload_n hx hb d_Ck_tellTime_0 rfl (lv_at hl 0 rfl) ?_
  refine lv_aload_n hx hb d_Ck_tellTime_1 rfl (lv_at hl 0 rfl) ?_
  refine lv_lload_n hx hb d_Ck_tellTime_2 rfl (lv_at hl 1 rfl) ?_
  obtain ⟨y1, hy1, h⟩ := o_bind h
  have hPc := hP.sub (ws' := (ws_Ck_countUpTo G a_t x_t_running x_t_lastTold x_t_counted)) [0] rfl
  have hDc := hD.sub (ws' := (ws_Ck_countUpTo G a_t x_t_running x_t_lastTold x_t_counted)) [0] (by decide) rfl
  have hFc := va_free (wc := (ws_Ck_countUpTo G a_t x_t_running x_t_lastTold x_t_counted)) hD hS hA [0] rfl
  refine q_call1 (va_runV (As := [.long p0]) (rest := [.ref a_t]) ⟨hx, hb, hml, hown, hts⟩ (c_Ck_countUpTo l G H.size a_t p0 x_t_running x_t_lastTold x_t_counted _ hy1) (cwV 1 hts (gV gw_268 gw_269 gw_270 gw_38 gw_271) rfl rfl rfl (by decide +kernel) ⟨Nat.le_of_ble_eq_true rfl, Nat.le_of_ble_eq_true rfl⟩) (pV hK hN hPc hDc (ci := 1) (q0 := 0) rfl rfl) rfl rfl hl.1 rfl (lv_room (Nat.le_of_ble_eq_true rfl)) d_Ck_tellTime_3 ⟨Nat.le_of_ble_eq_true rfl, Nat.le_of_ble_eq_true rfl⟩) hS (fun q _ h => hFc q h) hFc (fun H1 locs hB hz hk hS => ?_)
  obtain ⟨hP, hD⟩ := q_joinA hFc hB.1 hB.2
  generalize H1 = H at hP hS ⊢
  replace hP : va_P G.1 vwCl (ws_Ck_tellTime G a_t x_t_running x_t_lastTold x_t_counted) H := hP
  replace hD : va_D A (ws_Ck_tellTime G a_t x_t_running x_t_lastTold x_t_counted) := hD
  refine va_put (D := G.1) (ci := 1) (v := .long y1) (ty := .long) (C := "PlayStates$Clock") (T := TCk) (N := 3) hx hb hts iw_1 tyCk tyCk_ok nmCk hown hK hP hD hS 0 rfl rfl 2 (by decide) (hts _ gw_146) (fun _ h9 => h9) rfl (by decide +kernel) (by rfl) (by rfl) (Nat.le_of_ble_eq_true rfl) d_Ck_tellTime_6 (fun H locs hP hD hS => ?_)
  replace hP : va_P G.1 vwCl (ws_Ck_tellTime G a_t x_t_running x_t_lastTold y1) H := hP
  replace hD : va_D A (ws_Ck_tellTime G a_t x_t_running x_t_lastTold y1) := hD
  refine lv_aload_n hx hb d_Ck_tellTime_9 rfl (lv_at hl 0 rfl) ?_
  refine lv_lload_n hx hb d_Ck_tellTime_10 rfl (lv_at hl 1 rfl) ?_
  refine va_put (D := G.1) (ci := 1) (v := .long p0) (ty := .long) (C := "PlayStates$Clock") (T := TCk) (N := 3) hx hb hts iw_1 tyCk tyCk_ok nmCk hown hK hP hD hS 0 rfl rfl 1 (by decide) (hts _ gw_145) (fun _ h9 => h9) rfl (by decide +kernel) (by rfl) (by rfl) (Nat.le_of_ble_eq_true rfl) d_Ck_tellTime_11 (fun H locs hP hD hS => ?_)
  replace hP : va_P G.1 vwCl (ws_Ck_tellTime G a_t x_t_running p0 y1) H := hP
  replace hD : va_D A (ws_Ck_tellTime G a_t x_t_running p0 y1) := hD
  refine lv_aload_n hx hb d_Ck_tellTime_14 rfl (lv_at hl 0 rfl) ?_
  refine lv_iload_n hx hb d_Ck_tellTime_15 rfl (lv_at hl 2 rfl) ?_
  obtain ⟨b2, h⟩ := o_if h
  refine va_put (D := G.1) (ci := 1) (v := .int p1) (ty := .boolean) (C := "PlayStates$Clock") (T := TCk) (N := 3) hx hb hts iw_1 tyCk tyCk_ok nmCk hown hK hP hD hS 0 rfl rfl 0 (by decide) (hts _ gw_144) (fun _ h9 => h9) rfl (by decide +kernel) (bool01 b2).1 (bool01 b2).2 (Nat.le_of_ble_eq_true rfl) d_Ck_tellTime_16 (fun H locs hP hD hS => ?_)
  replace hP : va_P G.1 vwCl (ws_Ck_tellTime G a_t p1 p0 y1) H := hP
  replace hD : va_D A (ws_Ck_tellTime G a_t p1 p0 y1) := hD
  cases h
  exact q_vretW hx hb hr hlocks hP hD hS d_Ck_tellTime_19
end
section
theorem gw_66 : (.fieldLink "PlayStates$RowTable" 24 "PlayStates$RowTable" "count" "I" : Cond) ∈ GW := gT 41 (by decide +kernel) (by decide +kernel)
theorem d_Rt_holds_0 : decode prog_5_method_2_code 0 = .ok (.iload_n 1, 1) := by decide +kernel
theorem d_Rt_holds_1 : decode prog_5_method_2_code 1 = .ok (.ifCond .lt 15, 3) := by decide +kernel
theorem d_Rt_holds_4 : decode prog_5_method_2_code 4 = .ok (.iload_n 1, 1) := by decide +kernel
theorem d_Rt_holds_5 : decode prog_5_method_2_code 5 = .ok (.aload_n 0, 1) := by decide +kernel
theorem d_Rt_holds_6 : decode prog_5_method_2_code 6 = .ok (.getfield 24, 3) := by decide +kernel
theorem d_Rt_holds_9 : decode prog_5_method_2_code 9 = .ok (.if_icmp .ge 7, 3) := by decide +kernel
theorem d_Rt_holds_12 : decode prog_5_method_2_code 12 = .ok (.iconst 1, 1) := by decide +kernel
theorem d_Rt_holds_13 : decode prog_5_method_2_code 13 = .ok (.goto 4, 3) := by decide +kernel
theorem d_Rt_holds_16 : decode prog_5_method_2_code 16 = .ok (.iconst 0, 1) := by decide +kernel
theorem d_Rt_holds_17 : decode prog_5_method_2_code 17 = .ok (.ireturn, 1) := by decide +kernel
-- PlayStates$RowTable.holds(I)Z 
def ws_Rt_holds (G : gG) (a_t a_t_place a_t_told a_t_before a_t_behind : Nat)  (x_t_count : Int32) : va_W := [(a_t, .inr (3, [.ref a_t_place, .ref a_t_told, .ref a_t_before, .ref a_t_behind, .int x_t_count]))]
def f_Rt_holds  (p0 : Int32) (x_t_count : Int32) : Option (Int32) :=
  (if p0 < 0 then some (0 : Int32) else (if x_t_count ≤ p0 then some (0 : Int32) else some (1 : Int32)))
set_option maxHeartbeats 4000000 in
set_option maxRecDepth 100000 in
theorem c_Rt_holds (l : Launch) (G : gG) (sz : Nat) (a_t a_t_place a_t_told a_t_before a_t_behind : Nat)  (p0 : Int32) (x_t_count : Int32) (r : Int32) (h : f_Rt_holds p0 x_t_count = some r)  : cN l y_Rt_holds w_Rt_holds { frames := 0, cells := 0, slots := 0, locals := 0 } G sz [.ref a_t, .int p0] (ws_Rt_holds G a_t a_t_place a_t_told a_t_before a_t_behind x_t_count) (some (.int r)) (wB G (ws_Rt_holds G a_t a_t_place a_t_told a_t_before a_t_behind x_t_count)) 0 0 := by
  refine cN_ofW (cc := prog_5_method_2_code) (maxL := 2) (ret := (some .boolean)) (by decide) rfl (Nat.le_of_ble_eq_true rfl) ?_
  intro p e s m args below meth c A H locs ls hx hb hr hts hown hlocks hin hml hK hN hP hD hA hS hl
  replace hl : lv_has ls 2 [(0, .ref a_t), (1, .int p0)] := hl
  replace hown : s.vm.findClass "PlayStates$RowTable" = some m.cls := hown
  unfold f_Rt_holds at h
  refine lv_iload_n hx hb d_Rt_holds_0 rfl (lv_at hl 1 rfl) ?_
  refine lv_if_lt (tgt := 16) hx hb d_Rt_holds_1 (by decide) (fun c1 => ?_) (fun c1 => ?_)
  · replace h := (if_pos c1).symm.trans h
    refine lv_iconst (v := (0 : Int32)) hx hb d_Rt_holds_16 (by decide) ?_
    cases h
    exact q_zretW hx hb hr hlocks (by decide) hP hD hS d_Rt_holds_17
  · replace h := (if_neg c1).symm.trans h
    refine lv_iload_n hx hb d_Rt_holds_4 rfl (lv_at hl 1 rfl) ?_
    refine lv_aload_n hx hb d_Rt_holds_5 rfl (lv_at hl 0 rfl) ?_
    refine va_get (D := G.1) (ci := 3) (v := .int x_t_count) (C := "PlayStates$RowTable") (T := TRt) (N := 5) hx hb hts iw_3 hown hK hP 0 rfl rfl 4 (by decide) (hts _ gw_66) (fun _ h9 => h9) rfl d_Rt_holds_6 ?_
    refine lv_icmp_ge (tgt := 16) hx hb d_Rt_holds_9 (by decide) (fun c2 => ?_) (fun c2 => ?_)
    · replace h := (if_pos c2).symm.trans h
      refine lv_iconst (v := (0 : Int32)) hx hb d_Rt_holds_16 (by decide) ?_
      cases h
      exact q_zretW hx hb hr hlocks (by decide) hP hD hS d_Rt_holds_17
    · replace h := (if_neg c2).symm.trans h
      refine lv_iconst (v := (1 : Int32)) hx hb d_Rt_holds_12 (by decide) ?_
      refine lv_goto (tgt := 17) hx hb d_Rt_holds_13 (by decide) ?_
      cases h
      exact q_zretW hx hb hr hlocks (by decide) hP hD hS d_Rt_holds_17

theorem d_Rt_hasRoomFor_0 : decode prog_5_method_3_code 0 = .ok (.iload_n 1, 1) := by decide +kernel
theorem d_Rt_hasRoomFor_1 : decode prog_5_method_3_code 1 = .ok (.sipush 600, 3) := by decide +kernel
theorem d_Rt_hasRoomFor_4 : decode prog_5_method_3_code 4 = .ok (.aload_n 0, 1) := by decide +kernel
theorem d_Rt_hasRoomFor_5 : decode prog_5_method_3_code 5 = .ok (.getfield 24, 3) := by decide +kernel
theorem d_Rt_hasRoomFor_8 : decode prog_5_method_3_code 8 = .ok (.isub, 1) := by decide +kernel
theorem d_Rt_hasRoomFor_9 : decode prog_5_method_3_code 9 = .ok (.if_icmp .gt 7, 3) := by decide +kernel
theorem d_Rt_hasRoomFor_12 : decode prog_5_method_3_code 12 = .ok (.iconst 1, 1) := by decide +kernel
theorem d_Rt_hasRoomFor_13 : decode prog_5_method_3_code 13 = .ok (.goto 4, 3) := by decide +kernel
theorem d_Rt_hasRoomFor_16 : decode prog_5_method_3_code 16 = .ok (.iconst 0, 1) := by decide +kernel
theorem d_Rt_hasRoomFor_17 : decode prog_5_method_3_code 17 = .ok (.ireturn, 1) := by decide +kernel
-- PlayStates$RowTable.hasRoomFor(I)Z 
def ws_Rt_hasRoomFor (G : gG) (a_t a_t_place a_t_told a_t_before a_t_behind : Nat)  (x_t_count : Int32) : va_W := [(a_t, .inr (3, [.ref a_t_place, .ref a_t_told, .ref a_t_before, .ref a_t_behind, .int x_t_count]))]
def f_Rt_hasRoomFor  (p0 : Int32) (x_t_count : Int32) : Option (Int32) :=
  (if ((600 : Int32) - x_t_count) < p0 then some (0 : Int32) else some (1 : Int32))
set_option maxHeartbeats 4000000 in
set_option maxRecDepth 100000 in
theorem c_Rt_hasRoomFor (l : Launch) (G : gG) (sz : Nat) (a_t a_t_place a_t_told a_t_before a_t_behind : Nat)  (p0 : Int32) (x_t_count : Int32) (r : Int32) (h : f_Rt_hasRoomFor p0 x_t_count = some r)  : cN l y_Rt_hasRoomFor w_Rt_hasRoomFor { frames := 0, cells := 0, slots := 0, locals := 0 } G sz [.ref a_t, .int p0] (ws_Rt_hasRoomFor G a_t a_t_place a_t_told a_t_before a_t_behind x_t_count) (some (.int r)) (wB G (ws_Rt_hasRoomFor G a_t a_t_place a_t_told a_t_before a_t_behind x_t_count)) 0 0 := by
  refine cN_ofW (cc := prog_5_method_3_code) (maxL := 2) (ret := (some .boolean)) (by decide) rfl (Nat.le_of_ble_eq_true rfl) ?_
  intro p e s m args below meth c A H locs ls hx hb hr hts hown hlocks hin hml hK hN hP hD hA hS hl
  replace hl : lv_has ls 2 [(0, .ref a_t), (1, .int p0)] := hl
  replace hown : s.vm.findClass "PlayStates$RowTable" = some m.cls := hown
  unfold f_Rt_hasRoomFor at h
  refine lv_iload_n hx hb d_Rt_hasRoomFor_0 rfl (lv_at hl 1 rfl) ?_
  refine lv_sipush (v := (600 : Int32)) hx hb d_Rt_hasRoomFor_1 (by decide) ?_
  refine lv_aload_n hx hb d_Rt_hasRoomFor_4 rfl (lv_at hl 0 rfl) ?_
  refine va_get (D := G.1) (ci := 3) (v := .int x_t_count) (C := "PlayStates$RowTable") (T := TRt) (N := 5) hx hb hts iw_3 hown hK hP 0 rfl rfl 4 (by decide) (hts _ gw_66) (fun _ h9 => h9) rfl d_Rt_hasRoomFor_5 ?_
  refine lv_isub hx hb d_Rt_hasRoomFor_8 ?_
  refine lv_icmp_gt (tgt := 16) hx hb d_Rt_hasRoomFor_9 (by decide) (fun c1 => ?_) (fun c1 => ?_)
  · replace h := (if_pos c1).symm.trans h
    refine lv_iconst (v := (0 : Int32)) hx hb d_Rt_hasRoomFor_16 (by decide) ?_
    cases h
    exact q_zretW hx hb hr hlocks (by decide) hP hD hS d_Rt_hasRoomFor_17
  · replace h := (if_neg c1).symm.trans h
    refine lv_iconst (v := (1 : Int32)) hx hb d_Rt_hasRoomFor_12 (by decide) ?_
    refine lv_goto (tgt := 17) hx hb d_Rt_hasRoomFor_13 (by decide) ?_
    cases h
    exact q_zretW hx hb hr hlocks (by decide) hP hD hS d_Rt_hasRoomFor_17

theorem gw_62 : (.fieldLink "PlayStates$RowTable" 9 "PlayStates$RowTable" "place" "[I" : Cond) ∈ GW := gT 33 (by decide +kernel) (by decide +kernel)
theorem gw_63 : (.fieldLink "PlayStates$RowTable" 15 "PlayStates$RowTable" "told" "[I" : Cond) ∈ GW := gT 35 (by decide +kernel) (by decide +kernel)
theorem gw_64 : (.fieldLink "PlayStates$RowTable" 18 "PlayStates$RowTable" "before" "[I" : Cond) ∈ GW := gT 37 (by decide +kernel) (by decide +kernel)
theorem gw_65 : (.fieldLink "PlayStates$RowTable" 21 "PlayStates$RowTable" "behind" "[I" : Cond) ∈ GW := gT 39 (by decide +kernel) (by decide +kernel)
theorem d_Rt_add_0 : decode prog_5_method_4_code 0 = .ok (.aload_n 0, 1) := by decide +kernel
theorem d_Rt_add_1 : decode prog_5_method_4_code 1 = .ok (.getfield 24, 3) := by decide +kernel
theorem d_Rt_add_4 : decode prog_5_method_4_code 4 = .ok (.istore 5, 2) := by decide +kernel
theorem d_Rt_add_6 : decode prog_5_method_4_code 6 = .ok (.aload_n 0, 1) := by decide +kernel
theorem d_Rt_add_7 : decode prog_5_method_4_code 7 = .ok (.getfield 9, 3) := by decide +kernel
theorem d_Rt_add_10 : decode prog_5_method_4_code 10 = .ok (.iload 5, 2) := by decide +kernel
theorem d_Rt_add_12 : decode prog_5_method_4_code 12 = .ok (.iload_n 1, 1) := by decide +kernel
theorem d_Rt_add_13 : decode prog_5_method_4_code 13 = .ok (.iastore, 1) := by decide +kernel
theorem d_Rt_add_14 : decode prog_5_method_4_code 14 = .ok (.aload_n 0, 1) := by decide +kernel
theorem d_Rt_add_15 : decode prog_5_method_4_code 15 = .ok (.getfield 15, 3) := by decide +kernel
theorem d_Rt_add_18 : decode prog_5_method_4_code 18 = .ok (.iload 5, 2) := by decide +kernel
theorem d_Rt_add_20 : decode prog_5_method_4_code 20 = .ok (.iload_n 2, 1) := by decide +kernel
theorem d_Rt_add_21 : decode prog_5_method_4_code 21 = .ok (.iastore, 1) := by decide +kernel
theorem d_Rt_add_22 : decode prog_5_method_4_code 22 = .ok (.aload_n 0, 1) := by decide +kernel
theorem d_Rt_add_23 : decode prog_5_method_4_code 23 = .ok (.getfield 18, 3) := by decide +kernel
theorem d_Rt_add_26 : decode prog_5_method_4_code 26 = .ok (.iload 5, 2) := by decide +kernel
theorem d_Rt_add_28 : decode prog_5_method_4_code 28 = .ok (.iload_n 3, 1) := by decide +kernel
theorem d_Rt_add_29 : decode prog_5_method_4_code 29 = .ok (.iastore, 1) := by decide +kernel
theorem d_Rt_add_30 : decode prog_5_method_4_code 30 = .ok (.aload_n 0, 1) := by decide +kernel
theorem d_Rt_add_31 : decode prog_5_method_4_code 31 = .ok (.getfield 21, 3) := by decide +kernel
theorem d_Rt_add_34 : decode prog_5_method_4_code 34 = .ok (.iload 5, 2) := by decide +kernel
theorem d_Rt_add_36 : decode prog_5_method_4_code 36 = .ok (.iload 4, 2) := by decide +kernel
theorem d_Rt_add_38 : decode prog_5_method_4_code 38 = .ok (.iastore, 1) := by decide +kernel
theorem d_Rt_add_39 : decode prog_5_method_4_code 39 = .ok (.aload_n 0, 1) := by decide +kernel
theorem d_Rt_add_40 : decode prog_5_method_4_code 40 = .ok (.dup, 1) := by decide +kernel
theorem d_Rt_add_41 : decode prog_5_method_4_code 41 = .ok (.getfield 24, 3) := by decide +kernel
theorem d_Rt_add_44 : decode prog_5_method_4_code 44 = .ok (.iconst 1, 1) := by decide +kernel
theorem d_Rt_add_45 : decode prog_5_method_4_code 45 = .ok (.iadd, 1) := by decide +kernel
theorem d_Rt_add_46 : decode prog_5_method_4_code 46 = .ok (.putfield 24, 3) := by decide +kernel
theorem d_Rt_add_49 : decode prog_5_method_4_code 49 = .ok (.iload 5, 2) := by decide +kernel
theorem d_Rt_add_51 : decode prog_5_method_4_code 51 = .ok (.ireturn, 1) := by decide +kernel
-- PlayStates$RowTable.add(IIII)I 
def ws_Rt_add (G : gG) (a_t a_t_place a_t_told a_t_before a_t_behind : Nat)  (x_t_count : Int32) (x_t_place : Nat → Int32) (x_t_told : Nat → Int32) (x_t_before : Nat → Int32) (x_t_behind : Nat → Int32) : va_W := [(a_t, .inr (3, [.ref a_t_place, .ref a_t_told, .ref a_t_before, .ref a_t_behind, .int x_t_count])), (a_t_place, .inl (G.2 0, 600, .inl x_t_place)), (a_t_told, .inl (G.2 0, 600, .inl x_t_told)), (a_t_before, .inl (G.2 0, 600, .inl x_t_before)), (a_t_behind, .inl (G.2 0, 600, .inl x_t_behind))]
def f_Rt_add  (p0 : Int32) (p1 : Int32) (p2 : Int32) (p3 : Int32) (x_t_count : Int32) (x_t_place : Nat → Int32) (x_t_told : Nat → Int32) (x_t_before : Nat → Int32) (x_t_behind : Nat → Int32) : Option (Int32 × Int32 × (Nat → Int32) × (Nat → Int32) × (Nat → Int32) × (Nat → Int32)) :=
  (if inB x_t_count 600 then (if inB x_t_count 600 then (if inB x_t_count 600 then (if inB x_t_count 600 then some (x_t_count, (x_t_count + (1 : Int32)), (upd x_t_place x_t_count.toNatClampNeg p0), (upd x_t_told x_t_count.toNatClampNeg p1), (upd x_t_before x_t_count.toNatClampNeg p2), (upd x_t_behind x_t_count.toNatClampNeg p3)) else none) else none) else none) else none)
set_option maxHeartbeats 4000000 in
set_option maxRecDepth 100000 in
theorem c_Rt_add (l : Launch) (G : gG) (sz : Nat) (a_t a_t_place a_t_told a_t_before a_t_behind : Nat)  (p0 : Int32) (p1 : Int32) (p2 : Int32) (p3 : Int32) (x_t_count : Int32) (x_t_place : Nat → Int32) (x_t_told : Nat → Int32) (x_t_before : Nat → Int32) (x_t_behind : Nat → Int32) (r : Int32) (x_t_count' : Int32) (x_t_place' : Nat → Int32) (x_t_told' : Nat → Int32) (x_t_before' : Nat → Int32) (x_t_behind' : Nat → Int32) (h : f_Rt_add p0 p1 p2 p3 x_t_count x_t_place x_t_told x_t_before x_t_behind = some (r, x_t_count', x_t_place', x_t_told', x_t_before', x_t_behind'))  : cN l y_Rt_add w_Rt_add { frames := 0, cells := 0, slots := 0, locals := 0 } G sz [.ref a_t, .int p0, .int p1, .int p2, .int p3] (ws_Rt_add G a_t a_t_place a_t_told a_t_before a_t_behind x_t_count x_t_place x_t_told x_t_before x_t_behind) (some (.int r)) (wB G (ws_Rt_add G a_t a_t_place a_t_told a_t_before a_t_behind x_t_count' x_t_place' x_t_told' x_t_before' x_t_behind')) 0 0 := by
  refine cN_ofW (cc := prog_5_method_4_code) (maxL := 6) (ret := (some .int)) (by decide) rfl (Nat.le_of_ble_eq_true rfl) ?_
  intro p e s m args below meth c A H locs ls hx hb hr hts hown hlocks hin hml hK hN hP hD hA hS hl
  replace hl : lv_has ls 6 [(0, .ref a_t), (1, .int p0), (2, .int p1), (3, .int p2), (4, .int p3)] := hl
  replace hown : s.vm.findClass "PlayStates$RowTable" = some m.cls := hown
  unfold f_Rt_add at h
  refine lv_aload_n hx hb d_Rt_add_0 rfl (lv_at hl 0 rfl) ?_
  refine va_get (D := G.1) (ci := 3) (v := .int x_t_count) (C := "PlayStates$RowTable") (T := TRt) (N := 5) hx hb hts iw_3 hown hK hP 0 rfl rfl 4 (by decide) (hts _ gw_66) (fun _ h9 => h9) rfl d_Rt_add_1 ?_
  refine lv_istore (lv' := [(5, .int x_t_count), (0, .ref a_t), (1, .int p0), (2, .int p1), (3, .int p2), (4, .int p3)]) hx hb d_Rt_add_4 hl (by decide) rfl (fun ls hl => ?_)
  refine lv_aload_n hx hb d_Rt_add_6 rfl (lv_at hl 1 rfl) ?_
  refine va_get (D := G.1) (ci := 3) (v := .ref a_t_place) (C := "PlayStates$RowTable") (T := TRt) (N := 5) hx hb hts iw_3 hown hK hP 0 rfl rfl 0 (by decide) (hts _ gw_62) (fun _ h9 => h9) rfl d_Rt_add_7 ?_
  refine lv_iload hx hb d_Rt_add_10 (lv_at hl 0 rfl) ?_
  refine lv_iload_n hx hb d_Rt_add_12 rfl (lv_at hl 2 rfl) ?_
  obtain ⟨i1, h⟩ := o_if h
  refine va_iast (n := 600) (f := x_t_place) hx hb hK hP hD hS 1 0 rfl rfl i1 d_Rt_add_13 (fun H locs hP hD hS => ?_)
  replace hP : va_P G.1 vwCl (ws_Rt_add G a_t a_t_place a_t_told a_t_before a_t_behind x_t_count (upd x_t_place x_t_count.toNatClampNeg p0) x_t_told x_t_before x_t_behind) H := hP
  replace hD : va_D A (ws_Rt_add G a_t a_t_place a_t_told a_t_before a_t_behind x_t_count (upd x_t_place x_t_count.toNatClampNeg p0) x_t_told x_t_before x_t_behind) := hD
  refine lv_aload_n hx hb d_Rt_add_14 rfl (lv_at hl 1 rfl) ?_
  refine va_get (D := G.1) (ci := 3) (v := .ref a_t_told) (C := "PlayStates$RowTable") (T := TRt) (N := 5) hx hb hts iw_3 hown hK hP 0 rfl rfl 1 (by decide) (hts _ gw_63) (fun _ h9 => h9) rfl d_Rt_add_15 ?_
  refine lv_iload hx hb d_Rt_add_18 (lv_at hl 0 rfl) ?_
  refine lv_iload_n hx hb d_Rt_add_20 rfl (lv_at hl 3 rfl) ?_
  obtain ⟨i2, h⟩ := o_if h
  refine va_iast (n := 600) (f := x_t_told) hx hb hK hP hD hS 2 0 rfl rfl i2 d_Rt_add_21 (fun H locs hP hD hS => ?_)
  replace hP : va_P G.1 vwCl (ws_Rt_add G a_t a_t_place a_t_told a_t_before a_t_behind x_t_count (upd x_t_place x_t_count.toNatClampNeg p0) (upd x_t_told x_t_count.toNatClampNeg p1) x_t_before x_t_behind) H := hP
  replace hD : va_D A (ws_Rt_add G a_t a_t_place a_t_told a_t_before a_t_behind x_t_count (upd x_t_place x_t_count.toNatClampNeg p0) (upd x_t_told x_t_count.toNatClampNeg p1) x_t_before x_t_behind) := hD
  refine lv_aload_n hx hb d_Rt_add_22 rfl (lv_at hl 1 rfl) ?_
  refine va_get (D := G.1) (ci := 3) (v := .ref a_t_before) (C := "PlayStates$RowTable") (T := TRt) (N := 5) hx hb hts iw_3 hown hK hP 0 rfl rfl 2 (by decide) (hts _ gw_64) (fun _ h9 => h9) rfl d_Rt_add_23 ?_
  refine lv_iload hx hb d_Rt_add_26 (lv_at hl 0 rfl) ?_
  refine lv_iload_n hx hb d_Rt_add_28 rfl (lv_at hl 4 rfl) ?_
  obtain ⟨i3, h⟩ := o_if h
  refine va_iast (n := 600) (f := x_t_before) hx hb hK hP hD hS 3 0 rfl rfl i3 d_Rt_add_29 (fun H locs hP hD hS => ?_)
  replace hP : va_P G.1 vwCl (ws_Rt_add G a_t a_t_place a_t_told a_t_before a_t_behind x_t_count (upd x_t_place x_t_count.toNatClampNeg p0) (upd x_t_told x_t_count.toNatClampNeg p1) (upd x_t_before x_t_count.toNatClampNeg p2) x_t_behind) H := hP
  replace hD : va_D A (ws_Rt_add G a_t a_t_place a_t_told a_t_before a_t_behind x_t_count (upd x_t_place x_t_count.toNatClampNeg p0) (upd x_t_told x_t_count.toNatClampNeg p1) (upd x_t_before x_t_count.toNatClampNeg p2) x_t_behind) := hD
  refine lv_aload_n hx hb d_Rt_add_30 rfl (lv_at hl 1 rfl) ?_
  refine va_get (D := G.1) (ci := 3) (v := .ref a_t_behind) (C := "PlayStates$RowTable") (T := TRt) (N := 5) hx hb hts iw_3 hown hK hP 0 rfl rfl 3 (by decide) (hts _ gw_65) (fun _ h9 => h9) rfl d_Rt_add_31 ?_
  refine lv_iload hx hb d_Rt_add_34 (lv_at hl 0 rfl) ?_
  refine lv_iload hx hb d_Rt_add_36 (lv_at hl 5 rfl) ?_
  obtain ⟨i4, h⟩ := o_if h
  refine va_iast (n := 600) (f := x_t_behind) hx hb hK hP hD hS 4 0 rfl rfl i4 d_Rt_add_38 (fun H locs hP hD hS => ?_)
  replace hP : va_P G.1 vwCl (ws_Rt_add G a_t a_t_place a_t_told a_t_before a_t_behind x_t_count (upd x_t_place x_t_count.toNatClampNeg p0) (upd x_t_told x_t_count.toNatClampNeg p1) (upd x_t_before x_t_count.toNatClampNeg p2) (upd x_t_behind x_t_count.toNatClampNeg p3)) H := hP
  replace hD : va_D A (ws_Rt_add G a_t a_t_place a_t_told a_t_before a_t_behind x_t_count (upd x_t_place x_t_count.toNatClampNeg p0) (upd x_t_told x_t_count.toNatClampNeg p1) (upd x_t_before x_t_count.toNatClampNeg p2) (upd x_t_behind x_t_count.toNatClampNeg p3)) := hD
  refine lv_aload_n hx hb d_Rt_add_39 rfl (lv_at hl 1 rfl) ?_
  refine lv_dup hx hb d_Rt_add_40 rfl ?_
  refine va_get (D := G.1) (ci := 3) (v := .int x_t_count) (C := "PlayStates$RowTable") (T := TRt) (N := 5) hx hb hts iw_3 hown hK hP 0 rfl rfl 4 (by decide) (hts _ gw_66) (fun _ h9 => h9) rfl d_Rt_add_41 ?_
  refine lv_iconst (v := (1 : Int32)) hx hb d_Rt_add_44 (by decide) ?_
  refine lv_iadd hx hb d_Rt_add_45 ?_
  refine va_put (D := G.1) (ci := 3) (v := .int (x_t_count + (1 : Int32))) (ty := .int) (C := "PlayStates$RowTable") (T := TRt) (N := 5) hx hb hts iw_3 tyRt tyRt_ok nmRt hown hK hP hD hS 0 rfl rfl 4 (by decide) (hts _ gw_66) (fun _ h9 => h9) rfl (by decide +kernel) (by rfl) (by rfl) (Nat.le_of_ble_eq_true rfl) d_Rt_add_46 (fun H locs hP hD hS => ?_)
  replace hP : va_P G.1 vwCl (ws_Rt_add G a_t a_t_place a_t_told a_t_before a_t_behind (x_t_count + (1 : Int32)) (upd x_t_place x_t_count.toNatClampNeg p0) (upd x_t_told x_t_count.toNatClampNeg p1) (upd x_t_before x_t_count.toNatClampNeg p2) (upd x_t_behind x_t_count.toNatClampNeg p3)) H := hP
  replace hD : va_D A (ws_Rt_add G a_t a_t_place a_t_told a_t_before a_t_behind (x_t_count + (1 : Int32)) (upd x_t_place x_t_count.toNatClampNeg p0) (upd x_t_told x_t_count.toNatClampNeg p1) (upd x_t_before x_t_count.toNatClampNeg p2) (upd x_t_behind x_t_count.toNatClampNeg p3)) := hD
  refine lv_iload hx hb d_Rt_add_49 (lv_at hl 0 rfl) ?_
  cases h
  exact q_iretW hx hb hr hlocks hP hD hS d_Rt_add_51

theorem d_Rt_countBranches_0 : decode prog_5_method_5_code 0 = .ok (.iconst 0, 1) := by decide +kernel
theorem d_Rt_countBranches_1 : decode prog_5_method_5_code 1 = .ok (.istore_n 2, 1) := by decide +kernel
theorem d_Rt_countBranches_2 : decode prog_5_method_5_code 2 = .ok (.iconst 0, 1) := by decide +kernel
theorem d_Rt_countBranches_3 : decode prog_5_method_5_code 3 = .ok (.istore_n 3, 1) := by decide +kernel
theorem d_Rt_countBranches_4 : decode prog_5_method_5_code 4 = .ok (.iload_n 3, 1) := by decide +kernel
theorem d_Rt_countBranches_5 : decode prog_5_method_5_code 5 = .ok (.aload_n 0, 1) := by decide +kernel
theorem d_Rt_countBranches_6 : decode prog_5_method_5_code 6 = .ok (.getfield 24, 3) := by decide +kernel
theorem d_Rt_countBranches_9 : decode prog_5_method_5_code 9 = .ok (.if_icmp .ge 22, 3) := by decide +kernel
theorem d_Rt_countBranches_12 : decode prog_5_method_5_code 12 = .ok (.aload_n 0, 1) := by decide +kernel
theorem d_Rt_countBranches_13 : decode prog_5_method_5_code 13 = .ok (.getfield 21, 3) := by decide +kernel
theorem d_Rt_countBranches_16 : decode prog_5_method_5_code 16 = .ok (.iload_n 3, 1) := by decide +kernel
theorem d_Rt_countBranches_17 : decode prog_5_method_5_code 17 = .ok (.iaload, 1) := by decide +kernel
theorem d_Rt_countBranches_18 : decode prog_5_method_5_code 18 = .ok (.iload_n 1, 1) := by decide +kernel
theorem d_Rt_countBranches_19 : decode prog_5_method_5_code 19 = .ok (.if_icmp .ne 6, 3) := by decide +kernel
theorem d_Rt_countBranches_22 : decode prog_5_method_5_code 22 = .ok (.iinc 2 1, 3) := by decide +kernel
theorem d_Rt_countBranches_25 : decode prog_5_method_5_code 25 = .ok (.iinc 3 1, 3) := by decide +kernel
theorem d_Rt_countBranches_28 : decode prog_5_method_5_code 28 = .ok (.goto (-24), 3) := by decide +kernel
theorem d_Rt_countBranches_31 : decode prog_5_method_5_code 31 = .ok (.iload_n 2, 1) := by decide +kernel
theorem d_Rt_countBranches_32 : decode prog_5_method_5_code 32 = .ok (.ireturn, 1) := by decide +kernel
-- PlayStates$RowTable.countBranches(I)I 
def ws_Rt_countBranches (G : gG) (a_t a_t_place a_t_told a_t_before a_t_behind : Nat)  (x_t_count : Int32) (x_t_behind : Nat → Int32) : va_W := [(a_t, .inr (3, [.ref a_t_place, .ref a_t_told, .ref a_t_before, .ref a_t_behind, .int x_t_count])), (a_t_behind, .inl (G.2 0, 600, .inl x_t_behind))]
def fb_Rt_countBranches_L4 (fu : Nat) (x_t_count : Int32) (x_t_behind : Nat → Int32)  (k4 : (Int32 → Int32 → Int32 → Option (Int32))) (l4_1 : Int32) (l4_2 : Int32) (l4_3 : Int32) : Option (Int32) :=
  (if x_t_count ≤ l4_3 then some l4_2 else (if inB l4_3 600 then (if (x_t_behind l4_3.toNatClampNeg) = l4_1 then (k4 l4_1 (l4_2 + (1 : Int32)) (l4_3 + (1 : Int32))) else (k4 l4_1 l4_2 (l4_3 + (1 : Int32)))) else none))
def f_Rt_countBranches_L4 (fu : Nat) (x_t_count : Int32) (x_t_behind : Nat → Int32)  : Nat → Int32 → Int32 → Int32 → Option (Int32)
  | 0 => fun _ _ _ => none
  | k9 + 1 => fb_Rt_countBranches_L4 fu x_t_count x_t_behind (f_Rt_countBranches_L4 fu x_t_count x_t_behind k9)
def f_Rt_countBranches (fu : Nat)  (p0 : Int32) (x_t_count : Int32) (x_t_behind : Nat → Int32) : Option (Int32) :=
  (f_Rt_countBranches_L4 fu x_t_count x_t_behind fu p0 (0 : Int32) (0 : Int32))
set_option maxHeartbeats 4000000 in
set_option maxRecDepth 100000 in
theorem c_Rt_countBranches (l : Launch) (G : gG) (sz : Nat) (a_t a_t_place a_t_told a_t_before a_t_behind : Nat) (fu : Nat)  (p0 : Int32) (x_t_count : Int32) (x_t_behind : Nat → Int32) (r : Int32) (h : f_Rt_countBranches fu p0 x_t_count x_t_behind = some r)  : cN l y_Rt_countBranches w_Rt_countBranches { frames := 0, cells := 0, slots := 0, locals := 0 } G sz [.ref a_t, .int p0] (ws_Rt_countBranches G a_t a_t_place a_t_told a_t_before a_t_behind x_t_count x_t_behind) (some (.int r)) (wB G (ws_Rt_countBranches G a_t a_t_place a_t_told a_t_before a_t_behind x_t_count x_t_behind)) 0 0 := by
  refine cN_ofW (cc := prog_5_method_5_code) (maxL := 4) (ret := (some .int)) (by decide) rfl (Nat.le_of_ble_eq_true rfl) ?_
  intro p e s m args below meth c A H locs ls hx hb hr hts hown hlocks hin hml hK hN hP hD hA hS hl
  replace hl : lv_has ls 4 [(0, .ref a_t), (1, .int p0)] := hl
  replace hown : s.vm.findClass "PlayStates$RowTable" = some m.cls := hown
  unfold f_Rt_countBranches at h
  refine lv_iconst (v := (0 : Int32)) hx hb d_Rt_countBranches_0 (by decide) ?_
  refine lv_istore_n (lv' := [(2, .int (0 : Int32)), (0, .ref a_t), (1, .int p0)]) hx hb d_Rt_countBranches_1 rfl hl (by decide) rfl (fun ls hl => ?_)
  refine lv_iconst (v := (0 : Int32)) hx hb d_Rt_countBranches_2 (by decide) ?_
  refine lv_istore_n (lv' := [(3, .int (0 : Int32)), (2, .int (0 : Int32)), (0, .ref a_t), (1, .int p0)]) hx hb d_Rt_countBranches_3 rfl hl (by decide) rfl (fun ls hl => ?_)
  have L4 : ∀ (nf : Nat) (l4_1 : Int32) (l4_2 : Int32) (l4_3 : Int32) (H : Heap) (locs : List Loc) (ls : Array Slot), f_Rt_countBranches_L4 fu x_t_count x_t_behind nf l4_1 l4_2 l4_3 = some r → va_P G.1 vwCl (ws_Rt_countBranches G a_t a_t_place a_t_told a_t_before a_t_behind x_t_count x_t_behind) H → va_D A (ws_Rt_countBranches G a_t a_t_place a_t_told a_t_before a_t_behind x_t_count x_t_behind) → va_S A s.heap H locs → lv_has ls 4 [(0, .ref a_t), (1, .int l4_1), (2, .int l4_2), (3, .int l4_3)] → W p l e { frames := 0, cells := 0, slots := 0, locals := 0 } s m args below meth c H locs 0 0 (MQ below (qQ (some (.int r)) (wB G (ws_Rt_countBranches G a_t a_t_place a_t_told a_t_before a_t_behind x_t_count x_t_behind) A) A) args s 0 0 A) (F0 m 4 ls []) := by
    clear h hP hD hS hl
    intro n4
    induction n4 with
    | zero => intro _ _ _ H locs ls h; exact nomatch (show none = some _ from h)
    | succ n4 ih4 =>
      intro l4_1 l4_2 l4_3 H locs ls h hP hD hS hl
      replace h : fb_Rt_countBranches_L4 fu x_t_count x_t_behind (f_Rt_countBranches_L4 fu x_t_count x_t_behind n4) l4_1 l4_2 l4_3 = some r := h
      unfold fb_Rt_countBranches_L4 at h
      refine lv_iload_n hx hb d_Rt_countBranches_4 rfl (lv_at hl 3 rfl) ?_
      refine lv_aload_n hx hb d_Rt_countBranches_5 rfl (lv_at hl 0 rfl) ?_
      refine va_get (D := G.1) (ci := 3) (v := .int x_t_count) (C := "PlayStates$RowTable") (T := TRt) (N := 5) hx hb hts iw_3 hown hK hP 0 rfl rfl 4 (by decide) (hts _ gw_66) (fun _ h9 => h9) rfl d_Rt_countBranches_6 ?_
      refine lv_icmp_ge (tgt := 31) hx hb d_Rt_countBranches_9 (by decide) (fun c1 => ?_) (fun c1 => ?_)
      · replace h := (if_pos c1).symm.trans h
        refine lv_iload_n hx hb d_Rt_countBranches_31 rfl (lv_at hl 2 rfl) ?_
        cases h
        exact q_iretW hx hb hr hlocks hP hD hS d_Rt_countBranches_32
      · replace h := (if_neg c1).symm.trans h
        refine lv_aload_n hx hb d_Rt_countBranches_12 rfl (lv_at hl 0 rfl) ?_
        refine va_get (D := G.1) (ci := 3) (v := .ref a_t_behind) (C := "PlayStates$RowTable") (T := TRt) (N := 5) hx hb hts iw_3 hown hK hP 0 rfl rfl 3 (by decide) (hts _ gw_65) (fun _ h9 => h9) rfl d_Rt_countBranches_13 ?_
        refine lv_iload_n hx hb d_Rt_countBranches_16 rfl (lv_at hl 3 rfl) ?_
        obtain ⟨i2, h⟩ := o_if h
        refine va_iald (n := 600) (f := x_t_behind) hx hb hK hP 1 0 rfl rfl i2 d_Rt_countBranches_17 ?_
        refine lv_iload_n hx hb d_Rt_countBranches_18 rfl (lv_at hl 1 rfl) ?_
        refine lv_icmp_ne (tgt := 25) hx hb d_Rt_countBranches_19 (by decide) (fun c3 => ?_) (fun c3 => ?_)
        · replace h := (if_neg c3).symm.trans h
          refine lv_iinc (v := (l4_3 + (1 : Int32))) (lv' := [(3, .int (l4_3 + (1 : Int32))), (0, .ref a_t), (1, .int l4_1), (2, .int l4_2)]) hx hb d_Rt_countBranches_25 hl (k := 3) rfl rfl (by decide) rfl (fun ls hl => ?_)
          refine lv_goto (tgt := 4) hx hb d_Rt_countBranches_28 (by decide) ?_
          exact ih4 l4_1 l4_2 (l4_3 + (1 : Int32)) _ _ _ h hP hD hS (lv_sub hl [1, 2, 3, 0] rfl)
        · replace h := (if_pos c3).symm.trans h
          refine lv_iinc (v := (l4_2 + (1 : Int32))) (lv' := [(2, .int (l4_2 + (1 : Int32))), (0, .ref a_t), (1, .int l4_1), (3, .int l4_3)]) hx hb d_Rt_countBranches_22 hl (k := 2) rfl rfl (by decide) rfl (fun ls hl => ?_)
          refine lv_iinc (v := (l4_3 + (1 : Int32))) (lv' := [(3, .int (l4_3 + (1 : Int32))), (2, .int (l4_2 + (1 : Int32))), (0, .ref a_t), (1, .int l4_1)]) hx hb d_Rt_countBranches_25 hl (k := 3) rfl rfl (by decide) rfl (fun ls hl => ?_)
          refine lv_goto (tgt := 4) hx hb d_Rt_countBranches_28 (by decide) ?_
          exact ih4 l4_1 (l4_2 + (1 : Int32)) (l4_3 + (1 : Int32)) _ _ _ h hP hD hS (lv_sub hl [2, 3, 1, 0] rfl)
  exact L4 fu p0 (0 : Int32) (0 : Int32) _ _ _ h hP hD hS (lv_sub hl [2, 3, 1, 0] rfl)

theorem d_Rt_findBranch_0 : decode prog_5_method_6_code 0 = .ok (.iconst 0, 1) := by decide +kernel
theorem d_Rt_findBranch_1 : decode prog_5_method_6_code 1 = .ok (.istore_n 3, 1) := by decide +kernel
theorem d_Rt_findBranch_2 : decode prog_5_method_6_code 2 = .ok (.iconst 0, 1) := by decide +kernel
theorem d_Rt_findBranch_3 : decode prog_5_method_6_code 3 = .ok (.istore 4, 2) := by decide +kernel
theorem d_Rt_findBranch_5 : decode prog_5_method_6_code 5 = .ok (.iload 4, 2) := by decide +kernel
theorem d_Rt_findBranch_7 : decode prog_5_method_6_code 7 = .ok (.aload_n 0, 1) := by decide +kernel
theorem d_Rt_findBranch_8 : decode prog_5_method_6_code 8 = .ok (.getfield 24, 3) := by decide +kernel
theorem d_Rt_findBranch_11 : decode prog_5_method_6_code 11 = .ok (.if_icmp .ge 31, 3) := by decide +kernel
theorem d_Rt_findBranch_14 : decode prog_5_method_6_code 14 = .ok (.aload_n 0, 1) := by decide +kernel
theorem d_Rt_findBranch_15 : decode prog_5_method_6_code 15 = .ok (.getfield 21, 3) := by decide +kernel
theorem d_Rt_findBranch_18 : decode prog_5_method_6_code 18 = .ok (.iload 4, 2) := by decide +kernel
theorem d_Rt_findBranch_20 : decode prog_5_method_6_code 20 = .ok (.iaload, 1) := by decide +kernel
theorem d_Rt_findBranch_21 : decode prog_5_method_6_code 21 = .ok (.iload_n 1, 1) := by decide +kernel
theorem d_Rt_findBranch_22 : decode prog_5_method_6_code 22 = .ok (.if_icmp .ne 14, 3) := by decide +kernel
theorem d_Rt_findBranch_25 : decode prog_5_method_6_code 25 = .ok (.iload_n 3, 1) := by decide +kernel
theorem d_Rt_findBranch_26 : decode prog_5_method_6_code 26 = .ok (.iload_n 2, 1) := by decide +kernel
theorem d_Rt_findBranch_27 : decode prog_5_method_6_code 27 = .ok (.if_icmp .ne 6, 3) := by decide +kernel
theorem d_Rt_findBranch_30 : decode prog_5_method_6_code 30 = .ok (.iload 4, 2) := by decide +kernel
theorem d_Rt_findBranch_32 : decode prog_5_method_6_code 32 = .ok (.ireturn, 1) := by decide +kernel
theorem d_Rt_findBranch_33 : decode prog_5_method_6_code 33 = .ok (.iinc 3 1, 3) := by decide +kernel
theorem d_Rt_findBranch_36 : decode prog_5_method_6_code 36 = .ok (.iinc 4 1, 3) := by decide +kernel
theorem d_Rt_findBranch_39 : decode prog_5_method_6_code 39 = .ok (.goto (-34), 3) := by decide +kernel
theorem d_Rt_findBranch_42 : decode prog_5_method_6_code 42 = .ok (.iconst (-1), 1) := by decide +kernel
theorem d_Rt_findBranch_43 : decode prog_5_method_6_code 43 = .ok (.ireturn, 1) := by decide +kernel
-- PlayStates$RowTable.findBranch(II)I 
def ws_Rt_findBranch (G : gG) (a_t a_t_place a_t_told a_t_before a_t_behind : Nat)  (x_t_count : Int32) (x_t_behind : Nat → Int32) : va_W := [(a_t, .inr (3, [.ref a_t_place, .ref a_t_told, .ref a_t_before, .ref a_t_behind, .int x_t_count])), (a_t_behind, .inl (G.2 0, 600, .inl x_t_behind))]
def fb_Rt_findBranch_L5 (fu : Nat) (x_t_count : Int32) (x_t_behind : Nat → Int32)  (k5 : (Int32 → Int32 → Int32 → Int32 → Option (Int32))) (l5_1 : Int32) (l5_2 : Int32) (l5_3 : Int32) (l5_4 : Int32) : Option (Int32) :=
  (if x_t_count ≤ l5_4 then some (-1 : Int32) else (if inB l5_4 600 then (if (x_t_behind l5_4.toNatClampNeg) = l5_1 then (if l5_3 = l5_2 then some l5_4 else (k5 l5_1 l5_2 (l5_3 + (1 : Int32)) (l5_4 + (1 : Int32)))) else (k5 l5_1 l5_2 l5_3 (l5_4 + (1 : Int32)))) else none))
def f_Rt_findBranch_L5 (fu : Nat) (x_t_count : Int32) (x_t_behind : Nat → Int32)  : Nat → Int32 → Int32 → Int32 → Int32 → Option (Int32)
  | 0 => fun _ _ _ _ => none
  | k9 + 1 => fb_Rt_findBranch_L5 fu x_t_count x_t_behind (f_Rt_findBranch_L5 fu x_t_count x_t_behind k9)
def f_Rt_findBranch (fu : Nat)  (p0 : Int32) (p1 : Int32) (x_t_count : Int32) (x_t_behind : Nat → Int32) : Option (Int32) :=
  (f_Rt_findBranch_L5 fu x_t_count x_t_behind fu p0 p1 (0 : Int32) (0 : Int32))
set_option maxHeartbeats 4000000 in
set_option maxRecDepth 100000 in
theorem c_Rt_findBranch (l : Launch) (G : gG) (sz : Nat) (a_t a_t_place a_t_told a_t_before a_t_behind : Nat) (fu : Nat)  (p0 : Int32) (p1 : Int32) (x_t_count : Int32) (x_t_behind : Nat → Int32) (r : Int32) (h : f_Rt_findBranch fu p0 p1 x_t_count x_t_behind = some r)  : cN l y_Rt_findBranch w_Rt_findBranch { frames := 0, cells := 0, slots := 0, locals := 0 } G sz [.ref a_t, .int p0, .int p1] (ws_Rt_findBranch G a_t a_t_place a_t_told a_t_before a_t_behind x_t_count x_t_behind) (some (.int r)) (wB G (ws_Rt_findBranch G a_t a_t_place a_t_told a_t_before a_t_behind x_t_count x_t_behind)) 0 0 := by
  refine cN_ofW (cc := prog_5_method_6_code) (maxL := 5) (ret := (some .int)) (by decide) rfl (Nat.le_of_ble_eq_true rfl) ?_
  intro p e s m args below meth c A H locs ls hx hb hr hts hown hlocks hin hml hK hN hP hD hA hS hl
  replace hl : lv_has ls 5 [(0, .ref a_t), (1, .int p0), (2, .int p1)] := hl
  replace hown : s.vm.findClass "PlayStates$RowTable" = some m.cls := hown
  unfold f_Rt_findBranch at h
  refine lv_iconst (v := (0 : Int32)) hx hb d_Rt_findBranch_0 (by decide) ?_
  refine lv_istore_n (lv' := [(3, .int (0 : Int32)), (0, .ref a_t), (1, .int p0), (2, .int p1)]) hx hb d_Rt_findBranch_1 rfl hl (by decide) rfl (fun ls hl => ?_)
  refine lv_iconst (v := (0 : Int32)) hx hb d_Rt_findBranch_2 (by decide) ?_
  refine lv_istore (lv' := [(4, .int (0 : Int32)), (3, .int (0 : Int32)), (0, .ref a_t), (1, .int p0), (2, .int p1)]) hx hb d_Rt_findBranch_3 hl (by decide) rfl (fun ls hl => ?_)
  have L5 : ∀ (nf : Nat) (l5_1 : Int32) (l5_2 : Int32) (l5_3 : Int32) (l5_4 : Int32) (H : Heap) (locs : List Loc) (ls : Array Slot), f_Rt_findBranch_L5 fu x_t_count x_t_behind nf l5_1 l5_2 l5_3 l5_4 = some r → va_P G.1 vwCl (ws_Rt_findBranch G a_t a_t_place a_t_told a_t_before a_t_behind x_t_count x_t_behind) H → va_D A (ws_Rt_findBranch G a_t a_t_place a_t_told a_t_before a_t_behind x_t_count x_t_behind) → va_S A s.heap H locs → lv_has ls 5 [(0, .ref a_t), (1, .int l5_1), (2, .int l5_2), (3, .int l5_3), (4, .int l5_4)] → W p l e { frames := 0, cells := 0, slots := 0, locals := 0 } s m args below meth c H locs 0 0 (MQ below (qQ (some (.int r)) (wB G (ws_Rt_findBranch G a_t a_t_place a_t_told a_t_before a_t_behind x_t_count x_t_behind) A) A) args s 0 0 A) (F0 m 5 ls []) := by
    clear h hP hD hS hl
    intro n5
    induction n5 with
    | zero => intro _ _ _ _ H locs ls h; exact nomatch (show none = some _ from h)
    | succ n5 ih5 =>
      intro l5_1 l5_2 l5_3 l5_4 H locs ls h hP hD hS hl
      replace h : fb_Rt_findBranch_L5 fu x_t_count x_t_behind (f_Rt_findBranch_L5 fu x_t_count x_t_behind n5) l5_1 l5_2 l5_3 l5_4 = some r := h
      unfold fb_Rt_findBranch_L5 at h
      refine lv_iload hx hb d_Rt_findBranch_5 (lv_at hl 4 rfl) ?_
      refine lv_aload_n hx hb d_Rt_findBranch_7 rfl (lv_at hl 0 rfl) ?_
      refine va_get (D := G.1) (ci := 3) (v := .int x_t_count) (C := "PlayStates$RowTable") (T := TRt) (N := 5) hx hb hts iw_3 hown hK hP 0 rfl rfl 4 (by decide) (hts _ gw_66) (fun _ h9 => h9) rfl d_Rt_findBranch_8 ?_
      refine lv_icmp_ge (tgt := 42) hx hb d_Rt_findBranch_11 (by decide) (fun c1 => ?_) (fun c1 => ?_)
      · replace h := (if_pos c1).symm.trans h
        refine lv_iconst (v := (-1 : Int32)) hx hb d_Rt_findBranch_42 (by decide) ?_
        cases h
        exact q_iretW hx hb hr hlocks hP hD hS d_Rt_findBranch_43
      · replace h := (if_neg c1).symm.trans h
        refine lv_aload_n hx hb d_Rt_findBranch_14 rfl (lv_at hl 0 rfl) ?_
        refine va_get (D := G.1) (ci := 3) (v := .ref a_t_behind) (C := "PlayStates$RowTable") (T := TRt) (N := 5) hx hb hts iw_3 hown hK hP 0 rfl rfl 3 (by decide) (hts _ gw_65) (fun _ h9 => h9) rfl d_Rt_findBranch_15 ?_
        refine lv_iload hx hb d_Rt_findBranch_18 (lv_at hl 4 rfl) ?_
        obtain ⟨i2, h⟩ := o_if h
        refine va_iald (n := 600) (f := x_t_behind) hx hb hK hP 1 0 rfl rfl i2 d_Rt_findBranch_20 ?_
        refine lv_iload_n hx hb d_Rt_findBranch_21 rfl (lv_at hl 1 rfl) ?_
        refine lv_icmp_ne (tgt := 36) hx hb d_Rt_findBranch_22 (by decide) (fun c3 => ?_) (fun c3 => ?_)
        · replace h := (if_neg c3).symm.trans h
          refine lv_iinc (v := (l5_4 + (1 : Int32))) (lv' := [(4, .int (l5_4 + (1 : Int32))), (0, .ref a_t), (1, .int l5_1), (2, .int l5_2), (3, .int l5_3)]) hx hb d_Rt_findBranch_36 hl (k := 4) rfl rfl (by decide) rfl (fun ls hl => ?_)
          refine lv_goto (tgt := 5) hx hb d_Rt_findBranch_39 (by decide) ?_
          exact ih5 l5_1 l5_2 l5_3 (l5_4 + (1 : Int32)) _ _ _ h hP hD hS (lv_sub hl [1, 2, 3, 4, 0] rfl)
        · replace h := (if_pos c3).symm.trans h
          refine lv_iload_n hx hb d_Rt_findBranch_25 rfl (lv_at hl 3 rfl) ?_
          refine lv_iload_n hx hb d_Rt_findBranch_26 rfl (lv_at hl 2 rfl) ?_
          refine lv_icmp_ne (tgt := 33) hx hb d_Rt_findBranch_27 (by decide) (fun c4 => ?_) (fun c4 => ?_)
          · replace h := (if_neg c4).symm.trans h
            refine lv_iinc (v := (l5_3 + (1 : Int32))) (lv' := [(3, .int (l5_3 + (1 : Int32))), (0, .ref a_t), (1, .int l5_1), (2, .int l5_2), (4, .int l5_4)]) hx hb d_Rt_findBranch_33 hl (k := 3) rfl rfl (by decide) rfl (fun ls hl => ?_)
            refine lv_iinc (v := (l5_4 + (1 : Int32))) (lv' := [(4, .int (l5_4 + (1 : Int32))), (3, .int (l5_3 + (1 : Int32))), (0, .ref a_t), (1, .int l5_1), (2, .int l5_2)]) hx hb d_Rt_findBranch_36 hl (k := 4) rfl rfl (by decide) rfl (fun ls hl => ?_)
            refine lv_goto (tgt := 5) hx hb d_Rt_findBranch_39 (by decide) ?_
            exact ih5 l5_1 l5_2 (l5_3 + (1 : Int32)) (l5_4 + (1 : Int32)) _ _ _ h hP hD hS (lv_sub hl [2, 3, 4, 1, 0] rfl)
          · replace h := (if_pos c4).symm.trans h
            refine lv_iload hx hb d_Rt_findBranch_30 (lv_at hl 4 rfl) ?_
            cases h
            exact q_iretW hx hb hr hlocks hP hD hS d_Rt_findBranch_32
  exact L5 fu p0 p1 (0 : Int32) (0 : Int32) _ _ _ h hP hD hS (lv_sub hl [2, 3, 4, 1, 0] rfl)
end
section
theorem gw_309 : (.constant "java/lang/Integer" 265 (1431655765 : Int32) : Cond) ∈ GW := gT 339 (by decide +kernel) (by decide +kernel)
theorem gw_310 : (.constant "java/lang/Integer" 266 (858993459 : Int32) : Cond) ∈ GW := gT 340 (by decide +kernel) (by decide +kernel)
theorem gw_311 : (.constant "java/lang/Integer" 267 (252645135 : Int32) : Cond) ∈ GW := gT 341 (by decide +kernel) (by decide +kernel)
theorem d_Jn_bitCount_0 : decode prog_9_method_49_code 0 = .ok (.iload_n 0, 1) := by decide +kernel
theorem d_Jn_bitCount_1 : decode prog_9_method_49_code 1 = .ok (.iload_n 0, 1) := by decide +kernel
theorem d_Jn_bitCount_2 : decode prog_9_method_49_code 2 = .ok (.iconst 1, 1) := by decide +kernel
theorem d_Jn_bitCount_3 : decode prog_9_method_49_code 3 = .ok (.iushr, 1) := by decide +kernel
theorem d_Jn_bitCount_4 : decode prog_9_method_49_code 4 = .ok (.ldc_w 265, 3) := by decide +kernel
theorem d_Jn_bitCount_7 : decode prog_9_method_49_code 7 = .ok (.iand, 1) := by decide +kernel
theorem d_Jn_bitCount_8 : decode prog_9_method_49_code 8 = .ok (.isub, 1) := by decide +kernel
theorem d_Jn_bitCount_9 : decode prog_9_method_49_code 9 = .ok (.istore_n 0, 1) := by decide +kernel
theorem d_Jn_bitCount_10 : decode prog_9_method_49_code 10 = .ok (.iload_n 0, 1) := by decide +kernel
theorem d_Jn_bitCount_11 : decode prog_9_method_49_code 11 = .ok (.ldc_w 266, 3) := by decide +kernel
theorem d_Jn_bitCount_14 : decode prog_9_method_49_code 14 = .ok (.iand, 1) := by decide +kernel
theorem d_Jn_bitCount_15 : decode prog_9_method_49_code 15 = .ok (.iload_n 0, 1) := by decide +kernel
theorem d_Jn_bitCount_16 : decode prog_9_method_49_code 16 = .ok (.iconst 2, 1) := by decide +kernel
theorem d_Jn_bitCount_17 : decode prog_9_method_49_code 17 = .ok (.iushr, 1) := by decide +kernel
theorem d_Jn_bitCount_18 : decode prog_9_method_49_code 18 = .ok (.ldc_w 266, 3) := by decide +kernel
theorem d_Jn_bitCount_21 : decode prog_9_method_49_code 21 = .ok (.iand, 1) := by decide +kernel
theorem d_Jn_bitCount_22 : decode prog_9_method_49_code 22 = .ok (.iadd, 1) := by decide +kernel
theorem d_Jn_bitCount_23 : decode prog_9_method_49_code 23 = .ok (.istore_n 0, 1) := by decide +kernel
theorem d_Jn_bitCount_24 : decode prog_9_method_49_code 24 = .ok (.iload_n 0, 1) := by decide +kernel
theorem d_Jn_bitCount_25 : decode prog_9_method_49_code 25 = .ok (.iload_n 0, 1) := by decide +kernel
theorem d_Jn_bitCount_26 : decode prog_9_method_49_code 26 = .ok (.iconst 4, 1) := by decide +kernel
theorem d_Jn_bitCount_27 : decode prog_9_method_49_code 27 = .ok (.iushr, 1) := by decide +kernel
theorem d_Jn_bitCount_28 : decode prog_9_method_49_code 28 = .ok (.iadd, 1) := by decide +kernel
theorem d_Jn_bitCount_29 : decode prog_9_method_49_code 29 = .ok (.ldc_w 267, 3) := by decide +kernel
theorem d_Jn_bitCount_32 : decode prog_9_method_49_code 32 = .ok (.iand, 1) := by decide +kernel
theorem d_Jn_bitCount_33 : decode prog_9_method_49_code 33 = .ok (.istore_n 0, 1) := by decide +kernel
theorem d_Jn_bitCount_34 : decode prog_9_method_49_code 34 = .ok (.iload_n 0, 1) := by decide +kernel
theorem d_Jn_bitCount_35 : decode prog_9_method_49_code 35 = .ok (.iload_n 0, 1) := by decide +kernel
theorem d_Jn_bitCount_36 : decode prog_9_method_49_code 36 = .ok (.bipush 8, 2) := by decide +kernel
theorem d_Jn_bitCount_38 : decode prog_9_method_49_code 38 = .ok (.iushr, 1) := by decide +kernel
theorem d_Jn_bitCount_39 : decode prog_9_method_49_code 39 = .ok (.iadd, 1) := by decide +kernel
theorem d_Jn_bitCount_40 : decode prog_9_method_49_code 40 = .ok (.istore_n 0, 1) := by decide +kernel
theorem d_Jn_bitCount_41 : decode prog_9_method_49_code 41 = .ok (.iload_n 0, 1) := by decide +kernel
theorem d_Jn_bitCount_42 : decode prog_9_method_49_code 42 = .ok (.iload_n 0, 1) := by decide +kernel
theorem d_Jn_bitCount_43 : decode prog_9_method_49_code 43 = .ok (.bipush 16, 2) := by decide +kernel
theorem d_Jn_bitCount_45 : decode prog_9_method_49_code 45 = .ok (.iushr, 1) := by decide +kernel
theorem d_Jn_bitCount_46 : decode prog_9_method_49_code 46 = .ok (.iadd, 1) := by decide +kernel
theorem d_Jn_bitCount_47 : decode prog_9_method_49_code 47 = .ok (.istore_n 0, 1) := by decide +kernel
theorem d_Jn_bitCount_48 : decode prog_9_method_49_code 48 = .ok (.iload_n 0, 1) := by decide +kernel
theorem d_Jn_bitCount_49 : decode prog_9_method_49_code 49 = .ok (.bipush 63, 2) := by decide +kernel
theorem d_Jn_bitCount_51 : decode prog_9_method_49_code 51 = .ok (.iand, 1) := by decide +kernel
theorem d_Jn_bitCount_52 : decode prog_9_method_49_code 52 = .ok (.ireturn, 1) := by decide +kernel
-- java/lang/Integer.bitCount(I)I 
def ws_Jn_bitCount (G : gG)    : va_W := []
def f_Jn_bitCount  (p0 : Int32)  : Option (Int32) :=
  some ((((((((p0 - ((((p0).toUInt32 >>> (((1 : Int32)).toUInt32 &&& Int32.toUInt32 31)).toInt32) &&& (1431655765 : Int32))) &&& (858993459 : Int32)) + (((((p0 - ((((p0).toUInt32 >>> (((1 : Int32)).toUInt32 &&& Int32.toUInt32 31)).toInt32) &&& (1431655765 : Int32)))).toUInt32 >>> (((2 : Int32)).toUInt32 &&& Int32.toUInt32 31)).toInt32) &&& (858993459 : Int32))) + ((((((p0 - ((((p0).toUInt32 >>> (((1 : Int32)).toUInt32 &&& Int32.toUInt32 31)).toInt32) &&& (1431655765 : Int32))) &&& (858993459 : Int32)) + (((((p0 - ((((p0).toUInt32 >>> (((1 : Int32)).toUInt32 &&& Int32.toUInt32 31)).toInt32) &&& (1431655765 : Int32)))).toUInt32 >>> (((2 : Int32)).toUInt32 &&& Int32.toUInt32 31)).toInt32) &&& (858993459 : Int32)))).toUInt32 >>> (((4 : Int32)).toUInt32 &&& Int32.toUInt32 31)).toInt32)) &&& (252645135 : Int32)) + ((((((((p0 - ((((p0).toUInt32 >>> (((1 : Int32)).toUInt32 &&& Int32.toUInt32 31)).toInt32) &&& (1431655765 : Int32))) &&& (858993459 : Int32)) + (((((p0 - ((((p0).toUInt32 >>> (((1 : Int32)).toUInt32 &&& Int32.toUInt32 31)).toInt32) &&& (1431655765 : Int32)))).toUInt32 >>> (((2 : Int32)).toUInt32 &&& Int32.toUInt32 31)).toInt32) &&& (858993459 : Int32))) + ((((((p0 - ((((p0).toUInt32 >>> (((1 : Int32)).toUInt32 &&& Int32.toUInt32 31)).toInt32) &&& (1431655765 : Int32))) &&& (858993459 : Int32)) + (((((p0 - ((((p0).toUInt32 >>> (((1 : Int32)).toUInt32 &&& Int32.toUInt32 31)).toInt32) &&& (1431655765 : Int32)))).toUInt32 >>> (((2 : Int32)).toUInt32 &&& Int32.toUInt32 31)).toInt32) &&& (858993459 : Int32)))).toUInt32 >>> (((4 : Int32)).toUInt32 &&& Int32.toUInt32 31)).toInt32)) &&& (252645135 : Int32))).toUInt32 >>> (((8 : Int32)).toUInt32 &&& Int32.toUInt32 31)).toInt32)) + (((((((((p0 - ((((p0).toUInt32 >>> (((1 : Int32)).toUInt32 &&& Int32.toUInt32 31)).toInt32) &&& (1431655765 : Int32))) &&& (858993459 : Int32)) + (((((p0 - ((((p0).toUInt32 >>> (((1 : Int32)).toUInt32 &&& Int32.toUInt32 31)).toInt32) &&& (1431655765 : Int32)))).toUInt32 >>> (((2 : Int32)).toUInt32 &&& Int32.toUInt32 31)).toInt32) &&& (858993459 : Int32))) + ((((((p0 - ((((p0).toUInt32 >>> (((1 : Int32)).toUInt32 &&& Int32.toUInt32 31)).toInt32) &&& (1431655765 : Int32))) &&& (858993459 : Int32)) + (((((p0 - ((((p0).toUInt32 >>> (((1 : Int32)).toUInt32 &&& Int32.toUInt32 31)).toInt32) &&& (1431655765 : Int32)))).toUInt32 >>> (((2 : Int32)).toUInt32 &&& Int32.toUInt32 31)).toInt32) &&& (858993459 : Int32)))).toUInt32 >>> (((4 : Int32)).toUInt32 &&& Int32.toUInt32 31)).toInt32)) &&& (252645135 : Int32)) + ((((((((p0 - ((((p0).toUInt32 >>> (((1 : Int32)).toUInt32 &&& Int32.toUInt32 31)).toInt32) &&& (1431655765 : Int32))) &&& (858993459 : Int32)) + (((((p0 - ((((p0).toUInt32 >>> (((1 : Int32)).toUInt32 &&& Int32.toUInt32 31)).toInt32) &&& (1431655765 : Int32)))).toUInt32 >>> (((2 : Int32)).toUInt32 &&& Int32.toUInt32 31)).toInt32) &&& (858993459 : Int32))) + ((((((p0 - ((((p0).toUInt32 >>> (((1 : Int32)).toUInt32 &&& Int32.toUInt32 31)).toInt32) &&& (1431655765 : Int32))) &&& (858993459 : Int32)) + (((((p0 - ((((p0).toUInt32 >>> (((1 : Int32)).toUInt32 &&& Int32.toUInt32 31)).toInt32) &&& (1431655765 : Int32)))).toUInt32 >>> (((2 : Int32)).toUInt32 &&& Int32.toUInt32 31)).toInt32) &&& (858993459 : Int32)))).toUInt32 >>> (((4 : Int32)).toUInt32 &&& Int32.toUInt32 31)).toInt32)) &&& (252645135 : Int32))).toUInt32 >>> (((8 : Int32)).toUInt32 &&& Int32.toUInt32 31)).toInt32))).toUInt32 >>> (((16 : Int32)).toUInt32 &&& Int32.toUInt32 31)).toInt32)) &&& (63 : Int32))
set_option maxHeartbeats 4000000 in
set_option maxRecDepth 100000 in
theorem c_Jn_bitCount (l : Launch) (G : gG) (sz : Nat)   (p0 : Int32)  (r : Int32) (h : f_Jn_bitCount p0 = some r)  : cN l y_Jn_bitCount w_Jn_bitCount { frames := 0, cells := 0, slots := 0, locals := 0 } G sz [.int p0] (ws_Jn_bitCount G) (some (.int r)) (wB G (ws_Jn_bitCount G)) 0 0 := by
  refine cN_ofW (cc := prog_9_method_49_code) (maxL := 1) (ret := (some .int)) (by decide) rfl (Nat.le_of_ble_eq_true rfl) ?_
  intro p e s m args below meth c A H locs ls hx hb hr hts hown hlocks hin hml hK hN hP hD hA hS hl
  replace hl : lv_has ls 1 [(0, .int p0)] := hl
  replace hown : s.vm.findClass "java/lang/Integer" = some m.cls := hown
  unfold f_Jn_bitCount at h
  refine lv_iload_n hx hb d_Jn_bitCount_0 rfl (lv_at hl 0 rfl) ?_
  refine lv_iload_n hx hb d_Jn_bitCount_1 rfl (lv_at hl 0 rfl) ?_
  refine lv_iconst (v := (1 : Int32)) hx hb d_Jn_bitCount_2 (by decide) ?_
  refine lv_iushr hx hb d_Jn_bitCount_3 rfl ?_
  refine lv_ldcw (v := (1431655765 : Int32)) hx hb hown (hts _ gw_309) d_Jn_bitCount_4 ?_
  refine lv_iand hx hb d_Jn_bitCount_7 ?_
  refine lv_isub hx hb d_Jn_bitCount_8 ?_
  refine lv_istore_n (lv' := [(0, .int (p0 - ((((p0).toUInt32 >>> (((1 : Int32)).toUInt32 &&& Int32.toUInt32 31)).toInt32) &&& (1431655765 : Int32))))]) hx hb d_Jn_bitCount_9 rfl hl (by decide) rfl (fun ls hl => ?_)
  refine lv_iload_n hx hb d_Jn_bitCount_10 rfl (lv_at hl 0 rfl) ?_
  refine lv_ldcw (v := (858993459 : Int32)) hx hb hown (hts _ gw_310) d_Jn_bitCount_11 ?_
  refine lv_iand hx hb d_Jn_bitCount_14 ?_
  refine lv_iload_n hx hb d_Jn_bitCount_15 rfl (lv_at hl 0 rfl) ?_
  refine lv_iconst (v := (2 : Int32)) hx hb d_Jn_bitCount_16 (by decide) ?_
  refine lv_iushr hx hb d_Jn_bitCount_17 rfl ?_
  refine lv_ldcw (v := (858993459 : Int32)) hx hb hown (hts _ gw_310) d_Jn_bitCount_18 ?_
  refine lv_iand hx hb d_Jn_bitCount_21 ?_
  refine lv_iadd hx hb d_Jn_bitCount_22 ?_
  refine lv_istore_n (lv' := [(0, .int (((p0 - ((((p0).toUInt32 >>> (((1 : Int32)).toUInt32 &&& Int32.toUInt32 31)).toInt32) &&& (1431655765 : Int32))) &&& (858993459 : Int32)) + (((((p0 - ((((p0).toUInt32 >>> (((1 : Int32)).toUInt32 &&& Int32.toUInt32 31)).toInt32) &&& (1431655765 : Int32)))).toUInt32 >>> (((2 : Int32)).toUInt32 &&& Int32.toUInt32 31)).toInt32) &&& (858993459 : Int32))))]) hx hb d_Jn_bitCount_23 rfl hl (by decide) rfl (fun ls hl => ?_)
  refine lv_iload_n hx hb d_Jn_bitCount_24 rfl (lv_at hl 0 rfl) ?_
  refine lv_iload_n hx hb d_Jn_bitCount_25 rfl (lv_at hl 0 rfl) ?_
  refine lv_iconst (v := (4 : Int32)) hx hb d_Jn_bitCount_26 (by decide) ?_
  refine lv_iushr hx hb d_Jn_bitCount_27 rfl ?_
  refine lv_iadd hx hb d_Jn_bitCount_28 ?_
  refine lv_ldcw (v := (252645135 : Int32)) hx hb hown (hts _ gw_311) d_Jn_bitCount_29 ?_
  refine lv_iand hx hb d_Jn_bitCount_32 ?_
  refine lv_istore_n (lv' := [(0, .int (((((p0 - ((((p0).toUInt32 >>> (((1 : Int32)).toUInt32 &&& Int32.toUInt32 31)).toInt32) &&& (1431655765 : Int32))) &&& (858993459 : Int32)) + (((((p0 - ((((p0).toUInt32 >>> (((1 : Int32)).toUInt32 &&& Int32.toUInt32 31)).toInt32) &&& (1431655765 : Int32)))).toUInt32 >>> (((2 : Int32)).toUInt32 &&& Int32.toUInt32 31)).toInt32) &&& (858993459 : Int32))) + ((((((p0 - ((((p0).toUInt32 >>> (((1 : Int32)).toUInt32 &&& Int32.toUInt32 31)).toInt32) &&& (1431655765 : Int32))) &&& (858993459 : Int32)) + (((((p0 - ((((p0).toUInt32 >>> (((1 : Int32)).toUInt32 &&& Int32.toUInt32 31)).toInt32) &&& (1431655765 : Int32)))).toUInt32 >>> (((2 : Int32)).toUInt32 &&& Int32.toUInt32 31)).toInt32) &&& (858993459 : Int32)))).toUInt32 >>> (((4 : Int32)).toUInt32 &&& Int32.toUInt32 31)).toInt32)) &&& (252645135 : Int32)))]) hx hb d_Jn_bitCount_33 rfl hl (by decide) rfl (fun ls hl => ?_)
  refine lv_iload_n hx hb d_Jn_bitCount_34 rfl (lv_at hl 0 rfl) ?_
  refine lv_iload_n hx hb d_Jn_bitCount_35 rfl (lv_at hl 0 rfl) ?_
  refine lv_bipush (v := (8 : Int32)) hx hb d_Jn_bitCount_36 (by decide) ?_
  refine lv_iushr hx hb d_Jn_bitCount_38 rfl ?_
  refine lv_iadd hx hb d_Jn_bitCount_39 ?_
  refine lv_istore_n (lv' := [(0, .int ((((((p0 - ((((p0).toUInt32 >>> (((1 : Int32)).toUInt32 &&& Int32.toUInt32 31)).toInt32) &&& (1431655765 : Int32))) &&& (858993459 : Int32)) + (((((p0 - ((((p0).toUInt32 >>> (((1 : Int32)).toUInt32 &&& Int32.toUInt32 31)).toInt32) &&& (1431655765 : Int32)))).toUInt32 >>> (((2 : Int32)).toUInt32 &&& Int32.toUInt32 31)).toInt32) &&& (858993459 : Int32))) + ((((((p0 - ((((p0).toUInt32 >>> (((1 : Int32)).toUInt32 &&& Int32.toUInt32 31)).toInt32) &&& (1431655765 : Int32))) &&& (858993459 : Int32)) + (((((p0 - ((((p0).toUInt32 >>> (((1 : Int32)).toUInt32 &&& Int32.toUInt32 31)).toInt32) &&& (1431655765 : Int32)))).toUInt32 >>> (((2 : Int32)).toUInt32 &&& Int32.toUInt32 31)).toInt32) &&& (858993459 : Int32)))).toUInt32 >>> (((4 : Int32)).toUInt32 &&& Int32.toUInt32 31)).toInt32)) &&& (252645135 : Int32)) + ((((((((p0 - ((((p0).toUInt32 >>> (((1 : Int32)).toUInt32 &&& Int32.toUInt32 31)).toInt32) &&& (1431655765 : Int32))) &&& (858993459 : Int32)) + (((((p0 - ((((p0).toUInt32 >>> (((1 : Int32)).toUInt32 &&& Int32.toUInt32 31)).toInt32) &&& (1431655765 : Int32)))).toUInt32 >>> (((2 : Int32)).toUInt32 &&& Int32.toUInt32 31)).toInt32) &&& (858993459 : Int32))) + ((((((p0 - ((((p0).toUInt32 >>> (((1 : Int32)).toUInt32 &&& Int32.toUInt32 31)).toInt32) &&& (1431655765 : Int32))) &&& (858993459 : Int32)) + (((((p0 - ((((p0).toUInt32 >>> (((1 : Int32)).toUInt32 &&& Int32.toUInt32 31)).toInt32) &&& (1431655765 : Int32)))).toUInt32 >>> (((2 : Int32)).toUInt32 &&& Int32.toUInt32 31)).toInt32) &&& (858993459 : Int32)))).toUInt32 >>> (((4 : Int32)).toUInt32 &&& Int32.toUInt32 31)).toInt32)) &&& (252645135 : Int32))).toUInt32 >>> (((8 : Int32)).toUInt32 &&& Int32.toUInt32 31)).toInt32)))]) hx hb d_Jn_bitCount_40 rfl hl (by decide) rfl (fun ls hl => ?_)
  refine lv_iload_n hx hb d_Jn_bitCount_41 rfl (lv_at hl 0 rfl) ?_
  refine lv_iload_n hx hb d_Jn_bitCount_42 rfl (lv_at hl 0 rfl) ?_
  refine lv_bipush (v := (16 : Int32)) hx hb d_Jn_bitCount_43 (by decide) ?_
  refine lv_iushr hx hb d_Jn_bitCount_45 rfl ?_
  refine lv_iadd hx hb d_Jn_bitCount_46 ?_
  refine lv_istore_n (lv' := [(0, .int (((((((p0 - ((((p0).toUInt32 >>> (((1 : Int32)).toUInt32 &&& Int32.toUInt32 31)).toInt32) &&& (1431655765 : Int32))) &&& (858993459 : Int32)) + (((((p0 - ((((p0).toUInt32 >>> (((1 : Int32)).toUInt32 &&& Int32.toUInt32 31)).toInt32) &&& (1431655765 : Int32)))).toUInt32 >>> (((2 : Int32)).toUInt32 &&& Int32.toUInt32 31)).toInt32) &&& (858993459 : Int32))) + ((((((p0 - ((((p0).toUInt32 >>> (((1 : Int32)).toUInt32 &&& Int32.toUInt32 31)).toInt32) &&& (1431655765 : Int32))) &&& (858993459 : Int32)) + (((((p0 - ((((p0).toUInt32 >>> (((1 : Int32)).toUInt32 &&& Int32.toUInt32 31)).toInt32) &&& (1431655765 : Int32)))).toUInt32 >>> (((2 : Int32)).toUInt32 &&& Int32.toUInt32 31)).toInt32) &&& (858993459 : Int32)))).toUInt32 >>> (((4 : Int32)).toUInt32 &&& Int32.toUInt32 31)).toInt32)) &&& (252645135 : Int32)) + ((((((((p0 - ((((p0).toUInt32 >>> (((1 : Int32)).toUInt32 &&& Int32.toUInt32 31)).toInt32) &&& (1431655765 : Int32))) &&& (858993459 : Int32)) + (((((p0 - ((((p0).toUInt32 >>> (((1 : Int32)).toUInt32 &&& Int32.toUInt32 31)).toInt32) &&& (1431655765 : Int32)))).toUInt32 >>> (((2 : Int32)).toUInt32 &&& Int32.toUInt32 31)).toInt32) &&& (858993459 : Int32))) + ((((((p0 - ((((p0).toUInt32 >>> (((1 : Int32)).toUInt32 &&& Int32.toUInt32 31)).toInt32) &&& (1431655765 : Int32))) &&& (858993459 : Int32)) + (((((p0 - ((((p0).toUInt32 >>> (((1 : Int32)).toUInt32 &&& Int32.toUInt32 31)).toInt32) &&& (1431655765 : Int32)))).toUInt32 >>> (((2 : Int32)).toUInt32 &&& Int32.toUInt32 31)).toInt32) &&& (858993459 : Int32)))).toUInt32 >>> (((4 : Int32)).toUInt32 &&& Int32.toUInt32 31)).toInt32)) &&& (252645135 : Int32))).toUInt32 >>> (((8 : Int32)).toUInt32 &&& Int32.toUInt32 31)).toInt32)) + (((((((((p0 - ((((p0).toUInt32 >>> (((1 : Int32)).toUInt32 &&& Int32.toUInt32 31)).toInt32) &&& (1431655765 : Int32))) &&& (858993459 : Int32)) + (((((p0 - ((((p0).toUInt32 >>> (((1 : Int32)).toUInt32 &&& Int32.toUInt32 31)).toInt32) &&& (1431655765 : Int32)))).toUInt32 >>> (((2 : Int32)).toUInt32 &&& Int32.toUInt32 31)).toInt32) &&& (858993459 : Int32))) + ((((((p0 - ((((p0).toUInt32 >>> (((1 : Int32)).toUInt32 &&& Int32.toUInt32 31)).toInt32) &&& (1431655765 : Int32))) &&& (858993459 : Int32)) + (((((p0 - ((((p0).toUInt32 >>> (((1 : Int32)).toUInt32 &&& Int32.toUInt32 31)).toInt32) &&& (1431655765 : Int32)))).toUInt32 >>> (((2 : Int32)).toUInt32 &&& Int32.toUInt32 31)).toInt32) &&& (858993459 : Int32)))).toUInt32 >>> (((4 : Int32)).toUInt32 &&& Int32.toUInt32 31)).toInt32)) &&& (252645135 : Int32)) + ((((((((p0 - ((((p0).toUInt32 >>> (((1 : Int32)).toUInt32 &&& Int32.toUInt32 31)).toInt32) &&& (1431655765 : Int32))) &&& (858993459 : Int32)) + (((((p0 - ((((p0).toUInt32 >>> (((1 : Int32)).toUInt32 &&& Int32.toUInt32 31)).toInt32) &&& (1431655765 : Int32)))).toUInt32 >>> (((2 : Int32)).toUInt32 &&& Int32.toUInt32 31)).toInt32) &&& (858993459 : Int32))) + ((((((p0 - ((((p0).toUInt32 >>> (((1 : Int32)).toUInt32 &&& Int32.toUInt32 31)).toInt32) &&& (1431655765 : Int32))) &&& (858993459 : Int32)) + (((((p0 - ((((p0).toUInt32 >>> (((1 : Int32)).toUInt32 &&& Int32.toUInt32 31)).toInt32) &&& (1431655765 : Int32)))).toUInt32 >>> (((2 : Int32)).toUInt32 &&& Int32.toUInt32 31)).toInt32) &&& (858993459 : Int32)))).toUInt32 >>> (((4 : Int32)).toUInt32 &&& Int32.toUInt32 31)).toInt32)) &&& (252645135 : Int32))).toUInt32 >>> (((8 : Int32)).toUInt32 &&& Int32.toUInt32 31)).toInt32))).toUInt32 >>> (((16 : Int32)).toUInt32 &&& Int32.toUInt32 31)).toInt32)))]) hx hb d_Jn_bitCount_47 rfl hl (by decide) rfl (fun ls hl => ?_)
  refine lv_iload_n hx hb d_Jn_bitCount_48 rfl (lv_at hl 0 rfl) ?_
  refine lv_bipush (v := (63 : Int32)) hx hb d_Jn_bitCount_49 (by decide) ?_
  refine lv_iand hx hb d_Jn_bitCount_51 ?_
  cases h
  exact q_iretW hx hb hr hlocks hP hD hS d_Jn_bitCount_52

theorem d_Ja_fill_0 : decode prog_11_method_103_code 0 = .ok (.iconst 0, 1) := by decide +kernel
theorem d_Ja_fill_1 : decode prog_11_method_103_code 1 = .ok (.istore_n 2, 1) := by decide +kernel
theorem d_Ja_fill_2 : decode prog_11_method_103_code 2 = .ok (.aload_n 0, 1) := by decide +kernel
theorem d_Ja_fill_3 : decode prog_11_method_103_code 3 = .ok (.arraylength, 1) := by decide +kernel
theorem d_Ja_fill_4 : decode prog_11_method_103_code 4 = .ok (.istore_n 3, 1) := by decide +kernel
theorem d_Ja_fill_5 : decode prog_11_method_103_code 5 = .ok (.iload_n 2, 1) := by decide +kernel
theorem d_Ja_fill_6 : decode prog_11_method_103_code 6 = .ok (.iload_n 3, 1) := by decide +kernel
theorem d_Ja_fill_7 : decode prog_11_method_103_code 7 = .ok (.if_icmp .ge 13, 3) := by decide +kernel
theorem d_Ja_fill_10 : decode prog_11_method_103_code 10 = .ok (.aload_n 0, 1) := by decide +kernel
theorem d_Ja_fill_11 : decode prog_11_method_103_code 11 = .ok (.iload_n 2, 1) := by decide +kernel
theorem d_Ja_fill_12 : decode prog_11_method_103_code 12 = .ok (.iload_n 1, 1) := by decide +kernel
theorem d_Ja_fill_13 : decode prog_11_method_103_code 13 = .ok (.iastore, 1) := by decide +kernel
theorem d_Ja_fill_14 : decode prog_11_method_103_code 14 = .ok (.iinc 2 1, 3) := by decide +kernel
theorem d_Ja_fill_17 : decode prog_11_method_103_code 17 = .ok (.goto (-12), 3) := by decide +kernel
theorem d_Ja_fill_20 : decode prog_11_method_103_code 20 = .ok (.return_, 1) := by decide +kernel
-- java/util/Arrays.fill([II)V 
def ws_Ja_fill (G : gG) (a_a : Nat) (n : Nat) (x_a : Nat → Int32) : va_W := [(a_a, .inl (G.2 0, n, .inl x_a))]
def fb_Ja_fill_L5 (fu : Nat) (n : Nat)  (k5 : (Int32 → Int32 → Int32 → (Nat → Int32) → Option ((Nat → Int32)))) (l5_1 : Int32) (l5_2 : Int32) (l5_3 : Int32) (x_a_5 : Nat → Int32) : Option ((Nat → Int32)) :=
  (if l5_3 ≤ l5_2 then some x_a_5 else (if inB l5_2 n then (k5 l5_1 (l5_2 + (1 : Int32)) l5_3 (upd x_a_5 l5_2.toNatClampNeg l5_1)) else none))
def f_Ja_fill_L5 (fu : Nat) (n : Nat)  : Nat → Int32 → Int32 → Int32 → (Nat → Int32) → Option ((Nat → Int32))
  | 0 => fun _ _ _ _ => none
  | k9 + 1 => fb_Ja_fill_L5 fu n (f_Ja_fill_L5 fu n k9)
def f_Ja_fill (fu : Nat) (n : Nat) (p1 : Int32) (x_a : Nat → Int32) : Option ((Nat → Int32)) :=
  (f_Ja_fill_L5 fu n fu p1 (0 : Int32) (Int32.ofNat n) x_a)
set_option maxHeartbeats 4000000 in
set_option maxRecDepth 100000 in
theorem c_Ja_fill (l : Launch) (G : gG) (sz : Nat) (a_a : Nat) (fu : Nat) (n : Nat) (p1 : Int32) (x_a : Nat → Int32) (x_a' : Nat → Int32) (h : f_Ja_fill fu n p1 x_a = some x_a')  : cN l y_Ja_fill w_Ja_fill { frames := 0, cells := 0, slots := 0, locals := 0 } G sz [.ref a_a, .int p1] (ws_Ja_fill G a_a n x_a) none (wB G (ws_Ja_fill G a_a n x_a')) 0 0 := by
  refine cN_ofW (cc := prog_11_method_103_code) (maxL := 4) (ret := none) (by decide) rfl (Nat.le_of_ble_eq_true rfl) ?_
  intro p e s m args below meth c A H locs ls hx hb hr hts hown hlocks hin hml hK hN hP hD hA hS hl
  replace hl : lv_has ls 4 [(0, .ref a_a), (1, .int p1)] := hl
  replace hown : s.vm.findClass "java/util/Arrays" = some m.cls := hown
  unfold f_Ja_fill at h
  refine lv_iconst (v := (0 : Int32)) hx hb d_Ja_fill_0 (by decide) ?_
  refine lv_istore_n (lv' := [(2, .int (0 : Int32)), (0, .ref a_a), (1, .int p1)]) hx hb d_Ja_fill_1 rfl hl (by decide) rfl (fun ls hl => ?_)
  refine lv_aload_n hx hb d_Ja_fill_2 rfl (lv_at hl 1 rfl) ?_
  refine va_alen (v := Int32.ofNat n) hx hb hK hP 0 0 rfl rfl rfl d_Ja_fill_3 ?_
  refine lv_istore_n (lv' := [(3, .int (Int32.ofNat n)), (2, .int (0 : Int32)), (0, .ref a_a), (1, .int p1)]) hx hb d_Ja_fill_4 rfl hl (by decide) rfl (fun ls hl => ?_)
  have L5 : ∀ (nf : Nat) (l5_1 : Int32) (l5_2 : Int32) (l5_3 : Int32) (x_a_5 : Nat → Int32) (H : Heap) (locs : List Loc) (ls : Array Slot), f_Ja_fill_L5 fu n nf l5_1 l5_2 l5_3 x_a_5 = some x_a' → va_P G.1 vwCl (ws_Ja_fill G a_a n x_a_5) H → va_D A (ws_Ja_fill G a_a n x_a_5) → va_S A s.heap H locs → lv_has ls 4 [(0, .ref a_a), (1, .int l5_1), (2, .int l5_2), (3, .int l5_3)] → W p l e { frames := 0, cells := 0, slots := 0, locals := 0 } s m args below meth c H locs 0 0 (MQ below (qQ none (wB G (ws_Ja_fill G a_a n x_a') A) A) args s 0 0 A) (F0 m 5 ls []) := by
    clear h hP hD hS hl
    intro n5
    induction n5 with
    | zero => intro _ _ _ _ H locs ls h; exact nomatch (show none = some _ from h)
    | succ n5 ih5 =>
      intro l5_1 l5_2 l5_3 x_a_5 H locs ls h hP hD hS hl
      replace h : fb_Ja_fill_L5 fu n (f_Ja_fill_L5 fu n n5) l5_1 l5_2 l5_3 x_a_5 = some x_a' := h
      unfold fb_Ja_fill_L5 at h
      refine lv_iload_n hx hb d_Ja_fill_5 rfl (lv_at hl 2 rfl) ?_
      refine lv_iload_n hx hb d_Ja_fill_6 rfl (lv_at hl 3 rfl) ?_
      refine lv_icmp_ge (tgt := 20) hx hb d_Ja_fill_7 (by decide) (fun c1 => ?_) (fun c1 => ?_)
      · replace h := (if_pos c1).symm.trans h
        cases h
        exact q_vretW hx hb hr hlocks hP hD hS d_Ja_fill_20
      · replace h := (if_neg c1).symm.trans h
        refine lv_aload_n hx hb d_Ja_fill_10 rfl (lv_at hl 0 rfl) ?_
        refine lv_iload_n hx hb d_Ja_fill_11 rfl (lv_at hl 2 rfl) ?_
        refine lv_iload_n hx hb d_Ja_fill_12 rfl (lv_at hl 1 rfl) ?_
        obtain ⟨i2, h⟩ := o_if h
        refine va_iast (n := n) (f := x_a_5) hx hb hK hP hD hS 0 0 rfl rfl i2 d_Ja_fill_13 (fun H locs hP hD hS => ?_)
        replace hP : va_P G.1 vwCl (ws_Ja_fill G a_a n (upd x_a_5 l5_2.toNatClampNeg l5_1)) H := hP
        replace hD : va_D A (ws_Ja_fill G a_a n (upd x_a_5 l5_2.toNatClampNeg l5_1)) := hD
        refine lv_iinc (v := (l5_2 + (1 : Int32))) (lv' := [(2, .int (l5_2 + (1 : Int32))), (0, .ref a_a), (1, .int l5_1), (3, .int l5_3)]) hx hb d_Ja_fill_14 hl (k := 2) rfl rfl (by decide) rfl (fun ls hl => ?_)
        refine lv_goto (tgt := 5) hx hb d_Ja_fill_17 (by decide) ?_
        exact ih5 l5_1 (l5_2 + (1 : Int32)) l5_3 (upd x_a_5 l5_2.toNatClampNeg l5_1) _ _ _ h hP hD hS (lv_sub hl [1, 2, 0, 3] rfl)
  exact L5 fu p1 (0 : Int32) (Int32.ofNat n) x_a _ _ _ h hP hD hS (lv_sub hl [2, 3, 1, 0] rfl)

theorem gw_294 : (.code ⟨"java/util/Arrays", "fill", "([II)V"⟩ prog_11_method_103_code 4 none : Cond) ∈ GW := gT 323 (by decide +kernel) (by decide +kernel)
theorem gw_39 : (.initialized "java/util/Arrays" : Cond) ∈ GW := gT 9 (by decide +kernel) (by decide +kernel)
theorem gw_292 : (.methodLink "PlayStates$Board" 18 ⟨"java/util/Arrays", "fill", "([II)V"⟩ : Cond) ∈ GW := gT 321 (by decide +kernel) (by decide +kernel)
theorem gw_293 : (.static ⟨"java/util/Arrays", "fill", "([II)V"⟩ : Cond) ∈ GW := gT 322 (by decide +kernel) (by decide +kernel)
theorem d_Bd_clear_0 : decode prog_2_method_2_code 0 = .ok (.aload_n 0, 1) := by decide +kernel
theorem d_Bd_clear_1 : decode prog_2_method_2_code 1 = .ok (.getfield 9, 3) := by decide +kernel
theorem d_Bd_clear_4 : decode prog_2_method_2_code 4 = .ok (.iconst 0, 1) := by decide +kernel
theorem d_Bd_clear_5 : decode prog_2_method_2_code 5 = .ok (.invokestatic 18, 3) := by decide +kernel
theorem d_Bd_clear_8 : decode prog_2_method_2_code 8 = .ok (.aload_n 0, 1) := by decide +kernel
theorem d_Bd_clear_9 : decode prog_2_method_2_code 9 = .ok (.getfield 15, 3) := by decide +kernel
theorem d_Bd_clear_12 : decode prog_2_method_2_code 12 = .ok (.iconst 0, 1) := by decide +kernel
theorem d_Bd_clear_13 : decode prog_2_method_2_code 13 = .ok (.invokestatic 18, 3) := by decide +kernel
theorem d_Bd_clear_16 : decode prog_2_method_2_code 16 = .ok (.return_, 1) := by decide +kernel
-- PlayStates$Board.clear()V 
def ws_Bd_clear (G : gG) (a_t a_t_entries a_t_markBits : Nat) (n : Nat) (x_t_entries : Nat → Int32) (x_t_markBits : Nat → Int32) : va_W := [(a_t, .inr (0, [.ref a_t_entries, .ref a_t_markBits])), (a_t_entries, .inl (G.2 0, n, .inl x_t_entries)), (a_t_markBits, .inl (G.2 0, n, .inl x_t_markBits))]
def f_Bd_clear (fu : Nat) (n : Nat)  (x_t_entries : Nat → Int32) (x_t_markBits : Nat → Int32) : Option ((Nat → Int32) × (Nat → Int32)) :=
  ((f_Ja_fill fu n (0 : Int32) x_t_entries).bind fun y1 => ((f_Ja_fill fu n (0 : Int32) x_t_markBits).bind fun y2 => some (y1, y2)))
set_option maxHeartbeats 4000000 in
set_option maxRecDepth 100000 in
theorem c_Bd_clear (l : Launch) (G : gG) (sz : Nat) (a_t a_t_entries a_t_markBits : Nat) (fu : Nat) (n : Nat)  (x_t_entries : Nat → Int32) (x_t_markBits : Nat → Int32) (x_t_entries' : Nat → Int32) (x_t_markBits' : Nat → Int32) (h : f_Bd_clear fu n x_t_entries x_t_markBits = some (x_t_entries', x_t_markBits'))  : cN l y_Bd_clear w_Bd_clear { frames := 1, cells := 0, slots := 0, locals := 23 } G sz [.ref a_t] (ws_Bd_clear G a_t a_t_entries a_t_markBits n x_t_entries x_t_markBits) none (wB G (ws_Bd_clear G a_t a_t_entries a_t_markBits n x_t_entries' x_t_markBits')) 0 0 := by
  refine cN_ofW (cc := prog_2_method_2_code) (maxL := 1) (ret := none) (by decide) rfl (Nat.le_of_ble_eq_true rfl) ?_
  intro p e s m args below meth c A H locs ls hx hb hr hts hown hlocks hin hml hK hN hP hD hA hS hl
  replace hl : lv_has ls 1 [(0, .ref a_t)] := hl
  replace hown : s.vm.findClass "PlayStates$Board" = some m.cls := hown
  unfold f_Bd_clear at h
  refine lv_aload_n hx hb d_Bd_clear_0 rfl (lv_at hl 0 rfl) ?_
  refine va_get (D := G.1) (ci := 0) (v := .ref a_t_entries) (C := "PlayStates$Board") (T := TBd) (N := 2) hx hb hts iw_0 hown hK hP 0 rfl rfl 0 (by decide) (hts _ gw_79) (fun _ h9 => h9) rfl d_Bd_clear_1 ?_
  refine lv_iconst (v := (0 : Int32)) hx hb d_Bd_clear_4 (by decide) ?_
  obtain ⟨y1, hy1, h⟩ := o_bind h
  have hPc := hP.sub (ws' := (ws_Ja_fill G a_t_entries n x_t_entries)) [1] rfl
  have hDc := hD.sub (ws' := (ws_Ja_fill G a_t_entries n x_t_entries)) [1] (by decide) rfl
  have hFc := va_free (wc := (ws_Ja_fill G a_t_entries n x_t_entries)) hD hS hA [1] rfl
  refine q_call0 (va_runS (As := [.ref a_t_entries, .int (0 : Int32)]) (rest := []) ⟨hx, hb, hml, hown, hts⟩ (c_Ja_fill l G H.size a_t_entries fu n (0 : Int32) x_t_entries _ hy1) ⟨callB_of 2 hts (gC gw_294) rfl rfl rfl (hts _ gw_39) (hts _ gw_292) (by decide +kernel) ⟨Nat.le_of_ble_eq_true rfl, Nat.le_of_ble_eq_true rfl⟩, hts _ gw_293⟩ (pS hK hN hPc hDc) rfl rfl hl.1 rfl (lv_room (Nat.le_of_ble_eq_true rfl)) d_Bd_clear_5 ⟨Nat.le_of_ble_eq_true rfl, Nat.le_of_ble_eq_true rfl⟩) hS (fun q _ h => hFc q h) hFc (fun H1 locs hB hz hk hS => ?_)
  obtain ⟨hP, hD⟩ := q_join (wr := [(a_t, .inr (0, [.ref a_t_entries, .ref a_t_markBits])), (a_t_markBits, .inl (G.2 0, n, .inl x_t_markBits))]) (wn := (ws_Bd_clear G a_t a_t_entries a_t_markBits n y1 x_t_markBits)) hP hD [1] [0, 2] [0, 2, 1] rfl rfl (by decide) (by decide) rfl (by decide) hk hFc hB.1 hB.2
  generalize H1 = H at hP hS ⊢
  replace hP : va_P G.1 vwCl (ws_Bd_clear G a_t a_t_entries a_t_markBits n y1 x_t_markBits) H := hP
  replace hD : va_D A (ws_Bd_clear G a_t a_t_entries a_t_markBits n y1 x_t_markBits) := hD
  refine lv_aload_n hx hb d_Bd_clear_8 rfl (lv_at hl 0 rfl) ?_
  refine va_get (D := G.1) (ci := 0) (v := .ref a_t_markBits) (C := "PlayStates$Board") (T := TBd) (N := 2) hx hb hts iw_0 hown hK hP 0 rfl rfl 1 (by decide) (hts _ gw_80) (fun _ h9 => h9) rfl d_Bd_clear_9 ?_
  refine lv_iconst (v := (0 : Int32)) hx hb d_Bd_clear_12 (by decide) ?_
  obtain ⟨y2, hy2, h⟩ := o_bind h
  have hPc := hP.sub (ws' := (ws_Ja_fill G a_t_markBits n x_t_markBits)) [2] rfl
  have hDc := hD.sub (ws' := (ws_Ja_fill G a_t_markBits n x_t_markBits)) [2] (by decide) rfl
  have hFc := va_free (wc := (ws_Ja_fill G a_t_markBits n x_t_markBits)) hD hS hA [2] rfl
  refine q_call0 (va_runS (As := [.ref a_t_markBits, .int (0 : Int32)]) (rest := []) ⟨hx, hb, hml, hown, hts⟩ (c_Ja_fill l G H.size a_t_markBits fu n (0 : Int32) x_t_markBits _ hy2) ⟨callB_of 2 hts (gC gw_294) rfl rfl rfl (hts _ gw_39) (hts _ gw_292) (by decide +kernel) ⟨Nat.le_of_ble_eq_true rfl, Nat.le_of_ble_eq_true rfl⟩, hts _ gw_293⟩ (pS hK hN hPc hDc) rfl rfl hl.1 rfl (lv_room (Nat.le_of_ble_eq_true rfl)) d_Bd_clear_13 ⟨Nat.le_of_ble_eq_true rfl, Nat.le_of_ble_eq_true rfl⟩) hS (fun q _ h => hFc q h) hFc (fun H1 locs hB hz hk hS => ?_)
  obtain ⟨hP, hD⟩ := q_join (wr := [(a_t, .inr (0, [.ref a_t_entries, .ref a_t_markBits])), (a_t_entries, .inl (G.2 0, n, .inl y1))]) (wn := (ws_Bd_clear G a_t a_t_entries a_t_markBits n y1 y2)) hP hD [2] [0, 1] [0, 1, 2] rfl rfl (by decide) (by decide) rfl (by decide) hk hFc hB.1 hB.2
  generalize H1 = H at hP hS ⊢
  replace hP : va_P G.1 vwCl (ws_Bd_clear G a_t a_t_entries a_t_markBits n y1 y2) H := hP
  replace hD : va_D A (ws_Bd_clear G a_t a_t_entries a_t_markBits n y1 y2) := hD
  cases h
  exact q_vretW hx hb hr hlocks hP hD hS d_Bd_clear_16

theorem gw_308 : (.code ⟨"java/lang/Integer", "bitCount", "(I)I"⟩ prog_9_method_49_code 1 (some .int) : Cond) ∈ GW := gT 338 (by decide +kernel) (by decide +kernel)
theorem gw_40 : (.initialized "java/lang/Integer" : Cond) ∈ GW := gT 10 (by decide +kernel) (by decide +kernel)
theorem gw_306 : (.methodLink "PlayStates$Board" 28 ⟨"java/lang/Integer", "bitCount", "(I)I"⟩ : Cond) ∈ GW := gT 336 (by decide +kernel) (by decide +kernel)
theorem gw_307 : (.static ⟨"java/lang/Integer", "bitCount", "(I)I"⟩ : Cond) ∈ GW := gT 337 (by decide +kernel) (by decide +kernel)
theorem d_Bd_countRowsNeeded_0 : decode prog_2_method_6_code 0 = .ok (.iconst 0, 1) := by decide +kernel
theorem d_Bd_countRowsNeeded_1 : decode prog_2_method_6_code 1 = .ok (.istore_n 1, 1) := by decide +kernel
theorem d_Bd_countRowsNeeded_2 : decode prog_2_method_6_code 2 = .ok (.iconst 0, 1) := by decide +kernel
theorem d_Bd_countRowsNeeded_3 : decode prog_2_method_6_code 3 = .ok (.istore_n 2, 1) := by decide +kernel
theorem d_Bd_countRowsNeeded_4 : decode prog_2_method_6_code 4 = .ok (.iload_n 2, 1) := by decide +kernel
theorem d_Bd_countRowsNeeded_5 : decode prog_2_method_6_code 5 = .ok (.aload_n 0, 1) := by decide +kernel
theorem d_Bd_countRowsNeeded_6 : decode prog_2_method_6_code 6 = .ok (.getfield 9, 3) := by decide +kernel
theorem d_Bd_countRowsNeeded_9 : decode prog_2_method_6_code 9 = .ok (.arraylength, 1) := by decide +kernel
theorem d_Bd_countRowsNeeded_10 : decode prog_2_method_6_code 10 = .ok (.if_icmp .ge 36, 3) := by decide +kernel
theorem d_Bd_countRowsNeeded_13 : decode prog_2_method_6_code 13 = .ok (.iload_n 1, 1) := by decide +kernel
theorem d_Bd_countRowsNeeded_14 : decode prog_2_method_6_code 14 = .ok (.aload_n 0, 1) := by decide +kernel
theorem d_Bd_countRowsNeeded_15 : decode prog_2_method_6_code 15 = .ok (.getfield 9, 3) := by decide +kernel
theorem d_Bd_countRowsNeeded_18 : decode prog_2_method_6_code 18 = .ok (.iload_n 2, 1) := by decide +kernel
theorem d_Bd_countRowsNeeded_19 : decode prog_2_method_6_code 19 = .ok (.iaload, 1) := by decide +kernel
theorem d_Bd_countRowsNeeded_20 : decode prog_2_method_6_code 20 = .ok (.ifCond .ne 7, 3) := by decide +kernel
theorem d_Bd_countRowsNeeded_23 : decode prog_2_method_6_code 23 = .ok (.iconst 0, 1) := by decide +kernel
theorem d_Bd_countRowsNeeded_24 : decode prog_2_method_6_code 24 = .ok (.goto 4, 3) := by decide +kernel
theorem d_Bd_countRowsNeeded_27 : decode prog_2_method_6_code 27 = .ok (.iconst 1, 1) := by decide +kernel
theorem d_Bd_countRowsNeeded_28 : decode prog_2_method_6_code 28 = .ok (.aload_n 0, 1) := by decide +kernel
theorem d_Bd_countRowsNeeded_29 : decode prog_2_method_6_code 29 = .ok (.getfield 15, 3) := by decide +kernel
theorem d_Bd_countRowsNeeded_32 : decode prog_2_method_6_code 32 = .ok (.iload_n 2, 1) := by decide +kernel
theorem d_Bd_countRowsNeeded_33 : decode prog_2_method_6_code 33 = .ok (.iaload, 1) := by decide +kernel
theorem d_Bd_countRowsNeeded_34 : decode prog_2_method_6_code 34 = .ok (.invokestatic 28, 3) := by decide +kernel
theorem d_Bd_countRowsNeeded_37 : decode prog_2_method_6_code 37 = .ok (.iadd, 1) := by decide +kernel
theorem d_Bd_countRowsNeeded_38 : decode prog_2_method_6_code 38 = .ok (.iadd, 1) := by decide +kernel
theorem d_Bd_countRowsNeeded_39 : decode prog_2_method_6_code 39 = .ok (.istore_n 1, 1) := by decide +kernel
theorem d_Bd_countRowsNeeded_40 : decode prog_2_method_6_code 40 = .ok (.iinc 2 1, 3) := by decide +kernel
theorem d_Bd_countRowsNeeded_43 : decode prog_2_method_6_code 43 = .ok (.goto (-39), 3) := by decide +kernel
theorem d_Bd_countRowsNeeded_46 : decode prog_2_method_6_code 46 = .ok (.iload_n 1, 1) := by decide +kernel
theorem d_Bd_countRowsNeeded_47 : decode prog_2_method_6_code 47 = .ok (.ireturn, 1) := by decide +kernel
-- PlayStates$Board.countRowsNeeded()I 
def ws_Bd_countRowsNeeded (G : gG) (a_t a_t_entries a_t_markBits : Nat) (n : Nat) (x_t_entries : Nat → Int32) (x_t_markBits : Nat → Int32) : va_W := [(a_t, .inr (0, [.ref a_t_entries, .ref a_t_markBits])), (a_t_entries, .inl (G.2 0, n, .inl x_t_entries)), (a_t_markBits, .inl (G.2 0, n, .inl x_t_markBits))]
def fb_Bd_countRowsNeeded_L4 (fu : Nat) (n : Nat) (x_t_entries : Nat → Int32) (x_t_markBits : Nat → Int32)  (k4 : (Int32 → Int32 → Option (Int32))) (l4_1 : Int32) (l4_2 : Int32) : Option (Int32) :=
  (if (Int32.ofNat n) ≤ l4_2 then some l4_1 else (if inB l4_2 n then (if (x_t_entries l4_2.toNatClampNeg) = 0 then (if inB l4_2 n then ((f_Jn_bitCount (x_t_markBits l4_2.toNatClampNeg)).bind fun y7 => (k4 (l4_1 + ((0 : Int32) + y7)) (l4_2 + (1 : Int32)))) else none) else (if inB l4_2 n then ((f_Jn_bitCount (x_t_markBits l4_2.toNatClampNeg)).bind fun y5 => (k4 (l4_1 + ((1 : Int32) + y5)) (l4_2 + (1 : Int32)))) else none)) else none))
def f_Bd_countRowsNeeded_L4 (fu : Nat) (n : Nat) (x_t_entries : Nat → Int32) (x_t_markBits : Nat → Int32)  : Nat → Int32 → Int32 → Option (Int32)
  | 0 => fun _ _ => none
  | k9 + 1 => fb_Bd_countRowsNeeded_L4 fu n x_t_entries x_t_markBits (f_Bd_countRowsNeeded_L4 fu n x_t_entries x_t_markBits k9)
def f_Bd_countRowsNeeded (fu : Nat) (n : Nat)  (x_t_entries : Nat → Int32) (x_t_markBits : Nat → Int32) : Option (Int32) :=
  (f_Bd_countRowsNeeded_L4 fu n x_t_entries x_t_markBits fu (0 : Int32) (0 : Int32))
set_option maxHeartbeats 4000000 in
set_option maxRecDepth 100000 in
theorem c_Bd_countRowsNeeded (l : Launch) (G : gG) (sz : Nat) (a_t a_t_entries a_t_markBits : Nat) (fu : Nat) (n : Nat)  (x_t_entries : Nat → Int32) (x_t_markBits : Nat → Int32) (r : Int32) (h : f_Bd_countRowsNeeded fu n x_t_entries x_t_markBits = some r)  : cN l y_Bd_countRowsNeeded w_Bd_countRowsNeeded { frames := 1, cells := 0, slots := 0, locals := 20 } G sz [.ref a_t] (ws_Bd_countRowsNeeded G a_t a_t_entries a_t_markBits n x_t_entries x_t_markBits) (some (.int r)) (wB G (ws_Bd_countRowsNeeded G a_t a_t_entries a_t_markBits n x_t_entries x_t_markBits)) 0 0 := by
  refine cN_ofW (cc := prog_2_method_6_code) (maxL := 3) (ret := (some .int)) (by decide) rfl (Nat.le_of_ble_eq_true rfl) ?_
  intro p e s m args below meth c A H locs ls hx hb hr hts hown hlocks hin hml hK hN hP hD hA hS hl
  replace hl : lv_has ls 3 [(0, .ref a_t)] := hl
  replace hown : s.vm.findClass "PlayStates$Board" = some m.cls := hown
  unfold f_Bd_countRowsNeeded at h
  refine lv_iconst (v := (0 : Int32)) hx hb d_Bd_countRowsNeeded_0 (by decide) ?_
  refine lv_istore_n (lv' := [(1, .int (0 : Int32)), (0, .ref a_t)]) hx hb d_Bd_countRowsNeeded_1 rfl hl (by decide) rfl (fun ls hl => ?_)
  refine lv_iconst (v := (0 : Int32)) hx hb d_Bd_countRowsNeeded_2 (by decide) ?_
  refine lv_istore_n (lv' := [(2, .int (0 : Int32)), (1, .int (0 : Int32)), (0, .ref a_t)]) hx hb d_Bd_countRowsNeeded_3 rfl hl (by decide) rfl (fun ls hl => ?_)
  have L4 : ∀ (nf : Nat) (l4_1 : Int32) (l4_2 : Int32) (H : Heap) (locs : List Loc) (ls : Array Slot), f_Bd_countRowsNeeded_L4 fu n x_t_entries x_t_markBits nf l4_1 l4_2 = some r → va_P G.1 vwCl (ws_Bd_countRowsNeeded G a_t a_t_entries a_t_markBits n x_t_entries x_t_markBits) H → va_D A (ws_Bd_countRowsNeeded G a_t a_t_entries a_t_markBits n x_t_entries x_t_markBits) → va_S A s.heap H locs → lv_has ls 3 [(0, .ref a_t), (1, .int l4_1), (2, .int l4_2)] → W p l e { frames := 1, cells := 0, slots := 0, locals := 20 } s m args below meth c H locs 0 0 (MQ below (qQ (some (.int r)) (wB G (ws_Bd_countRowsNeeded G a_t a_t_entries a_t_markBits n x_t_entries x_t_markBits) A) A) args s 0 0 A) (F0 m 4 ls []) := by
    clear h hP hD hS hl
    intro n4
    induction n4 with
    | zero => intro _ _ H locs ls h; exact nomatch (show none = some _ from h)
    | succ n4 ih4 =>
      intro l4_1 l4_2 H locs ls h hP hD hS hl
      replace h : fb_Bd_countRowsNeeded_L4 fu n x_t_entries x_t_markBits (f_Bd_countRowsNeeded_L4 fu n x_t_entries x_t_markBits n4) l4_1 l4_2 = some r := h
      unfold fb_Bd_countRowsNeeded_L4 at h
      refine lv_iload_n hx hb d_Bd_countRowsNeeded_4 rfl (lv_at hl 2 rfl) ?_
      refine lv_aload_n hx hb d_Bd_countRowsNeeded_5 rfl (lv_at hl 0 rfl) ?_
      refine va_get (D := G.1) (ci := 0) (v := .ref a_t_entries) (C := "PlayStates$Board") (T := TBd) (N := 2) hx hb hts iw_0 hown hK hP 0 rfl rfl 0 (by decide) (hts _ gw_79) (fun _ h9 => h9) rfl d_Bd_countRowsNeeded_6 ?_
      refine va_alen (v := Int32.ofNat n) hx hb hK hP 1 0 rfl rfl rfl d_Bd_countRowsNeeded_9 ?_
      refine lv_icmp_ge (tgt := 46) hx hb d_Bd_countRowsNeeded_10 (by decide) (fun c1 => ?_) (fun c1 => ?_)
      · replace h := (if_pos c1).symm.trans h
        refine lv_iload_n hx hb d_Bd_countRowsNeeded_46 rfl (lv_at hl 1 rfl) ?_
        cases h
        exact q_iretW hx hb hr hlocks hP hD hS d_Bd_countRowsNeeded_47
      · replace h := (if_neg c1).symm.trans h
        refine lv_iload_n hx hb d_Bd_countRowsNeeded_13 rfl (lv_at hl 1 rfl) ?_
        refine lv_aload_n hx hb d_Bd_countRowsNeeded_14 rfl (lv_at hl 0 rfl) ?_
        refine va_get (D := G.1) (ci := 0) (v := .ref a_t_entries) (C := "PlayStates$Board") (T := TBd) (N := 2) hx hb hts iw_0 hown hK hP 0 rfl rfl 0 (by decide) (hts _ gw_79) (fun _ h9 => h9) rfl d_Bd_countRowsNeeded_15 ?_
        refine lv_iload_n hx hb d_Bd_countRowsNeeded_18 rfl (lv_at hl 2 rfl) ?_
        obtain ⟨i2, h⟩ := o_if h
        refine va_iald (n := n) (f := x_t_entries) hx hb hK hP 1 0 rfl rfl i2 d_Bd_countRowsNeeded_19 ?_
        refine lv_if_ne (tgt := 27) hx hb d_Bd_countRowsNeeded_20 (by decide) (fun c3 => ?_) (fun c3 => ?_)
        · replace h := (if_neg c3).symm.trans h
          refine lv_iconst (v := (1 : Int32)) hx hb d_Bd_countRowsNeeded_27 (by decide) ?_
          refine lv_aload_n hx hb d_Bd_countRowsNeeded_28 rfl (lv_at hl 0 rfl) ?_
          refine va_get (D := G.1) (ci := 0) (v := .ref a_t_markBits) (C := "PlayStates$Board") (T := TBd) (N := 2) hx hb hts iw_0 hown hK hP 0 rfl rfl 1 (by decide) (hts _ gw_80) (fun _ h9 => h9) rfl d_Bd_countRowsNeeded_29 ?_
          refine lv_iload_n hx hb d_Bd_countRowsNeeded_32 rfl (lv_at hl 2 rfl) ?_
          obtain ⟨i4, h⟩ := o_if h
          refine va_iald (n := n) (f := x_t_markBits) hx hb hK hP 2 0 rfl rfl i4 d_Bd_countRowsNeeded_33 ?_
          obtain ⟨y5, hy5, h⟩ := o_bind h
          have hPc := hP.sub (ws' := (ws_Jn_bitCount G)) [] rfl
          have hDc := hD.sub (ws' := (ws_Jn_bitCount G)) [] (by decide) rfl
          have hFc := va_free (wc := (ws_Jn_bitCount G)) hD hS hA [] rfl
          refine q_call1 (va_runS (As := [.int (x_t_markBits l4_2.toNatClampNeg)]) (rest := [.int (1 : Int32), .int l4_1]) ⟨hx, hb, hml, hown, hts⟩ (c_Jn_bitCount l G H.size (x_t_markBits l4_2.toNatClampNeg) _ hy5) ⟨callB_of 1 hts (gC gw_308) rfl rfl rfl (hts _ gw_40) (hts _ gw_306) (by decide +kernel) ⟨Nat.le_of_ble_eq_true rfl, Nat.le_of_ble_eq_true rfl⟩, hts _ gw_307⟩ (pS hK hN hPc hDc) rfl rfl hl.1 rfl (lv_room (Nat.le_of_ble_eq_true rfl)) d_Bd_countRowsNeeded_34 ⟨Nat.le_of_ble_eq_true rfl, Nat.le_of_ble_eq_true rfl⟩) hS (fun q _ h => hFc q h) hFc (fun H1 locs hB hz hk hS => ?_)
          obtain ⟨hP, hD⟩ := q_join (wr := [(a_t, .inr (0, [.ref a_t_entries, .ref a_t_markBits])), (a_t_entries, .inl (G.2 0, n, .inl x_t_entries)), (a_t_markBits, .inl (G.2 0, n, .inl x_t_markBits))]) (wn := (ws_Bd_countRowsNeeded G a_t a_t_entries a_t_markBits n x_t_entries x_t_markBits)) hP hD [] [0, 1, 2] [0, 1, 2] rfl rfl (by decide) (by decide) rfl (by decide) hk hFc hB.1 hB.2
          generalize H1 = H at hP hS ⊢
          replace hP : va_P G.1 vwCl (ws_Bd_countRowsNeeded G a_t a_t_entries a_t_markBits n x_t_entries x_t_markBits) H := hP
          replace hD : va_D A (ws_Bd_countRowsNeeded G a_t a_t_entries a_t_markBits n x_t_entries x_t_markBits) := hD
          refine lv_iadd hx hb d_Bd_countRowsNeeded_37 ?_
          refine lv_iadd hx hb d_Bd_countRowsNeeded_38 ?_
          refine lv_istore_n (lv' := [(1, .int (l4_1 + ((1 : Int32) + y5))), (0, .ref a_t), (2, .int l4_2)]) hx hb d_Bd_countRowsNeeded_39 rfl hl (by decide) rfl (fun ls hl => ?_)
          refine lv_iinc (v := (l4_2 + (1 : Int32))) (lv' := [(2, .int (l4_2 + (1 : Int32))), (1, .int (l4_1 + ((1 : Int32) + y5))), (0, .ref a_t)]) hx hb d_Bd_countRowsNeeded_40 hl (k := 2) rfl rfl (by decide) rfl (fun ls hl => ?_)
          refine lv_goto (tgt := 4) hx hb d_Bd_countRowsNeeded_43 (by decide) ?_
          exact ih4 (l4_1 + ((1 : Int32) + y5)) (l4_2 + (1 : Int32)) _ _ _ h hP hD hS (lv_sub hl [2, 1, 0] rfl)
        · replace h := (if_pos c3).symm.trans h
          refine lv_iconst (v := (0 : Int32)) hx hb d_Bd_countRowsNeeded_23 (by decide) ?_
          refine lv_goto (tgt := 28) hx hb d_Bd_countRowsNeeded_24 (by decide) ?_
          refine lv_aload_n hx hb d_Bd_countRowsNeeded_28 rfl (lv_at hl 0 rfl) ?_
          refine va_get (D := G.1) (ci := 0) (v := .ref a_t_markBits) (C := "PlayStates$Board") (T := TBd) (N := 2) hx hb hts iw_0 hown hK hP 0 rfl rfl 1 (by decide) (hts _ gw_80) (fun _ h9 => h9) rfl d_Bd_countRowsNeeded_29 ?_
          refine lv_iload_n hx hb d_Bd_countRowsNeeded_32 rfl (lv_at hl 2 rfl) ?_
          obtain ⟨i6, h⟩ := o_if h
          refine va_iald (n := n) (f := x_t_markBits) hx hb hK hP 2 0 rfl rfl i6 d_Bd_countRowsNeeded_33 ?_
          obtain ⟨y7, hy7, h⟩ := o_bind h
          have hPc := hP.sub (ws' := (ws_Jn_bitCount G)) [] rfl
          have hDc := hD.sub (ws' := (ws_Jn_bitCount G)) [] (by decide) rfl
          have hFc := va_free (wc := (ws_Jn_bitCount G)) hD hS hA [] rfl
          refine q_call1 (va_runS (As := [.int (x_t_markBits l4_2.toNatClampNeg)]) (rest := [.int (0 : Int32), .int l4_1]) ⟨hx, hb, hml, hown, hts⟩ (c_Jn_bitCount l G H.size (x_t_markBits l4_2.toNatClampNeg) _ hy7) ⟨callB_of 1 hts (gC gw_308) rfl rfl rfl (hts _ gw_40) (hts _ gw_306) (by decide +kernel) ⟨Nat.le_of_ble_eq_true rfl, Nat.le_of_ble_eq_true rfl⟩, hts _ gw_307⟩ (pS hK hN hPc hDc) rfl rfl hl.1 rfl (lv_room (Nat.le_of_ble_eq_true rfl)) d_Bd_countRowsNeeded_34 ⟨Nat.le_of_ble_eq_true rfl, Nat.le_of_ble_eq_true rfl⟩) hS (fun q _ h => hFc q h) hFc (fun H1 locs hB hz hk hS => ?_)
          obtain ⟨hP, hD⟩ := q_join (wr := [(a_t, .inr (0, [.ref a_t_entries, .ref a_t_markBits])), (a_t_entries, .inl (G.2 0, n, .inl x_t_entries)), (a_t_markBits, .inl (G.2 0, n, .inl x_t_markBits))]) (wn := (ws_Bd_countRowsNeeded G a_t a_t_entries a_t_markBits n x_t_entries x_t_markBits)) hP hD [] [0, 1, 2] [0, 1, 2] rfl rfl (by decide) (by decide) rfl (by decide) hk hFc hB.1 hB.2
          generalize H1 = H at hP hS ⊢
          replace hP : va_P G.1 vwCl (ws_Bd_countRowsNeeded G a_t a_t_entries a_t_markBits n x_t_entries x_t_markBits) H := hP
          replace hD : va_D A (ws_Bd_countRowsNeeded G a_t a_t_entries a_t_markBits n x_t_entries x_t_markBits) := hD
          refine lv_iadd hx hb d_Bd_countRowsNeeded_37 ?_
          refine lv_iadd hx hb d_Bd_countRowsNeeded_38 ?_
          refine lv_istore_n (lv' := [(1, .int (l4_1 + ((0 : Int32) + y7))), (0, .ref a_t), (2, .int l4_2)]) hx hb d_Bd_countRowsNeeded_39 rfl hl (by decide) rfl (fun ls hl => ?_)
          refine lv_iinc (v := (l4_2 + (1 : Int32))) (lv' := [(2, .int (l4_2 + (1 : Int32))), (1, .int (l4_1 + ((0 : Int32) + y7))), (0, .ref a_t)]) hx hb d_Bd_countRowsNeeded_40 hl (k := 2) rfl rfl (by decide) rfl (fun ls hl => ?_)
          refine lv_goto (tgt := 4) hx hb d_Bd_countRowsNeeded_43 (by decide) ?_
          exact ih4 (l4_1 + ((0 : Int32) + y7)) (l4_2 + (1 : Int32)) _ _ _ h hP hD hS (lv_sub hl [2, 1, 0] rfl)
  exact L4 fu (0 : Int32) (0 : Int32) _ _ _ h hP hD hS (lv_sub hl [2, 1, 0] rfl)

theorem d_Bd_textSize_0 : decode prog_2_method_7_code 0 = .ok (.aload_n 0, 1) := by decide +kernel
theorem d_Bd_textSize_1 : decode prog_2_method_7_code 1 = .ok (.getfield 15, 3) := by decide +kernel
theorem d_Bd_textSize_4 : decode prog_2_method_7_code 4 = .ok (.iload_n 1, 1) := by decide +kernel
theorem d_Bd_textSize_5 : decode prog_2_method_7_code 5 = .ok (.iaload, 1) := by decide +kernel
theorem d_Bd_textSize_6 : decode prog_2_method_7_code 6 = .ok (.invokestatic 28, 3) := by decide +kernel
theorem d_Bd_textSize_9 : decode prog_2_method_7_code 9 = .ok (.istore_n 2, 1) := by decide +kernel
theorem d_Bd_textSize_10 : decode prog_2_method_7_code 10 = .ok (.iload_n 2, 1) := by decide +kernel
theorem d_Bd_textSize_11 : decode prog_2_method_7_code 11 = .ok (.ifCond .ne 7, 3) := by decide +kernel
theorem d_Bd_textSize_14 : decode prog_2_method_7_code 14 = .ok (.iconst 1, 1) := by decide +kernel
theorem d_Bd_textSize_15 : decode prog_2_method_7_code 15 = .ok (.goto 6, 3) := by decide +kernel
theorem d_Bd_textSize_18 : decode prog_2_method_7_code 18 = .ok (.iload_n 2, 1) := by decide +kernel
theorem d_Bd_textSize_19 : decode prog_2_method_7_code 19 = .ok (.iconst 3, 1) := by decide +kernel
theorem d_Bd_textSize_20 : decode prog_2_method_7_code 20 = .ok (.iadd, 1) := by decide +kernel
theorem d_Bd_textSize_21 : decode prog_2_method_7_code 21 = .ok (.ireturn, 1) := by decide +kernel
-- PlayStates$Board.textSize(I)I 
def ws_Bd_textSize (G : gG) (a_t a_t_entries a_t_markBits : Nat) (n : Nat) (x_t_markBits : Nat → Int32) : va_W := [(a_t, .inr (0, [.ref a_t_entries, .ref a_t_markBits])), (a_t_markBits, .inl (G.2 0, n, .inl x_t_markBits))]
def f_Bd_textSize (n : Nat) (p0 : Int32) (x_t_markBits : Nat → Int32) : Option (Int32) :=
  (if inB p0 n then ((f_Jn_bitCount (x_t_markBits p0.toNatClampNeg)).bind fun y2 => (if y2 = 0 then some (1 : Int32) else some (y2 + (3 : Int32)))) else none)
set_option maxHeartbeats 4000000 in
set_option maxRecDepth 100000 in
theorem c_Bd_textSize (l : Launch) (G : gG) (sz : Nat) (a_t a_t_entries a_t_markBits : Nat) (n : Nat) (p0 : Int32) (x_t_markBits : Nat → Int32) (r : Int32) (h : f_Bd_textSize n p0 x_t_markBits = some r)  : cN l y_Bd_textSize w_Bd_textSize { frames := 1, cells := 0, slots := 0, locals := 20 } G sz [.ref a_t, .int p0] (ws_Bd_textSize G a_t a_t_entries a_t_markBits n x_t_markBits) (some (.int r)) (wB G (ws_Bd_textSize G a_t a_t_entries a_t_markBits n x_t_markBits)) 0 0 := by
  refine cN_ofW (cc := prog_2_method_7_code) (maxL := 3) (ret := (some .int)) (by decide) rfl (Nat.le_of_ble_eq_true rfl) ?_
  intro p e s m args below meth c A H locs ls hx hb hr hts hown hlocks hin hml hK hN hP hD hA hS hl
  replace hl : lv_has ls 3 [(0, .ref a_t), (1, .int p0)] := hl
  replace hown : s.vm.findClass "PlayStates$Board" = some m.cls := hown
  unfold f_Bd_textSize at h
  refine lv_aload_n hx hb d_Bd_textSize_0 rfl (lv_at hl 0 rfl) ?_
  refine va_get (D := G.1) (ci := 0) (v := .ref a_t_markBits) (C := "PlayStates$Board") (T := TBd) (N := 2) hx hb hts iw_0 hown hK hP 0 rfl rfl 1 (by decide) (hts _ gw_80) (fun _ h9 => h9) rfl d_Bd_textSize_1 ?_
  refine lv_iload_n hx hb d_Bd_textSize_4 rfl (lv_at hl 1 rfl) ?_
  obtain ⟨i1, h⟩ := o_if h
  refine va_iald (n := n) (f := x_t_markBits) hx hb hK hP 1 0 rfl rfl i1 d_Bd_textSize_5 ?_
  obtain ⟨y2, hy2, h⟩ := o_bind h
  have hPc := hP.sub (ws' := (ws_Jn_bitCount G)) [] rfl
  have hDc := hD.sub (ws' := (ws_Jn_bitCount G)) [] (by decide) rfl
  have hFc := va_free (wc := (ws_Jn_bitCount G)) hD hS hA [] rfl
  refine q_call1 (va_runS (As := [.int (x_t_markBits p0.toNatClampNeg)]) (rest := []) ⟨hx, hb, hml, hown, hts⟩ (c_Jn_bitCount l G H.size (x_t_markBits p0.toNatClampNeg) _ hy2) ⟨callB_of 1 hts (gC gw_308) rfl rfl rfl (hts _ gw_40) (hts _ gw_306) (by decide +kernel) ⟨Nat.le_of_ble_eq_true rfl, Nat.le_of_ble_eq_true rfl⟩, hts _ gw_307⟩ (pS hK hN hPc hDc) rfl rfl hl.1 rfl (lv_room (Nat.le_of_ble_eq_true rfl)) d_Bd_textSize_6 ⟨Nat.le_of_ble_eq_true rfl, Nat.le_of_ble_eq_true rfl⟩) hS (fun q _ h => hFc q h) hFc (fun H1 locs hB hz hk hS => ?_)
  obtain ⟨hP, hD⟩ := q_join (wr := [(a_t, .inr (0, [.ref a_t_entries, .ref a_t_markBits])), (a_t_markBits, .inl (G.2 0, n, .inl x_t_markBits))]) (wn := (ws_Bd_textSize G a_t a_t_entries a_t_markBits n x_t_markBits)) hP hD [] [0, 1] [0, 1] rfl rfl (by decide) (by decide) rfl (by decide) hk hFc hB.1 hB.2
  generalize H1 = H at hP hS ⊢
  replace hP : va_P G.1 vwCl (ws_Bd_textSize G a_t a_t_entries a_t_markBits n x_t_markBits) H := hP
  replace hD : va_D A (ws_Bd_textSize G a_t a_t_entries a_t_markBits n x_t_markBits) := hD
  refine lv_istore_n (lv' := [(2, .int y2), (0, .ref a_t), (1, .int p0)]) hx hb d_Bd_textSize_9 rfl hl (by decide) rfl (fun ls hl => ?_)
  refine lv_iload_n hx hb d_Bd_textSize_10 rfl (lv_at hl 0 rfl) ?_
  refine lv_if_ne (tgt := 18) hx hb d_Bd_textSize_11 (by decide) (fun c3 => ?_) (fun c3 => ?_)
  · replace h := (if_neg c3).symm.trans h
    refine lv_iload_n hx hb d_Bd_textSize_18 rfl (lv_at hl 0 rfl) ?_
    refine lv_iconst (v := (3 : Int32)) hx hb d_Bd_textSize_19 (by decide) ?_
    refine lv_iadd hx hb d_Bd_textSize_20 ?_
    cases h
    exact q_iretW hx hb hr hlocks hP hD hS d_Bd_textSize_21
  · replace h := (if_pos c3).symm.trans h
    refine lv_iconst (v := (1 : Int32)) hx hb d_Bd_textSize_14 (by decide) ?_
    refine lv_goto (tgt := 21) hx hb d_Bd_textSize_15 (by decide) ?_
    cases h
    exact q_iretW hx hb hr hlocks hP hD hS d_Bd_textSize_21

theorem d_Bd_findMark_0 : decode prog_2_method_9_code 0 = .ok (.iload_n 2, 1) := by decide +kernel
theorem d_Bd_findMark_1 : decode prog_2_method_9_code 1 = .ok (.istore_n 3, 1) := by decide +kernel
theorem d_Bd_findMark_2 : decode prog_2_method_9_code 2 = .ok (.iconst 1, 1) := by decide +kernel
theorem d_Bd_findMark_3 : decode prog_2_method_9_code 3 = .ok (.istore 4, 2) := by decide +kernel
theorem d_Bd_findMark_5 : decode prog_2_method_9_code 5 = .ok (.iload 4, 2) := by decide +kernel
theorem d_Bd_findMark_7 : decode prog_2_method_9_code 7 = .ok (.bipush 9, 2) := by decide +kernel
theorem d_Bd_findMark_9 : decode prog_2_method_9_code 9 = .ok (.if_icmp .gt 29, 3) := by decide +kernel
theorem d_Bd_findMark_12 : decode prog_2_method_9_code 12 = .ok (.aload_n 0, 1) := by decide +kernel
theorem d_Bd_findMark_13 : decode prog_2_method_9_code 13 = .ok (.iload_n 1, 1) := by decide +kernel
theorem d_Bd_findMark_14 : decode prog_2_method_9_code 14 = .ok (.iload 4, 2) := by decide +kernel
theorem d_Bd_findMark_16 : decode prog_2_method_9_code 16 = .ok (.invokevirtual 24, 3) := by decide +kernel
theorem d_Bd_findMark_19 : decode prog_2_method_9_code 19 = .ok (.ifCond .eq 13, 3) := by decide +kernel
theorem d_Bd_findMark_22 : decode prog_2_method_9_code 22 = .ok (.iload_n 3, 1) := by decide +kernel
theorem d_Bd_findMark_23 : decode prog_2_method_9_code 23 = .ok (.ifCond .ne 6, 3) := by decide +kernel
theorem d_Bd_findMark_26 : decode prog_2_method_9_code 26 = .ok (.iload 4, 2) := by decide +kernel
theorem d_Bd_findMark_28 : decode prog_2_method_9_code 28 = .ok (.ireturn, 1) := by decide +kernel
theorem d_Bd_findMark_29 : decode prog_2_method_9_code 29 = .ok (.iinc 3 (-1), 3) := by decide +kernel
theorem d_Bd_findMark_32 : decode prog_2_method_9_code 32 = .ok (.iinc 4 1, 3) := by decide +kernel
theorem d_Bd_findMark_35 : decode prog_2_method_9_code 35 = .ok (.goto (-30), 3) := by decide +kernel
theorem d_Bd_findMark_38 : decode prog_2_method_9_code 38 = .ok (.iconst 0, 1) := by decide +kernel
theorem d_Bd_findMark_39 : decode prog_2_method_9_code 39 = .ok (.ireturn, 1) := by decide +kernel
-- PlayStates$Board.findMark(II)I 
def ws_Bd_findMark (G : gG) (a_t a_t_entries a_t_markBits : Nat) (n : Nat) (x_t_markBits : Nat → Int32) : va_W := [(a_t, .inr (0, [.ref a_t_entries, .ref a_t_markBits])), (a_t_markBits, .inl (G.2 0, n, .inl x_t_markBits))]
def fb_Bd_findMark_L5 (fu : Nat) (n : Nat) (x_t_markBits : Nat → Int32)  (k5 : (Int32 → Int32 → Int32 → Int32 → Option (Int32))) (l5_1 : Int32) (l5_2 : Int32) (l5_3 : Int32) (l5_4 : Int32) : Option (Int32) :=
  (if (9 : Int32) < l5_4 then some (0 : Int32) else ((f_Bd_hasMark n l5_1 l5_4 x_t_markBits).bind fun y2 => (if y2 = 0 then (k5 l5_1 l5_2 l5_3 (l5_4 + (1 : Int32))) else (if l5_3 = 0 then some l5_4 else (k5 l5_1 l5_2 (l5_3 + (-1 : Int32)) (l5_4 + (1 : Int32)))))))
def f_Bd_findMark_L5 (fu : Nat) (n : Nat) (x_t_markBits : Nat → Int32)  : Nat → Int32 → Int32 → Int32 → Int32 → Option (Int32)
  | 0 => fun _ _ _ _ => none
  | k9 + 1 => fb_Bd_findMark_L5 fu n x_t_markBits (f_Bd_findMark_L5 fu n x_t_markBits k9)
def f_Bd_findMark (fu : Nat) (n : Nat) (p0 : Int32) (p1 : Int32) (x_t_markBits : Nat → Int32) : Option (Int32) :=
  (f_Bd_findMark_L5 fu n x_t_markBits fu p0 p1 p1 (1 : Int32))
set_option maxHeartbeats 4000000 in
set_option maxRecDepth 100000 in
theorem c_Bd_findMark (l : Launch) (G : gG) (sz : Nat) (a_t a_t_entries a_t_markBits : Nat) (fu : Nat) (n : Nat) (p0 : Int32) (p1 : Int32) (x_t_markBits : Nat → Int32) (r : Int32) (h : f_Bd_findMark fu n p0 p1 x_t_markBits = some r)  : cN l y_Bd_findMark w_Bd_findMark { frames := 1, cells := 0, slots := 0, locals := 22 } G sz [.ref a_t, .int p0, .int p1] (ws_Bd_findMark G a_t a_t_entries a_t_markBits n x_t_markBits) (some (.int r)) (wB G (ws_Bd_findMark G a_t a_t_entries a_t_markBits n x_t_markBits)) 0 0 := by
  refine cN_ofW (cc := prog_2_method_9_code) (maxL := 5) (ret := (some .int)) (by decide) rfl (Nat.le_of_ble_eq_true rfl) ?_
  intro p e s m args below meth c A H locs ls hx hb hr hts hown hlocks hin hml hK hN hP hD hA hS hl
  replace hl : lv_has ls 5 [(0, .ref a_t), (1, .int p0), (2, .int p1)] := hl
  replace hown : s.vm.findClass "PlayStates$Board" = some m.cls := hown
  unfold f_Bd_findMark at h
  refine lv_iload_n hx hb d_Bd_findMark_0 rfl (lv_at hl 2 rfl) ?_
  refine lv_istore_n (lv' := [(3, .int p1), (0, .ref a_t), (1, .int p0), (2, .int p1)]) hx hb d_Bd_findMark_1 rfl hl (by decide) rfl (fun ls hl => ?_)
  refine lv_iconst (v := (1 : Int32)) hx hb d_Bd_findMark_2 (by decide) ?_
  refine lv_istore (lv' := [(4, .int (1 : Int32)), (3, .int p1), (0, .ref a_t), (1, .int p0), (2, .int p1)]) hx hb d_Bd_findMark_3 hl (by decide) rfl (fun ls hl => ?_)
  have L5 : ∀ (nf : Nat) (l5_1 : Int32) (l5_2 : Int32) (l5_3 : Int32) (l5_4 : Int32) (H : Heap) (locs : List Loc) (ls : Array Slot), f_Bd_findMark_L5 fu n x_t_markBits nf l5_1 l5_2 l5_3 l5_4 = some r → va_P G.1 vwCl (ws_Bd_findMark G a_t a_t_entries a_t_markBits n x_t_markBits) H → va_D A (ws_Bd_findMark G a_t a_t_entries a_t_markBits n x_t_markBits) → va_S A s.heap H locs → lv_has ls 5 [(0, .ref a_t), (1, .int l5_1), (2, .int l5_2), (3, .int l5_3), (4, .int l5_4)] → W p l e { frames := 1, cells := 0, slots := 0, locals := 22 } s m args below meth c H locs 0 0 (MQ below (qQ (some (.int r)) (wB G (ws_Bd_findMark G a_t a_t_entries a_t_markBits n x_t_markBits) A) A) args s 0 0 A) (F0 m 5 ls []) := by
    clear h hP hD hS hl
    intro n5
    induction n5 with
    | zero => intro _ _ _ _ H locs ls h; exact nomatch (show none = some _ from h)
    | succ n5 ih5 =>
      intro l5_1 l5_2 l5_3 l5_4 H locs ls h hP hD hS hl
      replace h : fb_Bd_findMark_L5 fu n x_t_markBits (f_Bd_findMark_L5 fu n x_t_markBits n5) l5_1 l5_2 l5_3 l5_4 = some r := h
      unfold fb_Bd_findMark_L5 at h
      refine lv_iload hx hb d_Bd_findMark_5 (lv_at hl 4 rfl) ?_
      refine lv_bipush (v := (9 : Int32)) hx hb d_Bd_findMark_7 (by decide) ?_
      refine lv_icmp_gt (tgt := 38) hx hb d_Bd_findMark_9 (by decide) (fun c1 => ?_) (fun c1 => ?_)
      · replace h := (if_pos c1).symm.trans h
        refine lv_iconst (v := (0 : Int32)) hx hb d_Bd_findMark_38 (by decide) ?_
        cases h
        exact q_iretW hx hb hr hlocks hP hD hS d_Bd_findMark_39
      · replace h := (if_neg c1).symm.trans h
        refine lv_aload_n hx hb d_Bd_findMark_12 rfl (lv_at hl 0 rfl) ?_
        refine lv_iload_n hx hb d_Bd_findMark_13 rfl (lv_at hl 1 rfl) ?_
        refine lv_iload hx hb d_Bd_findMark_14 (lv_at hl 4 rfl) ?_
        obtain ⟨y2, hy2, h⟩ := o_bind h
        have hPc := hP.sub (ws' := (ws_Bd_hasMark G a_t a_t_entries a_t_markBits n x_t_markBits)) [0, 1] rfl
        have hDc := hD.sub (ws' := (ws_Bd_hasMark G a_t a_t_entries a_t_markBits n x_t_markBits)) [0, 1] (by decide) rfl
        have hFc := va_free (wc := (ws_Bd_hasMark G a_t a_t_entries a_t_markBits n x_t_markBits)) hD hS hA [0, 1] rfl
        refine q_call1 (va_runV (As := [.int l5_1, .int l5_4]) (rest := []) ⟨hx, hb, hml, hown, hts⟩ (c_Bd_hasMark l G H.size a_t a_t_entries a_t_markBits n l5_1 l5_4 x_t_markBits _ hy2) (cwV 2 hts (gV gw_179 gw_180 gw_181 gw_34 gw_182) rfl rfl rfl (by decide +kernel) ⟨Nat.le_of_ble_eq_true rfl, Nat.le_of_ble_eq_true rfl⟩) (pV hK hN hPc hDc (ci := 0) (q0 := 0) rfl rfl) rfl rfl hl.1 rfl (lv_room (Nat.le_of_ble_eq_true rfl)) d_Bd_findMark_16 ⟨Nat.le_of_ble_eq_true rfl, Nat.le_of_ble_eq_true rfl⟩) hS (fun q _ h => hFc q h) hFc (fun H1 locs hB hz hk hS => ?_)
        obtain ⟨hP, hD⟩ := q_joinA hFc hB.1 hB.2
        generalize H1 = H at hP hS ⊢
        replace hP : va_P G.1 vwCl (ws_Bd_findMark G a_t a_t_entries a_t_markBits n x_t_markBits) H := hP
        replace hD : va_D A (ws_Bd_findMark G a_t a_t_entries a_t_markBits n x_t_markBits) := hD
        refine lv_if_eq (tgt := 32) hx hb d_Bd_findMark_19 (by decide) (fun c3 => ?_) (fun c3 => ?_)
        · replace h := (if_pos c3).symm.trans h
          refine lv_iinc (v := (l5_4 + (1 : Int32))) (lv' := [(4, .int (l5_4 + (1 : Int32))), (0, .ref a_t), (1, .int l5_1), (2, .int l5_2), (3, .int l5_3)]) hx hb d_Bd_findMark_32 hl (k := 4) rfl rfl (by decide) rfl (fun ls hl => ?_)
          refine lv_goto (tgt := 5) hx hb d_Bd_findMark_35 (by decide) ?_
          exact ih5 l5_1 l5_2 l5_3 (l5_4 + (1 : Int32)) _ _ _ h hP hD hS (lv_sub hl [1, 2, 3, 4, 0] rfl)
        · replace h := (if_neg c3).symm.trans h
          refine lv_iload_n hx hb d_Bd_findMark_22 rfl (lv_at hl 3 rfl) ?_
          refine lv_if_ne (tgt := 29) hx hb d_Bd_findMark_23 (by decide) (fun c4 => ?_) (fun c4 => ?_)
          · replace h := (if_neg c4).symm.trans h
            refine lv_iinc (v := (l5_3 + (-1 : Int32))) (lv' := [(3, .int (l5_3 + (-1 : Int32))), (0, .ref a_t), (1, .int l5_1), (2, .int l5_2), (4, .int l5_4)]) hx hb d_Bd_findMark_29 hl (k := 3) rfl rfl (by decide) rfl (fun ls hl => ?_)
            refine lv_iinc (v := (l5_4 + (1 : Int32))) (lv' := [(4, .int (l5_4 + (1 : Int32))), (3, .int (l5_3 + (-1 : Int32))), (0, .ref a_t), (1, .int l5_1), (2, .int l5_2)]) hx hb d_Bd_findMark_32 hl (k := 4) rfl rfl (by decide) rfl (fun ls hl => ?_)
            refine lv_goto (tgt := 5) hx hb d_Bd_findMark_35 (by decide) ?_
            exact ih5 l5_1 l5_2 (l5_3 + (-1 : Int32)) (l5_4 + (1 : Int32)) _ _ _ h hP hD hS (lv_sub hl [2, 3, 4, 1, 0] rfl)
          · replace h := (if_pos c4).symm.trans h
            refine lv_iload hx hb d_Bd_findMark_26 (lv_at hl 4 rfl) ?_
            cases h
            exact q_iretW hx hb hr hlocks hP hD hS d_Bd_findMark_28
  exact L5 fu p0 p1 p1 (1 : Int32) _ _ _ h hP hD hS (lv_sub hl [2, 3, 4, 1, 0] rfl)

theorem gw_305 : (.code ⟨"PlayStates$Board", "textSize", "(I)I"⟩ prog_2_method_7_code 3 (some .int) : Cond) ∈ GW := gT 335 (by decide +kernel) (by decide +kernel)
theorem gw_316 : (.methodLink "PlayStates$Board" 34 ⟨"PlayStates$Board", "textSize", "(I)I"⟩ : Cond) ∈ GW := gT 346 (by decide +kernel) (by decide +kernel)
theorem gw_303 : (.instanceMethod ⟨"PlayStates$Board", "textSize", "(I)I"⟩ : Cond) ∈ GW := gT 333 (by decide +kernel) (by decide +kernel)
theorem gw_304 : (.selects "PlayStates$Board" ⟨"PlayStates$Board", "textSize", "(I)I"⟩ ⟨"PlayStates$Board", "textSize", "(I)I"⟩ : Cond) ∈ GW := gT 334 (by decide +kernel) (by decide +kernel)
theorem gw_319 : (.code ⟨"PlayStates$Board", "findMark", "(II)I"⟩ prog_2_method_9_code 5 (some .int) : Cond) ∈ GW := gT 350 (by decide +kernel) (by decide +kernel)
theorem gw_317 : (.methodLink "PlayStates$Board" 37 ⟨"PlayStates$Board", "findMark", "(II)I"⟩ : Cond) ∈ GW := gT 347 (by decide +kernel) (by decide +kernel)
theorem gw_318 : (.instanceMethod ⟨"PlayStates$Board", "findMark", "(II)I"⟩ : Cond) ∈ GW := gT 349 (by decide +kernel) (by decide +kernel)
theorem gw_9 : (.selects "PlayStates$Board" ⟨"PlayStates$Board", "findMark", "(II)I"⟩ ⟨"PlayStates$Board", "findMark", "(II)I"⟩ : Cond) ∈ GW := gP 9 (by decide +kernel) (by decide +kernel)
theorem d_Bd_textByte_0 : decode prog_2_method_8_code 0 = .ok (.iload_n 2, 1) := by decide +kernel
theorem d_Bd_textByte_1 : decode prog_2_method_8_code 1 = .ok (.ifCond .ne 27, 3) := by decide +kernel
theorem d_Bd_textByte_4 : decode prog_2_method_8_code 4 = .ok (.aload_n 0, 1) := by decide +kernel
theorem d_Bd_textByte_5 : decode prog_2_method_8_code 5 = .ok (.getfield 9, 3) := by decide +kernel
theorem d_Bd_textByte_8 : decode prog_2_method_8_code 8 = .ok (.iload_n 1, 1) := by decide +kernel
theorem d_Bd_textByte_9 : decode prog_2_method_8_code 9 = .ok (.iaload, 1) := by decide +kernel
theorem d_Bd_textByte_10 : decode prog_2_method_8_code 10 = .ok (.ifCond .ne 8, 3) := by decide +kernel
theorem d_Bd_textByte_13 : decode prog_2_method_8_code 13 = .ok (.bipush 46, 2) := by decide +kernel
theorem d_Bd_textByte_15 : decode prog_2_method_8_code 15 = .ok (.goto 12, 3) := by decide +kernel
theorem d_Bd_textByte_18 : decode prog_2_method_8_code 18 = .ok (.bipush 48, 2) := by decide +kernel
theorem d_Bd_textByte_20 : decode prog_2_method_8_code 20 = .ok (.aload_n 0, 1) := by decide +kernel
theorem d_Bd_textByte_21 : decode prog_2_method_8_code 21 = .ok (.getfield 9, 3) := by decide +kernel
theorem d_Bd_textByte_24 : decode prog_2_method_8_code 24 = .ok (.iload_n 1, 1) := by decide +kernel
theorem d_Bd_textByte_25 : decode prog_2_method_8_code 25 = .ok (.iaload, 1) := by decide +kernel
theorem d_Bd_textByte_26 : decode prog_2_method_8_code 26 = .ok (.iadd, 1) := by decide +kernel
theorem d_Bd_textByte_27 : decode prog_2_method_8_code 27 = .ok (.ireturn, 1) := by decide +kernel
theorem d_Bd_textByte_28 : decode prog_2_method_8_code 28 = .ok (.iload_n 2, 1) := by decide +kernel
theorem d_Bd_textByte_29 : decode prog_2_method_8_code 29 = .ok (.iconst 1, 1) := by decide +kernel
theorem d_Bd_textByte_30 : decode prog_2_method_8_code 30 = .ok (.if_icmp .ne 6, 3) := by decide +kernel
theorem d_Bd_textByte_33 : decode prog_2_method_8_code 33 = .ok (.bipush 40, 2) := by decide +kernel
theorem d_Bd_textByte_35 : decode prog_2_method_8_code 35 = .ok (.ireturn, 1) := by decide +kernel
theorem d_Bd_textByte_36 : decode prog_2_method_8_code 36 = .ok (.iload_n 2, 1) := by decide +kernel
theorem d_Bd_textByte_37 : decode prog_2_method_8_code 37 = .ok (.aload_n 0, 1) := by decide +kernel
theorem d_Bd_textByte_38 : decode prog_2_method_8_code 38 = .ok (.iload_n 1, 1) := by decide +kernel
theorem d_Bd_textByte_39 : decode prog_2_method_8_code 39 = .ok (.invokevirtual 34, 3) := by decide +kernel
theorem d_Bd_textByte_42 : decode prog_2_method_8_code 42 = .ok (.iconst 1, 1) := by decide +kernel
theorem d_Bd_textByte_43 : decode prog_2_method_8_code 43 = .ok (.isub, 1) := by decide +kernel
theorem d_Bd_textByte_44 : decode prog_2_method_8_code 44 = .ok (.if_icmp .ne 8, 3) := by decide +kernel
theorem d_Bd_textByte_47 : decode prog_2_method_8_code 47 = .ok (.bipush 41, 2) := by decide +kernel
theorem d_Bd_textByte_49 : decode prog_2_method_8_code 49 = .ok (.goto 14, 3) := by decide +kernel
theorem d_Bd_textByte_52 : decode prog_2_method_8_code 52 = .ok (.bipush 48, 2) := by decide +kernel
theorem d_Bd_textByte_54 : decode prog_2_method_8_code 54 = .ok (.aload_n 0, 1) := by decide +kernel
theorem d_Bd_textByte_55 : decode prog_2_method_8_code 55 = .ok (.iload_n 1, 1) := by decide +kernel
theorem d_Bd_textByte_56 : decode prog_2_method_8_code 56 = .ok (.iload_n 2, 1) := by decide +kernel
theorem d_Bd_textByte_57 : decode prog_2_method_8_code 57 = .ok (.iconst 2, 1) := by decide +kernel
theorem d_Bd_textByte_58 : decode prog_2_method_8_code 58 = .ok (.isub, 1) := by decide +kernel
theorem d_Bd_textByte_59 : decode prog_2_method_8_code 59 = .ok (.invokevirtual 37, 3) := by decide +kernel
theorem d_Bd_textByte_62 : decode prog_2_method_8_code 62 = .ok (.iadd, 1) := by decide +kernel
theorem d_Bd_textByte_63 : decode prog_2_method_8_code 63 = .ok (.ireturn, 1) := by decide +kernel
-- PlayStates$Board.textByte(II)I 
def ws_Bd_textByte (G : gG) (a_t a_t_entries a_t_markBits : Nat) (n : Nat) (x_t_entries : Nat → Int32) (x_t_markBits : Nat → Int32) : va_W := [(a_t, .inr (0, [.ref a_t_entries, .ref a_t_markBits])), (a_t_entries, .inl (G.2 0, n, .inl x_t_entries)), (a_t_markBits, .inl (G.2 0, n, .inl x_t_markBits))]
def f_Bd_textByte (fu : Nat) (n : Nat) (p0 : Int32) (p1 : Int32) (x_t_entries : Nat → Int32) (x_t_markBits : Nat → Int32) : Option (Int32) :=
  (if p1 = 0 then (if inB p0 n then (if (x_t_entries p0.toNatClampNeg) = 0 then some (46 : Int32) else (if inB p0 n then some ((48 : Int32) + (x_t_entries p0.toNatClampNeg)) else none)) else none) else (if p1 = (1 : Int32) then some (40 : Int32) else ((f_Bd_textSize n p0 x_t_markBits).bind fun y3 => (if p1 = (y3 - (1 : Int32)) then some (41 : Int32) else ((f_Bd_findMark fu n p0 (p1 - (2 : Int32)) x_t_markBits).bind fun y5 => some ((48 : Int32) + y5))))))
set_option maxHeartbeats 4000000 in
set_option maxRecDepth 100000 in
theorem c_Bd_textByte (l : Launch) (G : gG) (sz : Nat) (a_t a_t_entries a_t_markBits : Nat) (fu : Nat) (n : Nat) (p0 : Int32) (p1 : Int32) (x_t_entries : Nat → Int32) (x_t_markBits : Nat → Int32) (r : Int32) (h : f_Bd_textByte fu n p0 p1 x_t_entries x_t_markBits = some r)  : cN l y_Bd_textByte w_Bd_textByte { frames := 2, cells := 0, slots := 0, locals := 46 } G sz [.ref a_t, .int p0, .int p1] (ws_Bd_textByte G a_t a_t_entries a_t_markBits n x_t_entries x_t_markBits) (some (.int r)) (wB G (ws_Bd_textByte G a_t a_t_entries a_t_markBits n x_t_entries x_t_markBits)) 0 0 := by
  refine cN_ofW (cc := prog_2_method_8_code) (maxL := 3) (ret := (some .int)) (by decide) rfl (Nat.le_of_ble_eq_true rfl) ?_
  intro p e s m args below meth c A H locs ls hx hb hr hts hown hlocks hin hml hK hN hP hD hA hS hl
  replace hl : lv_has ls 3 [(0, .ref a_t), (1, .int p0), (2, .int p1)] := hl
  replace hown : s.vm.findClass "PlayStates$Board" = some m.cls := hown
  unfold f_Bd_textByte at h
  refine lv_iload_n hx hb d_Bd_textByte_0 rfl (lv_at hl 2 rfl) ?_
  refine lv_if_ne (tgt := 28) hx hb d_Bd_textByte_1 (by decide) (fun c1 => ?_) (fun c1 => ?_)
  · replace h := (if_neg c1).symm.trans h
    refine lv_iload_n hx hb d_Bd_textByte_28 rfl (lv_at hl 2 rfl) ?_
    refine lv_iconst (v := (1 : Int32)) hx hb d_Bd_textByte_29 (by decide) ?_
    refine lv_icmp_ne (tgt := 36) hx hb d_Bd_textByte_30 (by decide) (fun c2 => ?_) (fun c2 => ?_)
    · replace h := (if_neg c2).symm.trans h
      refine lv_iload_n hx hb d_Bd_textByte_36 rfl (lv_at hl 2 rfl) ?_
      refine lv_aload_n hx hb d_Bd_textByte_37 rfl (lv_at hl 0 rfl) ?_
      refine lv_iload_n hx hb d_Bd_textByte_38 rfl (lv_at hl 1 rfl) ?_
      obtain ⟨y3, hy3, h⟩ := o_bind h
      have hPc := hP.sub (ws' := (ws_Bd_textSize G a_t a_t_entries a_t_markBits n x_t_markBits)) [0, 2] rfl
      have hDc := hD.sub (ws' := (ws_Bd_textSize G a_t a_t_entries a_t_markBits n x_t_markBits)) [0, 2] (by decide) rfl
      have hFc := va_free (wc := (ws_Bd_textSize G a_t a_t_entries a_t_markBits n x_t_markBits)) hD hS hA [0, 2] rfl
      refine q_call1 (va_runV (As := [.int p0]) (rest := [.int p1]) ⟨hx, hb, hml, hown, hts⟩ (c_Bd_textSize l G H.size a_t a_t_entries a_t_markBits n p0 x_t_markBits _ hy3) (cwV 1 hts (gV gw_316 gw_303 gw_304 gw_34 gw_305) rfl rfl rfl (by decide +kernel) ⟨Nat.le_of_ble_eq_true rfl, Nat.le_of_ble_eq_true rfl⟩) (pV hK hN hPc hDc (ci := 0) (q0 := 0) rfl rfl) rfl rfl hl.1 rfl (lv_room (Nat.le_of_ble_eq_true rfl)) d_Bd_textByte_39 ⟨Nat.le_of_ble_eq_true rfl, Nat.le_of_ble_eq_true rfl⟩) hS (fun q _ h => hFc q h) hFc (fun H1 locs hB hz hk hS => ?_)
      obtain ⟨hP, hD⟩ := q_join (wr := [(a_t_entries, .inl (G.2 0, n, .inl x_t_entries))]) (wn := (ws_Bd_textByte G a_t a_t_entries a_t_markBits n x_t_entries x_t_markBits)) hP hD [0, 2] [1] [1, 0, 2] rfl rfl (by decide) (by decide) rfl (by decide) hk hFc hB.1 hB.2
      generalize H1 = H at hP hS ⊢
      replace hP : va_P G.1 vwCl (ws_Bd_textByte G a_t a_t_entries a_t_markBits n x_t_entries x_t_markBits) H := hP
      replace hD : va_D A (ws_Bd_textByte G a_t a_t_entries a_t_markBits n x_t_entries x_t_markBits) := hD
      refine lv_iconst (v := (1 : Int32)) hx hb d_Bd_textByte_42 (by decide) ?_
      refine lv_isub hx hb d_Bd_textByte_43 ?_
      refine lv_icmp_ne (tgt := 52) hx hb d_Bd_textByte_44 (by decide) (fun c4 => ?_) (fun c4 => ?_)
      · replace h := (if_neg c4).symm.trans h
        refine lv_bipush (v := (48 : Int32)) hx hb d_Bd_textByte_52 (by decide) ?_
        refine lv_aload_n hx hb d_Bd_textByte_54 rfl (lv_at hl 0 rfl) ?_
        refine lv_iload_n hx hb d_Bd_textByte_55 rfl (lv_at hl 1 rfl) ?_
        refine lv_iload_n hx hb d_Bd_textByte_56 rfl (lv_at hl 2 rfl) ?_
        refine lv_iconst (v := (2 : Int32)) hx hb d_Bd_textByte_57 (by decide) ?_
        refine lv_isub hx hb d_Bd_textByte_58 ?_
        obtain ⟨y5, hy5, h⟩ := o_bind h
        have hPc := hP.sub (ws' := (ws_Bd_findMark G a_t a_t_entries a_t_markBits n x_t_markBits)) [0, 2] rfl
        have hDc := hD.sub (ws' := (ws_Bd_findMark G a_t a_t_entries a_t_markBits n x_t_markBits)) [0, 2] (by decide) rfl
        have hFc := va_free (wc := (ws_Bd_findMark G a_t a_t_entries a_t_markBits n x_t_markBits)) hD hS hA [0, 2] rfl
        refine q_call1 (va_runV (As := [.int p0, .int (p1 - (2 : Int32))]) (rest := [.int (48 : Int32)]) ⟨hx, hb, hml, hown, hts⟩ (c_Bd_findMark l G H.size a_t a_t_entries a_t_markBits fu n p0 (p1 - (2 : Int32)) x_t_markBits _ hy5) (cwV 2 hts (gV gw_317 gw_318 gw_9 gw_34 gw_319) rfl rfl rfl (by decide +kernel) ⟨Nat.le_of_ble_eq_true rfl, Nat.le_of_ble_eq_true rfl⟩) (pV hK hN hPc hDc (ci := 0) (q0 := 0) rfl rfl) rfl rfl hl.1 rfl (lv_room (Nat.le_of_ble_eq_true rfl)) d_Bd_textByte_59 ⟨Nat.le_of_ble_eq_true rfl, Nat.le_of_ble_eq_true rfl⟩) hS (fun q _ h => hFc q h) hFc (fun H1 locs hB hz hk hS => ?_)
        obtain ⟨hP, hD⟩ := q_join (wr := [(a_t_entries, .inl (G.2 0, n, .inl x_t_entries))]) (wn := (ws_Bd_textByte G a_t a_t_entries a_t_markBits n x_t_entries x_t_markBits)) hP hD [0, 2] [1] [1, 0, 2] rfl rfl (by decide) (by decide) rfl (by decide) hk hFc hB.1 hB.2
        generalize H1 = H at hP hS ⊢
        replace hP : va_P G.1 vwCl (ws_Bd_textByte G a_t a_t_entries a_t_markBits n x_t_entries x_t_markBits) H := hP
        replace hD : va_D A (ws_Bd_textByte G a_t a_t_entries a_t_markBits n x_t_entries x_t_markBits) := hD
        refine lv_iadd hx hb d_Bd_textByte_62 ?_
        cases h
        exact q_iretW hx hb hr hlocks hP hD hS d_Bd_textByte_63
      · replace h := (if_pos c4).symm.trans h
        refine lv_bipush (v := (41 : Int32)) hx hb d_Bd_textByte_47 (by decide) ?_
        refine lv_goto (tgt := 63) hx hb d_Bd_textByte_49 (by decide) ?_
        cases h
        exact q_iretW hx hb hr hlocks hP hD hS d_Bd_textByte_63
    · replace h := (if_pos c2).symm.trans h
      refine lv_bipush (v := (40 : Int32)) hx hb d_Bd_textByte_33 (by decide) ?_
      cases h
      exact q_iretW hx hb hr hlocks hP hD hS d_Bd_textByte_35
  · replace h := (if_pos c1).symm.trans h
    refine lv_aload_n hx hb d_Bd_textByte_4 rfl (lv_at hl 0 rfl) ?_
    refine va_get (D := G.1) (ci := 0) (v := .ref a_t_entries) (C := "PlayStates$Board") (T := TBd) (N := 2) hx hb hts iw_0 hown hK hP 0 rfl rfl 0 (by decide) (hts _ gw_79) (fun _ h9 => h9) rfl d_Bd_textByte_5 ?_
    refine lv_iload_n hx hb d_Bd_textByte_8 rfl (lv_at hl 1 rfl) ?_
    obtain ⟨i6, h⟩ := o_if h
    refine va_iald (n := n) (f := x_t_entries) hx hb hK hP 1 0 rfl rfl i6 d_Bd_textByte_9 ?_
    refine lv_if_ne (tgt := 18) hx hb d_Bd_textByte_10 (by decide) (fun c7 => ?_) (fun c7 => ?_)
    · replace h := (if_neg c7).symm.trans h
      refine lv_bipush (v := (48 : Int32)) hx hb d_Bd_textByte_18 (by decide) ?_
      refine lv_aload_n hx hb d_Bd_textByte_20 rfl (lv_at hl 0 rfl) ?_
      refine va_get (D := G.1) (ci := 0) (v := .ref a_t_entries) (C := "PlayStates$Board") (T := TBd) (N := 2) hx hb hts iw_0 hown hK hP 0 rfl rfl 0 (by decide) (hts _ gw_79) (fun _ h9 => h9) rfl d_Bd_textByte_21 ?_
      refine lv_iload_n hx hb d_Bd_textByte_24 rfl (lv_at hl 1 rfl) ?_
      obtain ⟨i8, h⟩ := o_if h
      refine va_iald (n := n) (f := x_t_entries) hx hb hK hP 1 0 rfl rfl i8 d_Bd_textByte_25 ?_
      refine lv_iadd hx hb d_Bd_textByte_26 ?_
      cases h
      exact q_iretW hx hb hr hlocks hP hD hS d_Bd_textByte_27
    · replace h := (if_pos c7).symm.trans h
      refine lv_bipush (v := (46 : Int32)) hx hb d_Bd_textByte_13 (by decide) ?_
      refine lv_goto (tgt := 27) hx hb d_Bd_textByte_15 (by decide) ?_
      cases h
      exact q_iretW hx hb hr hlocks hP hD hS d_Bd_textByte_27
end
section
theorem gw_90 : (.fieldLink "PlayStates$StateReader" 9 "PlayStates$StateReader" "board" "LPlayStates$Board;" : Cond) ∈ GW := gT 77 (by decide +kernel) (by decide +kernel)
theorem gw_291 : (.code ⟨"PlayStates$Board", "clear", "()V"⟩ prog_2_method_2_code 1 none : Cond) ∈ GW := gT 320 (by decide +kernel) (by decide +kernel)
theorem gw_335 : (.methodLink "PlayStates$StateReader" 19 ⟨"PlayStates$Board", "clear", "()V"⟩ : Cond) ∈ GW := gT 367 (by decide +kernel) (by decide +kernel)
theorem gw_289 : (.instanceMethod ⟨"PlayStates$Board", "clear", "()V"⟩ : Cond) ∈ GW := gT 318 (by decide +kernel) (by decide +kernel)
theorem gw_290 : (.selects "PlayStates$Board" ⟨"PlayStates$Board", "clear", "()V"⟩ ⟨"PlayStates$Board", "clear", "()V"⟩ : Cond) ∈ GW := gT 319 (by decide +kernel) (by decide +kernel)
theorem gw_92 : (.fieldLink "PlayStates$StateReader" 24 "PlayStates$StateReader" "placesRead" "I" : Cond) ∈ GW := gT 79 (by decide +kernel) (by decide +kernel)
theorem gw_93 : (.fieldLink "PlayStates$StateReader" 27 "PlayStates$StateReader" "mayOpen" "Z" : Cond) ∈ GW := gT 80 (by decide +kernel) (by decide +kernel)
theorem gw_94 : (.fieldLink "PlayStates$StateReader" 31 "PlayStates$StateReader" "open" "Z" : Cond) ∈ GW := gT 81 (by decide +kernel) (by decide +kernel)
theorem d_Sr_begin_0 : decode prog_6_method_2_code 0 = .ok (.aload_n 0, 1) := by decide +kernel
theorem d_Sr_begin_1 : decode prog_6_method_2_code 1 = .ok (.getfield 9, 3) := by decide +kernel
theorem d_Sr_begin_4 : decode prog_6_method_2_code 4 = .ok (.invokevirtual 19, 3) := by decide +kernel
theorem d_Sr_begin_7 : decode prog_6_method_2_code 7 = .ok (.aload_n 0, 1) := by decide +kernel
theorem d_Sr_begin_8 : decode prog_6_method_2_code 8 = .ok (.iconst 0, 1) := by decide +kernel
theorem d_Sr_begin_9 : decode prog_6_method_2_code 9 = .ok (.putfield 24, 3) := by decide +kernel
theorem d_Sr_begin_12 : decode prog_6_method_2_code 12 = .ok (.aload_n 0, 1) := by decide +kernel
theorem d_Sr_begin_13 : decode prog_6_method_2_code 13 = .ok (.iconst 0, 1) := by decide +kernel
theorem d_Sr_begin_14 : decode prog_6_method_2_code 14 = .ok (.putfield 27, 3) := by decide +kernel
theorem d_Sr_begin_17 : decode prog_6_method_2_code 17 = .ok (.aload_n 0, 1) := by decide +kernel
theorem d_Sr_begin_18 : decode prog_6_method_2_code 18 = .ok (.iconst 0, 1) := by decide +kernel
theorem d_Sr_begin_19 : decode prog_6_method_2_code 19 = .ok (.putfield 31, 3) := by decide +kernel
theorem d_Sr_begin_22 : decode prog_6_method_2_code 22 = .ok (.return_, 1) := by decide +kernel
-- PlayStates$StateReader.begin()V 
def ws_Sr_begin (G : gG) (a_t a_t_board a_t_board_entries a_t_board_markBits : Nat) (n : Nat) (x_t_placeCount : Int32) (x_t_placesRead : Int32) (x_t_mayOpen : Int32) (x_t_open : Int32) (x_t_lastMark : Int32) (x_t_board_entries : Nat → Int32) (x_t_board_markBits : Nat → Int32) : va_W := [(a_t, .inr (4, [.ref a_t_board, .int x_t_placeCount, .int x_t_placesRead, .int x_t_mayOpen, .int x_t_open, .int x_t_lastMark])), (a_t_board, .inr (0, [.ref a_t_board_entries, .ref a_t_board_markBits])), (a_t_board_entries, .inl (G.2 0, n, .inl x_t_board_entries)), (a_t_board_markBits, .inl (G.2 0, n, .inl x_t_board_markBits))]
def f_Sr_begin (fu : Nat) (n : Nat)  (x_t_placeCount : Int32) (x_t_placesRead : Int32) (x_t_mayOpen : Int32) (x_t_open : Int32) (x_t_lastMark : Int32) (x_t_board_entries : Nat → Int32) (x_t_board_markBits : Nat → Int32) : Option (Int32 × Int32 × Int32 × (Nat → Int32) × (Nat → Int32)) :=
  ((f_Bd_clear fu n x_t_board_entries x_t_board_markBits).bind fun y1 => some ((0 : Int32), (0 : Int32), (0 : Int32), y1.1, y1.2))
set_option maxHeartbeats 4000000 in
set_option maxRecDepth 100000 in
theorem c_Sr_begin (l : Launch) (G : gG) (sz : Nat) (a_t a_t_board a_t_board_entries a_t_board_markBits : Nat) (fu : Nat) (n : Nat)  (x_t_placeCount : Int32) (x_t_placesRead : Int32) (x_t_mayOpen : Int32) (x_t_open : Int32) (x_t_lastMark : Int32) (x_t_board_entries : Nat → Int32) (x_t_board_markBits : Nat → Int32) (x_t_placesRead' : Int32) (x_t_mayOpen' : Int32) (x_t_open' : Int32) (x_t_board_entries' : Nat → Int32) (x_t_board_markBits' : Nat → Int32) (h : f_Sr_begin fu n x_t_placeCount x_t_placesRead x_t_mayOpen x_t_open x_t_lastMark x_t_board_entries x_t_board_markBits = some (x_t_placesRead', x_t_mayOpen', x_t_open', x_t_board_entries', x_t_board_markBits'))  : cN l y_Sr_begin w_Sr_begin { frames := 2, cells := 0, slots := 0, locals := 43 } G sz [.ref a_t] (ws_Sr_begin G a_t a_t_board a_t_board_entries a_t_board_markBits n x_t_placeCount x_t_placesRead x_t_mayOpen x_t_open x_t_lastMark x_t_board_entries x_t_board_markBits) none (wB G (ws_Sr_begin G a_t a_t_board a_t_board_entries a_t_board_markBits n x_t_placeCount x_t_placesRead' x_t_mayOpen' x_t_open' x_t_lastMark x_t_board_entries' x_t_board_markBits')) 0 0 := by
  refine cN_ofW (cc := prog_6_method_2_code) (maxL := 1) (ret := none) (by decide) rfl (Nat.le_of_ble_eq_true rfl) ?_
  intro p e s m args below meth c A H locs ls hx hb hr hts hown hlocks hin hml hK hN hP hD hA hS hl
  replace hl : lv_has ls 1 [(0, .ref a_t)] := hl
  replace hown : s.vm.findClass "PlayStates$StateReader" = some m.cls := hown
  unfold f_Sr_begin at h
  refine lv_aload_n hx hb d_Sr_begin_0 rfl (lv_at hl 0 rfl) ?_
  refine va_get (D := G.1) (ci := 4) (v := .ref a_t_board) (C := "PlayStates$StateReader") (T := TSr) (N := 6) hx hb hts iw_4 hown hK hP 0 rfl rfl 0 (by decide) (hts _ gw_90) (fun _ h9 => h9) rfl d_Sr_begin_1 ?_
  obtain ⟨y1, hy1, h⟩ := o_bind h
  have hPc := hP.sub (ws' := (ws_Bd_clear G a_t_board a_t_board_entries a_t_board_markBits n x_t_board_entries x_t_board_markBits)) [1, 2, 3] rfl
  have hDc := hD.sub (ws' := (ws_Bd_clear G a_t_board a_t_board_entries a_t_board_markBits n x_t_board_entries x_t_board_markBits)) [1, 2, 3] (by decide) rfl
  have hFc := va_free (wc := (ws_Bd_clear G a_t_board a_t_board_entries a_t_board_markBits n x_t_board_entries x_t_board_markBits)) hD hS hA [1, 2, 3] rfl
  refine q_call0 (va_runV (As := []) (rest := []) ⟨hx, hb, hml, hown, hts⟩ (c_Bd_clear l G H.size a_t_board a_t_board_entries a_t_board_markBits fu n x_t_board_entries x_t_board_markBits _ _ hy1) (cwV 0 hts (gV gw_335 gw_289 gw_290 gw_34 gw_291) rfl rfl rfl (by decide +kernel) ⟨Nat.le_of_ble_eq_true rfl, Nat.le_of_ble_eq_true rfl⟩) (pV hK hN hPc hDc (ci := 0) (q0 := 0) rfl rfl) rfl rfl hl.1 rfl (lv_room (Nat.le_of_ble_eq_true rfl)) d_Sr_begin_4 ⟨Nat.le_of_ble_eq_true rfl, Nat.le_of_ble_eq_true rfl⟩) hS (fun q _ h => hFc q h) hFc (fun H1 locs hB hz hk hS => ?_)
  obtain ⟨hP, hD⟩ := q_join (wr := [(a_t, .inr (4, [.ref a_t_board, .int x_t_placeCount, .int x_t_placesRead, .int x_t_mayOpen, .int x_t_open, .int x_t_lastMark]))]) (wn := (ws_Sr_begin G a_t a_t_board a_t_board_entries a_t_board_markBits n x_t_placeCount x_t_placesRead x_t_mayOpen x_t_open x_t_lastMark y1.1 y1.2)) hP hD [1, 2, 3] [0] [0, 1, 2, 3] rfl rfl (by decide) (by decide) rfl (by decide) hk hFc hB.1 hB.2
  generalize H1 = H at hP hS ⊢
  replace hP : va_P G.1 vwCl (ws_Sr_begin G a_t a_t_board a_t_board_entries a_t_board_markBits n x_t_placeCount x_t_placesRead x_t_mayOpen x_t_open x_t_lastMark y1.1 y1.2) H := hP
  replace hD : va_D A (ws_Sr_begin G a_t a_t_board a_t_board_entries a_t_board_markBits n x_t_placeCount x_t_placesRead x_t_mayOpen x_t_open x_t_lastMark y1.1 y1.2) := hD
  refine lv_aload_n hx hb d_Sr_begin_7 rfl (lv_at hl 0 rfl) ?_
  refine lv_iconst (v := (0 : Int32)) hx hb d_Sr_begin_8 (by decide) ?_
  refine va_put (D := G.1) (ci := 4) (v := .int (0 : Int32)) (ty := .int) (C := "PlayStates$StateReader") (T := TSr) (N := 6) hx hb hts iw_4 tySr tySr_ok nmSr hown hK hP hD hS 0 rfl rfl 2 (by decide) (hts _ gw_92) (fun _ h9 => h9) rfl (by decide +kernel) (by rfl) (by rfl) (Nat.le_of_ble_eq_true rfl) d_Sr_begin_9 (fun H locs hP hD hS => ?_)
  replace hP : va_P G.1 vwCl (ws_Sr_begin G a_t a_t_board a_t_board_entries a_t_board_markBits n x_t_placeCount (0 : Int32) x_t_mayOpen x_t_open x_t_lastMark y1.1 y1.2) H := hP
  replace hD : va_D A (ws_Sr_begin G a_t a_t_board a_t_board_entries a_t_board_markBits n x_t_placeCount (0 : Int32) x_t_mayOpen x_t_open x_t_lastMark y1.1 y1.2) := hD
  refine lv_aload_n hx hb d_Sr_begin_12 rfl (lv_at hl 0 rfl) ?_
  refine lv_iconst (v := (0 : Int32)) hx hb d_Sr_begin_13 (by decide) ?_
  refine va_put (D := G.1) (ci := 4) (v := .int (0 : Int32)) (ty := .boolean) (C := "PlayStates$StateReader") (T := TSr) (N := 6) hx hb hts iw_4 tySr tySr_ok nmSr hown hK hP hD hS 0 rfl rfl 3 (by decide) (hts _ gw_93) (fun _ h9 => h9) rfl (by decide +kernel) (by decide) (by decide) (Nat.le_of_ble_eq_true rfl) d_Sr_begin_14 (fun H locs hP hD hS => ?_)
  replace hP : va_P G.1 vwCl (ws_Sr_begin G a_t a_t_board a_t_board_entries a_t_board_markBits n x_t_placeCount (0 : Int32) (0 : Int32) x_t_open x_t_lastMark y1.1 y1.2) H := hP
  replace hD : va_D A (ws_Sr_begin G a_t a_t_board a_t_board_entries a_t_board_markBits n x_t_placeCount (0 : Int32) (0 : Int32) x_t_open x_t_lastMark y1.1 y1.2) := hD
  refine lv_aload_n hx hb d_Sr_begin_17 rfl (lv_at hl 0 rfl) ?_
  refine lv_iconst (v := (0 : Int32)) hx hb d_Sr_begin_18 (by decide) ?_
  refine va_put (D := G.1) (ci := 4) (v := .int (0 : Int32)) (ty := .boolean) (C := "PlayStates$StateReader") (T := TSr) (N := 6) hx hb hts iw_4 tySr tySr_ok nmSr hown hK hP hD hS 0 rfl rfl 4 (by decide) (hts _ gw_94) (fun _ h9 => h9) rfl (by decide +kernel) (by decide) (by decide) (Nat.le_of_ble_eq_true rfl) d_Sr_begin_19 (fun H locs hP hD hS => ?_)
  replace hP : va_P G.1 vwCl (ws_Sr_begin G a_t a_t_board a_t_board_entries a_t_board_markBits n x_t_placeCount (0 : Int32) (0 : Int32) (0 : Int32) x_t_lastMark y1.1 y1.2) H := hP
  replace hD : va_D A (ws_Sr_begin G a_t a_t_board a_t_board_entries a_t_board_markBits n x_t_placeCount (0 : Int32) (0 : Int32) (0 : Int32) x_t_lastMark y1.1 y1.2) := hD
  cases h
  exact q_vretW hx hb hr hlocks hP hD hS d_Sr_begin_22

theorem gw_91 : (.fieldLink "PlayStates$StateReader" 15 "PlayStates$StateReader" "placeCount" "I" : Cond) ∈ GW := gT 78 (by decide +kernel) (by decide +kernel)
theorem d_Sr_isWhole_0 : decode prog_6_method_4_code 0 = .ok (.aload_n 0, 1) := by decide +kernel
theorem d_Sr_isWhole_1 : decode prog_6_method_4_code 1 = .ok (.getfield 24, 3) := by decide +kernel
theorem d_Sr_isWhole_4 : decode prog_6_method_4_code 4 = .ok (.aload_n 0, 1) := by decide +kernel
theorem d_Sr_isWhole_5 : decode prog_6_method_4_code 5 = .ok (.getfield 15, 3) := by decide +kernel
theorem d_Sr_isWhole_8 : decode prog_6_method_4_code 8 = .ok (.if_icmp .ne 14, 3) := by decide +kernel
theorem d_Sr_isWhole_11 : decode prog_6_method_4_code 11 = .ok (.aload_n 0, 1) := by decide +kernel
theorem d_Sr_isWhole_12 : decode prog_6_method_4_code 12 = .ok (.getfield 31, 3) := by decide +kernel
theorem d_Sr_isWhole_15 : decode prog_6_method_4_code 15 = .ok (.ifCond .ne 7, 3) := by decide +kernel
theorem d_Sr_isWhole_18 : decode prog_6_method_4_code 18 = .ok (.iconst 1, 1) := by decide +kernel
theorem d_Sr_isWhole_19 : decode prog_6_method_4_code 19 = .ok (.goto 4, 3) := by decide +kernel
theorem d_Sr_isWhole_22 : decode prog_6_method_4_code 22 = .ok (.iconst 0, 1) := by decide +kernel
theorem d_Sr_isWhole_23 : decode prog_6_method_4_code 23 = .ok (.ireturn, 1) := by decide +kernel
-- PlayStates$StateReader.isWhole()Z 
def ws_Sr_isWhole (G : gG) (a_t a_t_board : Nat)  (x_t_placeCount : Int32) (x_t_placesRead : Int32) (x_t_mayOpen : Int32) (x_t_open : Int32) (x_t_lastMark : Int32) : va_W := [(a_t, .inr (4, [.ref a_t_board, .int x_t_placeCount, .int x_t_placesRead, .int x_t_mayOpen, .int x_t_open, .int x_t_lastMark]))]
def f_Sr_isWhole   (x_t_placeCount : Int32) (x_t_placesRead : Int32) (x_t_mayOpen : Int32) (x_t_open : Int32) (x_t_lastMark : Int32) : Option (Int32) :=
  (if x_t_placesRead = x_t_placeCount then (if x_t_open = 0 then some (1 : Int32) else some (0 : Int32)) else some (0 : Int32))
set_option maxHeartbeats 4000000 in
set_option maxRecDepth 100000 in
theorem c_Sr_isWhole (l : Launch) (G : gG) (sz : Nat) (a_t a_t_board : Nat)   (x_t_placeCount : Int32) (x_t_placesRead : Int32) (x_t_mayOpen : Int32) (x_t_open : Int32) (x_t_lastMark : Int32) (r : Int32) (h : f_Sr_isWhole x_t_placeCount x_t_placesRead x_t_mayOpen x_t_open x_t_lastMark = some r)  : cN l y_Sr_isWhole w_Sr_isWhole { frames := 0, cells := 0, slots := 0, locals := 0 } G sz [.ref a_t] (ws_Sr_isWhole G a_t a_t_board x_t_placeCount x_t_placesRead x_t_mayOpen x_t_open x_t_lastMark) (some (.int r)) (wB G (ws_Sr_isWhole G a_t a_t_board x_t_placeCount x_t_placesRead x_t_mayOpen x_t_open x_t_lastMark)) 0 0 := by
  refine cN_ofW (cc := prog_6_method_4_code) (maxL := 1) (ret := (some .boolean)) (by decide) rfl (Nat.le_of_ble_eq_true rfl) ?_
  intro p e s m args below meth c A H locs ls hx hb hr hts hown hlocks hin hml hK hN hP hD hA hS hl
  replace hl : lv_has ls 1 [(0, .ref a_t)] := hl
  replace hown : s.vm.findClass "PlayStates$StateReader" = some m.cls := hown
  unfold f_Sr_isWhole at h
  refine lv_aload_n hx hb d_Sr_isWhole_0 rfl (lv_at hl 0 rfl) ?_
  refine va_get (D := G.1) (ci := 4) (v := .int x_t_placesRead) (C := "PlayStates$StateReader") (T := TSr) (N := 6) hx hb hts iw_4 hown hK hP 0 rfl rfl 2 (by decide) (hts _ gw_92) (fun _ h9 => h9) rfl d_Sr_isWhole_1 ?_
  refine lv_aload_n hx hb d_Sr_isWhole_4 rfl (lv_at hl 0 rfl) ?_
  refine va_get (D := G.1) (ci := 4) (v := .int x_t_placeCount) (C := "PlayStates$StateReader") (T := TSr) (N := 6) hx hb hts iw_4 hown hK hP 0 rfl rfl 1 (by decide) (hts _ gw_91) (fun _ h9 => h9) rfl d_Sr_isWhole_5 ?_
  refine lv_icmp_ne (tgt := 22) hx hb d_Sr_isWhole_8 (by decide) (fun c1 => ?_) (fun c1 => ?_)
  · replace h := (if_neg c1).symm.trans h
    refine lv_iconst (v := (0 : Int32)) hx hb d_Sr_isWhole_22 (by decide) ?_
    cases h
    exact q_zretW hx hb hr hlocks (by decide) hP hD hS d_Sr_isWhole_23
  · replace h := (if_pos c1).symm.trans h
    refine lv_aload_n hx hb d_Sr_isWhole_11 rfl (lv_at hl 0 rfl) ?_
    refine va_get (D := G.1) (ci := 4) (v := .int x_t_open) (C := "PlayStates$StateReader") (T := TSr) (N := 6) hx hb hts iw_4 hown hK hP 0 rfl rfl 4 (by decide) (hts _ gw_94) (fun _ h9 => h9) rfl d_Sr_isWhole_12 ?_
    refine lv_if_ne (tgt := 22) hx hb d_Sr_isWhole_15 (by decide) (fun c2 => ?_) (fun c2 => ?_)
    · replace h := (if_neg c2).symm.trans h
      refine lv_iconst (v := (0 : Int32)) hx hb d_Sr_isWhole_22 (by decide) ?_
      cases h
      exact q_zretW hx hb hr hlocks (by decide) hP hD hS d_Sr_isWhole_23
    · replace h := (if_pos c2).symm.trans h
      refine lv_iconst (v := (1 : Int32)) hx hb d_Sr_isWhole_18 (by decide) ?_
      refine lv_goto (tgt := 23) hx hb d_Sr_isWhole_19 (by decide) ?_
      cases h
      exact q_zretW hx hb hr hlocks (by decide) hP hD hS d_Sr_isWhole_23

theorem gw_95 : (.fieldLink "PlayStates$StateReader" 48 "PlayStates$StateReader" "lastMark" "I" : Cond) ∈ GW := gT 82 (by decide +kernel) (by decide +kernel)
theorem d_Sr_acceptsOpening_0 : decode prog_6_method_5_code 0 = .ok (.aload_n 0, 1) := by decide +kernel
theorem d_Sr_acceptsOpening_1 : decode prog_6_method_5_code 1 = .ok (.getfield 27, 3) := by decide +kernel
theorem d_Sr_acceptsOpening_4 : decode prog_6_method_5_code 4 = .ok (.ifCond .ne 5, 3) := by decide +kernel
theorem d_Sr_acceptsOpening_7 : decode prog_6_method_5_code 7 = .ok (.iconst 0, 1) := by decide +kernel
theorem d_Sr_acceptsOpening_8 : decode prog_6_method_5_code 8 = .ok (.ireturn, 1) := by decide +kernel
theorem d_Sr_acceptsOpening_9 : decode prog_6_method_5_code 9 = .ok (.aload_n 0, 1) := by decide +kernel
theorem d_Sr_acceptsOpening_10 : decode prog_6_method_5_code 10 = .ok (.iconst 0, 1) := by decide +kernel
theorem d_Sr_acceptsOpening_11 : decode prog_6_method_5_code 11 = .ok (.putfield 27, 3) := by decide +kernel
theorem d_Sr_acceptsOpening_14 : decode prog_6_method_5_code 14 = .ok (.aload_n 0, 1) := by decide +kernel
theorem d_Sr_acceptsOpening_15 : decode prog_6_method_5_code 15 = .ok (.iconst 1, 1) := by decide +kernel
theorem d_Sr_acceptsOpening_16 : decode prog_6_method_5_code 16 = .ok (.putfield 31, 3) := by decide +kernel
theorem d_Sr_acceptsOpening_19 : decode prog_6_method_5_code 19 = .ok (.aload_n 0, 1) := by decide +kernel
theorem d_Sr_acceptsOpening_20 : decode prog_6_method_5_code 20 = .ok (.iconst 0, 1) := by decide +kernel
theorem d_Sr_acceptsOpening_21 : decode prog_6_method_5_code 21 = .ok (.putfield 48, 3) := by decide +kernel
theorem d_Sr_acceptsOpening_24 : decode prog_6_method_5_code 24 = .ok (.iconst 1, 1) := by decide +kernel
theorem d_Sr_acceptsOpening_25 : decode prog_6_method_5_code 25 = .ok (.ireturn, 1) := by decide +kernel
-- PlayStates$StateReader.acceptsOpening()Z 
def ws_Sr_acceptsOpening (G : gG) (a_t a_t_board : Nat)  (x_t_placeCount : Int32) (x_t_placesRead : Int32) (x_t_mayOpen : Int32) (x_t_open : Int32) (x_t_lastMark : Int32) : va_W := [(a_t, .inr (4, [.ref a_t_board, .int x_t_placeCount, .int x_t_placesRead, .int x_t_mayOpen, .int x_t_open, .int x_t_lastMark]))]
def f_Sr_acceptsOpening   (x_t_placeCount : Int32) (x_t_placesRead : Int32) (x_t_mayOpen : Int32) (x_t_open : Int32) (x_t_lastMark : Int32) : Option (Int32 × Int32 × Int32 × Int32) :=
  (if x_t_mayOpen = 0 then some ((0 : Int32), x_t_mayOpen, x_t_open, x_t_lastMark) else some ((1 : Int32), (0 : Int32), (1 : Int32), (0 : Int32)))
set_option maxHeartbeats 4000000 in
set_option maxRecDepth 100000 in
theorem c_Sr_acceptsOpening (l : Launch) (G : gG) (sz : Nat) (a_t a_t_board : Nat)   (x_t_placeCount : Int32) (x_t_placesRead : Int32) (x_t_mayOpen : Int32) (x_t_open : Int32) (x_t_lastMark : Int32) (r : Int32) (x_t_mayOpen' : Int32) (x_t_open' : Int32) (x_t_lastMark' : Int32) (h : f_Sr_acceptsOpening x_t_placeCount x_t_placesRead x_t_mayOpen x_t_open x_t_lastMark = some (r, x_t_mayOpen', x_t_open', x_t_lastMark'))  : cN l y_Sr_acceptsOpening w_Sr_acceptsOpening { frames := 0, cells := 0, slots := 0, locals := 0 } G sz [.ref a_t] (ws_Sr_acceptsOpening G a_t a_t_board x_t_placeCount x_t_placesRead x_t_mayOpen x_t_open x_t_lastMark) (some (.int r)) (wB G (ws_Sr_acceptsOpening G a_t a_t_board x_t_placeCount x_t_placesRead x_t_mayOpen' x_t_open' x_t_lastMark')) 0 0 := by
  refine cN_ofW (cc := prog_6_method_5_code) (maxL := 1) (ret := (some .boolean)) (by decide) rfl (Nat.le_of_ble_eq_true rfl) ?_
  intro p e s m args below meth c A H locs ls hx hb hr hts hown hlocks hin hml hK hN hP hD hA hS hl
  replace hl : lv_has ls 1 [(0, .ref a_t)] := hl
  replace hown : s.vm.findClass "PlayStates$StateReader" = some m.cls := hown
  unfold f_Sr_acceptsOpening at h
  refine lv_aload_n hx hb d_Sr_acceptsOpening_0 rfl (lv_at hl 0 rfl) ?_
  refine va_get (D := G.1) (ci := 4) (v := .int x_t_mayOpen) (C := "PlayStates$StateReader") (T := TSr) (N := 6) hx hb hts iw_4 hown hK hP 0 rfl rfl 3 (by decide) (hts _ gw_93) (fun _ h9 => h9) rfl d_Sr_acceptsOpening_1 ?_
  refine lv_if_ne (tgt := 9) hx hb d_Sr_acceptsOpening_4 (by decide) (fun c1 => ?_) (fun c1 => ?_)
  · replace h := (if_neg c1).symm.trans h
    refine lv_aload_n hx hb d_Sr_acceptsOpening_9 rfl (lv_at hl 0 rfl) ?_
    refine lv_iconst (v := (0 : Int32)) hx hb d_Sr_acceptsOpening_10 (by decide) ?_
    refine va_put (D := G.1) (ci := 4) (v := .int (0 : Int32)) (ty := .boolean) (C := "PlayStates$StateReader") (T := TSr) (N := 6) hx hb hts iw_4 tySr tySr_ok nmSr hown hK hP hD hS 0 rfl rfl 3 (by decide) (hts _ gw_93) (fun _ h9 => h9) rfl (by decide +kernel) (by decide) (by decide) (Nat.le_of_ble_eq_true rfl) d_Sr_acceptsOpening_11 (fun H locs hP hD hS => ?_)
    replace hP : va_P G.1 vwCl (ws_Sr_acceptsOpening G a_t a_t_board x_t_placeCount x_t_placesRead (0 : Int32) x_t_open x_t_lastMark) H := hP
    replace hD : va_D A (ws_Sr_acceptsOpening G a_t a_t_board x_t_placeCount x_t_placesRead (0 : Int32) x_t_open x_t_lastMark) := hD
    refine lv_aload_n hx hb d_Sr_acceptsOpening_14 rfl (lv_at hl 0 rfl) ?_
    refine lv_iconst (v := (1 : Int32)) hx hb d_Sr_acceptsOpening_15 (by decide) ?_
    refine va_put (D := G.1) (ci := 4) (v := .int (1 : Int32)) (ty := .boolean) (C := "PlayStates$StateReader") (T := TSr) (N := 6) hx hb hts iw_4 tySr tySr_ok nmSr hown hK hP hD hS 0 rfl rfl 4 (by decide) (hts _ gw_94) (fun _ h9 => h9) rfl (by decide +kernel) (by decide) (by decide) (Nat.le_of_ble_eq_true rfl) d_Sr_acceptsOpening_16 (fun H locs hP hD hS => ?_)
    replace hP : va_P G.1 vwCl (ws_Sr_acceptsOpening G a_t a_t_board x_t_placeCount x_t_placesRead (0 : Int32) (1 : Int32) x_t_lastMark) H := hP
    replace hD : va_D A (ws_Sr_acceptsOpening G a_t a_t_board x_t_placeCount x_t_placesRead (0 : Int32) (1 : Int32) x_t_lastMark) := hD
    refine lv_aload_n hx hb d_Sr_acceptsOpening_19 rfl (lv_at hl 0 rfl) ?_
    refine lv_iconst (v := (0 : Int32)) hx hb d_Sr_acceptsOpening_20 (by decide) ?_
    refine va_put (D := G.1) (ci := 4) (v := .int (0 : Int32)) (ty := .int) (C := "PlayStates$StateReader") (T := TSr) (N := 6) hx hb hts iw_4 tySr tySr_ok nmSr hown hK hP hD hS 0 rfl rfl 5 (by decide) (hts _ gw_95) (fun _ h9 => h9) rfl (by decide +kernel) (by rfl) (by rfl) (Nat.le_of_ble_eq_true rfl) d_Sr_acceptsOpening_21 (fun H locs hP hD hS => ?_)
    replace hP : va_P G.1 vwCl (ws_Sr_acceptsOpening G a_t a_t_board x_t_placeCount x_t_placesRead (0 : Int32) (1 : Int32) (0 : Int32)) H := hP
    replace hD : va_D A (ws_Sr_acceptsOpening G a_t a_t_board x_t_placeCount x_t_placesRead (0 : Int32) (1 : Int32) (0 : Int32)) := hD
    refine lv_iconst (v := (1 : Int32)) hx hb d_Sr_acceptsOpening_24 (by decide) ?_
    cases h
    exact q_zretW hx hb hr hlocks (by decide) hP hD hS d_Sr_acceptsOpening_25
  · replace h := (if_pos c1).symm.trans h
    refine lv_iconst (v := (0 : Int32)) hx hb d_Sr_acceptsOpening_7 (by decide) ?_
    cases h
    exact q_zretW hx hb hr hlocks (by decide) hP hD hS d_Sr_acceptsOpening_8

theorem d_Sr_acceptsClosing_0 : decode prog_6_method_6_code 0 = .ok (.aload_n 0, 1) := by decide +kernel
theorem d_Sr_acceptsClosing_1 : decode prog_6_method_6_code 1 = .ok (.getfield 48, 3) := by decide +kernel
theorem d_Sr_acceptsClosing_4 : decode prog_6_method_6_code 4 = .ok (.ifCond .ne 5, 3) := by decide +kernel
theorem d_Sr_acceptsClosing_7 : decode prog_6_method_6_code 7 = .ok (.iconst 0, 1) := by decide +kernel
theorem d_Sr_acceptsClosing_8 : decode prog_6_method_6_code 8 = .ok (.ireturn, 1) := by decide +kernel
theorem d_Sr_acceptsClosing_9 : decode prog_6_method_6_code 9 = .ok (.aload_n 0, 1) := by decide +kernel
theorem d_Sr_acceptsClosing_10 : decode prog_6_method_6_code 10 = .ok (.iconst 0, 1) := by decide +kernel
theorem d_Sr_acceptsClosing_11 : decode prog_6_method_6_code 11 = .ok (.putfield 31, 3) := by decide +kernel
theorem d_Sr_acceptsClosing_14 : decode prog_6_method_6_code 14 = .ok (.iconst 1, 1) := by decide +kernel
theorem d_Sr_acceptsClosing_15 : decode prog_6_method_6_code 15 = .ok (.ireturn, 1) := by decide +kernel
-- PlayStates$StateReader.acceptsClosing()Z 
def ws_Sr_acceptsClosing (G : gG) (a_t a_t_board : Nat)  (x_t_placeCount : Int32) (x_t_placesRead : Int32) (x_t_mayOpen : Int32) (x_t_open : Int32) (x_t_lastMark : Int32) : va_W := [(a_t, .inr (4, [.ref a_t_board, .int x_t_placeCount, .int x_t_placesRead, .int x_t_mayOpen, .int x_t_open, .int x_t_lastMark]))]
def f_Sr_acceptsClosing   (x_t_placeCount : Int32) (x_t_placesRead : Int32) (x_t_mayOpen : Int32) (x_t_open : Int32) (x_t_lastMark : Int32) : Option (Int32 × Int32) :=
  (if x_t_lastMark = 0 then some ((0 : Int32), x_t_open) else some ((1 : Int32), (0 : Int32)))
set_option maxHeartbeats 4000000 in
set_option maxRecDepth 100000 in
theorem c_Sr_acceptsClosing (l : Launch) (G : gG) (sz : Nat) (a_t a_t_board : Nat)   (x_t_placeCount : Int32) (x_t_placesRead : Int32) (x_t_mayOpen : Int32) (x_t_open : Int32) (x_t_lastMark : Int32) (r : Int32) (x_t_open' : Int32) (h : f_Sr_acceptsClosing x_t_placeCount x_t_placesRead x_t_mayOpen x_t_open x_t_lastMark = some (r, x_t_open'))  : cN l y_Sr_acceptsClosing w_Sr_acceptsClosing { frames := 0, cells := 0, slots := 0, locals := 0 } G sz [.ref a_t] (ws_Sr_acceptsClosing G a_t a_t_board x_t_placeCount x_t_placesRead x_t_mayOpen x_t_open x_t_lastMark) (some (.int r)) (wB G (ws_Sr_acceptsClosing G a_t a_t_board x_t_placeCount x_t_placesRead x_t_mayOpen x_t_open' x_t_lastMark)) 0 0 := by
  refine cN_ofW (cc := prog_6_method_6_code) (maxL := 1) (ret := (some .boolean)) (by decide) rfl (Nat.le_of_ble_eq_true rfl) ?_
  intro p e s m args below meth c A H locs ls hx hb hr hts hown hlocks hin hml hK hN hP hD hA hS hl
  replace hl : lv_has ls 1 [(0, .ref a_t)] := hl
  replace hown : s.vm.findClass "PlayStates$StateReader" = some m.cls := hown
  unfold f_Sr_acceptsClosing at h
  refine lv_aload_n hx hb d_Sr_acceptsClosing_0 rfl (lv_at hl 0 rfl) ?_
  refine va_get (D := G.1) (ci := 4) (v := .int x_t_lastMark) (C := "PlayStates$StateReader") (T := TSr) (N := 6) hx hb hts iw_4 hown hK hP 0 rfl rfl 5 (by decide) (hts _ gw_95) (fun _ h9 => h9) rfl d_Sr_acceptsClosing_1 ?_
  refine lv_if_ne (tgt := 9) hx hb d_Sr_acceptsClosing_4 (by decide) (fun c1 => ?_) (fun c1 => ?_)
  · replace h := (if_neg c1).symm.trans h
    refine lv_aload_n hx hb d_Sr_acceptsClosing_9 rfl (lv_at hl 0 rfl) ?_
    refine lv_iconst (v := (0 : Int32)) hx hb d_Sr_acceptsClosing_10 (by decide) ?_
    refine va_put (D := G.1) (ci := 4) (v := .int (0 : Int32)) (ty := .boolean) (C := "PlayStates$StateReader") (T := TSr) (N := 6) hx hb hts iw_4 tySr tySr_ok nmSr hown hK hP hD hS 0 rfl rfl 4 (by decide) (hts _ gw_94) (fun _ h9 => h9) rfl (by decide +kernel) (by decide) (by decide) (Nat.le_of_ble_eq_true rfl) d_Sr_acceptsClosing_11 (fun H locs hP hD hS => ?_)
    replace hP : va_P G.1 vwCl (ws_Sr_acceptsClosing G a_t a_t_board x_t_placeCount x_t_placesRead x_t_mayOpen (0 : Int32) x_t_lastMark) H := hP
    replace hD : va_D A (ws_Sr_acceptsClosing G a_t a_t_board x_t_placeCount x_t_placesRead x_t_mayOpen (0 : Int32) x_t_lastMark) := hD
    refine lv_iconst (v := (1 : Int32)) hx hb d_Sr_acceptsClosing_14 (by decide) ?_
    cases h
    exact q_zretW hx hb hr hlocks (by decide) hP hD hS d_Sr_acceptsClosing_15
  · replace h := (if_pos c1).symm.trans h
    refine lv_iconst (v := (0 : Int32)) hx hb d_Sr_acceptsClosing_7 (by decide) ?_
    cases h
    exact q_zretW hx hb hr hlocks (by decide) hP hD hS d_Sr_acceptsClosing_8

theorem gw_31 : (.initialized "PlayStates" : Cond) ∈ GW := gT 1 (by decide +kernel) (by decide +kernel)
theorem gw_201 : (.code ⟨"PlayStates", "isOneToNine", "(I)Z"⟩ prog_1_method_22_code 1 (some .boolean) : Cond) ∈ GW := gT 227 (by decide +kernel) (by decide +kernel)
theorem gw_200 : (.static ⟨"PlayStates", "isOneToNine", "(I)Z"⟩ : Cond) ∈ GW := gT 226 (by decide +kernel) (by decide +kernel)
theorem gw_194 : (.code ⟨"PlayStates$Board", "put", "(II)V"⟩ prog_2_method_5_code 3 none : Cond) ∈ GW := gT 220 (by decide +kernel) (by decide +kernel)
theorem gw_346 : (.methodLink "PlayStates$StateReader" 54 ⟨"PlayStates$Board", "put", "(II)V"⟩ : Cond) ∈ GW := gT 381 (by decide +kernel) (by decide +kernel)
theorem gw_192 : (.instanceMethod ⟨"PlayStates$Board", "put", "(II)V"⟩ : Cond) ∈ GW := gT 218 (by decide +kernel) (by decide +kernel)
theorem gw_193 : (.selects "PlayStates$Board" ⟨"PlayStates$Board", "put", "(II)V"⟩ ⟨"PlayStates$Board", "put", "(II)V"⟩ : Cond) ∈ GW := gT 219 (by decide +kernel) (by decide +kernel)
theorem d_Sr_acceptsMark_0 : decode prog_6_method_7_code 0 = .ok (.iload_n 1, 1) := by decide +kernel
theorem d_Sr_acceptsMark_1 : decode prog_6_method_7_code 1 = .ok (.invokestatic 51, 3) := by decide +kernel
theorem d_Sr_acceptsMark_4 : decode prog_6_method_7_code 4 = .ok (.ifCond .eq 11, 3) := by decide +kernel
theorem d_Sr_acceptsMark_7 : decode prog_6_method_7_code 7 = .ok (.iload_n 1, 1) := by decide +kernel
theorem d_Sr_acceptsMark_8 : decode prog_6_method_7_code 8 = .ok (.aload_n 0, 1) := by decide +kernel
theorem d_Sr_acceptsMark_9 : decode prog_6_method_7_code 9 = .ok (.getfield 48, 3) := by decide +kernel
theorem d_Sr_acceptsMark_12 : decode prog_6_method_7_code 12 = .ok (.if_icmp .gt 5, 3) := by decide +kernel
theorem d_Sr_acceptsMark_15 : decode prog_6_method_7_code 15 = .ok (.iconst 0, 1) := by decide +kernel
theorem d_Sr_acceptsMark_16 : decode prog_6_method_7_code 16 = .ok (.ireturn, 1) := by decide +kernel
theorem d_Sr_acceptsMark_17 : decode prog_6_method_7_code 17 = .ok (.aload_n 0, 1) := by decide +kernel
theorem d_Sr_acceptsMark_18 : decode prog_6_method_7_code 18 = .ok (.getfield 9, 3) := by decide +kernel
theorem d_Sr_acceptsMark_21 : decode prog_6_method_7_code 21 = .ok (.aload_n 0, 1) := by decide +kernel
theorem d_Sr_acceptsMark_22 : decode prog_6_method_7_code 22 = .ok (.getfield 24, 3) := by decide +kernel
theorem d_Sr_acceptsMark_25 : decode prog_6_method_7_code 25 = .ok (.iconst 1, 1) := by decide +kernel
theorem d_Sr_acceptsMark_26 : decode prog_6_method_7_code 26 = .ok (.isub, 1) := by decide +kernel
theorem d_Sr_acceptsMark_27 : decode prog_6_method_7_code 27 = .ok (.bipush 10, 2) := by decide +kernel
theorem d_Sr_acceptsMark_29 : decode prog_6_method_7_code 29 = .ok (.iload_n 1, 1) := by decide +kernel
theorem d_Sr_acceptsMark_30 : decode prog_6_method_7_code 30 = .ok (.iadd, 1) := by decide +kernel
theorem d_Sr_acceptsMark_31 : decode prog_6_method_7_code 31 = .ok (.invokevirtual 54, 3) := by decide +kernel
theorem d_Sr_acceptsMark_34 : decode prog_6_method_7_code 34 = .ok (.aload_n 0, 1) := by decide +kernel
theorem d_Sr_acceptsMark_35 : decode prog_6_method_7_code 35 = .ok (.iload_n 1, 1) := by decide +kernel
theorem d_Sr_acceptsMark_36 : decode prog_6_method_7_code 36 = .ok (.putfield 48, 3) := by decide +kernel
theorem d_Sr_acceptsMark_39 : decode prog_6_method_7_code 39 = .ok (.iconst 1, 1) := by decide +kernel
theorem d_Sr_acceptsMark_40 : decode prog_6_method_7_code 40 = .ok (.ireturn, 1) := by decide +kernel
-- PlayStates$StateReader.acceptsMark(I)Z 
def ws_Sr_acceptsMark (G : gG) (a_t a_t_board a_t_board_entries a_t_board_markBits : Nat) (n : Nat) (x_t_placeCount : Int32) (x_t_placesRead : Int32) (x_t_mayOpen : Int32) (x_t_open : Int32) (x_t_lastMark : Int32) (x_t_board_entries : Nat → Int32) (x_t_board_markBits : Nat → Int32) : va_W := [(a_t, .inr (4, [.ref a_t_board, .int x_t_placeCount, .int x_t_placesRead, .int x_t_mayOpen, .int x_t_open, .int x_t_lastMark])), (a_t_board, .inr (0, [.ref a_t_board_entries, .ref a_t_board_markBits])), (a_t_board_entries, .inl (G.2 0, n, .inl x_t_board_entries)), (a_t_board_markBits, .inl (G.2 0, n, .inl x_t_board_markBits))]
def f_Sr_acceptsMark (n : Nat) (p0 : Int32) (x_t_placeCount : Int32) (x_t_placesRead : Int32) (x_t_mayOpen : Int32) (x_t_open : Int32) (x_t_lastMark : Int32) (x_t_board_entries : Nat → Int32) (x_t_board_markBits : Nat → Int32) : Option (Int32 × Int32 × (Nat → Int32) × (Nat → Int32)) :=
  ((f_PS_isOneToNine p0).bind fun y1 => (if y1 = 0 then some ((0 : Int32), x_t_lastMark, x_t_board_entries, x_t_board_markBits) else (if x_t_lastMark < p0 then ((f_Bd_put n (x_t_placesRead - (1 : Int32)) ((10 : Int32) + p0) x_t_board_entries x_t_board_markBits).bind fun y4 => some ((1 : Int32), p0, y4.1, y4.2)) else some ((0 : Int32), x_t_lastMark, x_t_board_entries, x_t_board_markBits))))
set_option maxHeartbeats 4000000 in
set_option maxRecDepth 100000 in
theorem c_Sr_acceptsMark (l : Launch) (G : gG) (sz : Nat) (a_t a_t_board a_t_board_entries a_t_board_markBits : Nat) (n : Nat) (p0 : Int32) (x_t_placeCount : Int32) (x_t_placesRead : Int32) (x_t_mayOpen : Int32) (x_t_open : Int32) (x_t_lastMark : Int32) (x_t_board_entries : Nat → Int32) (x_t_board_markBits : Nat → Int32) (r : Int32) (x_t_lastMark' : Int32) (x_t_board_entries' : Nat → Int32) (x_t_board_markBits' : Nat → Int32) (h : f_Sr_acceptsMark n p0 x_t_placeCount x_t_placesRead x_t_mayOpen x_t_open x_t_lastMark x_t_board_entries x_t_board_markBits = some (r, x_t_lastMark', x_t_board_entries', x_t_board_markBits'))  : cN l y_Sr_acceptsMark w_Sr_acceptsMark { frames := 1, cells := 0, slots := 0, locals := 22 } G sz [.ref a_t, .int p0] (ws_Sr_acceptsMark G a_t a_t_board a_t_board_entries a_t_board_markBits n x_t_placeCount x_t_placesRead x_t_mayOpen x_t_open x_t_lastMark x_t_board_entries x_t_board_markBits) (some (.int r)) (wB G (ws_Sr_acceptsMark G a_t a_t_board a_t_board_entries a_t_board_markBits n x_t_placeCount x_t_placesRead x_t_mayOpen x_t_open x_t_lastMark' x_t_board_entries' x_t_board_markBits')) 0 0 := by
  refine cN_ofW (cc := prog_6_method_7_code) (maxL := 2) (ret := (some .boolean)) (by decide) rfl (Nat.le_of_ble_eq_true rfl) ?_
  intro p e s m args below meth c A H locs ls hx hb hr hts hown hlocks hin hml hK hN hP hD hA hS hl
  replace hl : lv_has ls 2 [(0, .ref a_t), (1, .int p0)] := hl
  replace hown : s.vm.findClass "PlayStates$StateReader" = some m.cls := hown
  unfold f_Sr_acceptsMark at h
  refine lv_iload_n hx hb d_Sr_acceptsMark_0 rfl (lv_at hl 1 rfl) ?_
  obtain ⟨y1, hy1, h⟩ := o_bind h
  have hPc := hP.sub (ws' := (ws_PS_isOneToNine G)) [] rfl
  have hDc := hD.sub (ws' := (ws_PS_isOneToNine G)) [] (by decide) rfl
  have hFc := va_free (wc := (ws_PS_isOneToNine G)) hD hS hA [] rfl
  refine q_call1 (va_runSN (As := [.int p0]) (rest := []) ⟨hx, hb, hml, hown, hts⟩ (c_PS_isOneToNine l G H.size p0 _ hy1) ⟨va_cnB 1 hts (gC gw_201) rfl rfl rfl (hN.2.1 ("PlayStates$StateReader", 51, y_PS_isOneToNine, "PlayStates") (by decide +kernel)) (hts _ gw_31) (by decide +kernel) ⟨Nat.le_of_ble_eq_true rfl, Nat.le_of_ble_eq_true rfl⟩, hts _ gw_200, trivial⟩ (pS hK hN hPc hDc) rfl rfl hl.1 rfl (lv_room (Nat.le_of_ble_eq_true rfl)) d_Sr_acceptsMark_1 ⟨Nat.le_of_ble_eq_true rfl, Nat.le_of_ble_eq_true rfl⟩) hS (fun q _ h => hFc q h) hFc (fun H1 locs hB hz hk hS => ?_)
  obtain ⟨hP, hD⟩ := q_join (wr := [(a_t, .inr (4, [.ref a_t_board, .int x_t_placeCount, .int x_t_placesRead, .int x_t_mayOpen, .int x_t_open, .int x_t_lastMark])), (a_t_board, .inr (0, [.ref a_t_board_entries, .ref a_t_board_markBits])), (a_t_board_entries, .inl (G.2 0, n, .inl x_t_board_entries)), (a_t_board_markBits, .inl (G.2 0, n, .inl x_t_board_markBits))]) (wn := (ws_Sr_acceptsMark G a_t a_t_board a_t_board_entries a_t_board_markBits n x_t_placeCount x_t_placesRead x_t_mayOpen x_t_open x_t_lastMark x_t_board_entries x_t_board_markBits)) hP hD [] [0, 1, 2, 3] [0, 1, 2, 3] rfl rfl (by decide) (by decide) rfl (by decide) hk hFc hB.1 hB.2
  generalize H1 = H at hP hS ⊢
  replace hP : va_P G.1 vwCl (ws_Sr_acceptsMark G a_t a_t_board a_t_board_entries a_t_board_markBits n x_t_placeCount x_t_placesRead x_t_mayOpen x_t_open x_t_lastMark x_t_board_entries x_t_board_markBits) H := hP
  replace hD : va_D A (ws_Sr_acceptsMark G a_t a_t_board a_t_board_entries a_t_board_markBits n x_t_placeCount x_t_placesRead x_t_mayOpen x_t_open x_t_lastMark x_t_board_entries x_t_board_markBits) := hD
  refine lv_if_eq (tgt := 15) hx hb d_Sr_acceptsMark_4 (by decide) (fun c2 => ?_) (fun c2 => ?_)
  · replace h := (if_pos c2).symm.trans h
    refine lv_iconst (v := (0 : Int32)) hx hb d_Sr_acceptsMark_15 (by decide) ?_
    cases h
    exact q_zretW hx hb hr hlocks (by decide) hP hD hS d_Sr_acceptsMark_16
  · replace h := (if_neg c2).symm.trans h
    refine lv_iload_n hx hb d_Sr_acceptsMark_7 rfl (lv_at hl 1 rfl) ?_
    refine lv_aload_n hx hb d_Sr_acceptsMark_8 rfl (lv_at hl 0 rfl) ?_
    refine va_get (D := G.1) (ci := 4) (v := .int x_t_lastMark) (C := "PlayStates$StateReader") (T := TSr) (N := 6) hx hb hts iw_4 hown hK hP 0 rfl rfl 5 (by decide) (hts _ gw_95) (fun _ h9 => h9) rfl d_Sr_acceptsMark_9 ?_
    refine lv_icmp_gt (tgt := 17) hx hb d_Sr_acceptsMark_12 (by decide) (fun c3 => ?_) (fun c3 => ?_)
    · replace h := (if_pos c3).symm.trans h
      refine lv_aload_n hx hb d_Sr_acceptsMark_17 rfl (lv_at hl 0 rfl) ?_
      refine va_get (D := G.1) (ci := 4) (v := .ref a_t_board) (C := "PlayStates$StateReader") (T := TSr) (N := 6) hx hb hts iw_4 hown hK hP 0 rfl rfl 0 (by decide) (hts _ gw_90) (fun _ h9 => h9) rfl d_Sr_acceptsMark_18 ?_
      refine lv_aload_n hx hb d_Sr_acceptsMark_21 rfl (lv_at hl 0 rfl) ?_
      refine va_get (D := G.1) (ci := 4) (v := .int x_t_placesRead) (C := "PlayStates$StateReader") (T := TSr) (N := 6) hx hb hts iw_4 hown hK hP 0 rfl rfl 2 (by decide) (hts _ gw_92) (fun _ h9 => h9) rfl d_Sr_acceptsMark_22 ?_
      refine lv_iconst (v := (1 : Int32)) hx hb d_Sr_acceptsMark_25 (by decide) ?_
      refine lv_isub hx hb d_Sr_acceptsMark_26 ?_
      refine lv_bipush (v := (10 : Int32)) hx hb d_Sr_acceptsMark_27 (by decide) ?_
      refine lv_iload_n hx hb d_Sr_acceptsMark_29 rfl (lv_at hl 1 rfl) ?_
      refine lv_iadd hx hb d_Sr_acceptsMark_30 ?_
      obtain ⟨y4, hy4, h⟩ := o_bind h
      have hPc := hP.sub (ws' := (ws_Bd_put G a_t_board a_t_board_entries a_t_board_markBits n x_t_board_entries x_t_board_markBits)) [1, 2, 3] rfl
      have hDc := hD.sub (ws' := (ws_Bd_put G a_t_board a_t_board_entries a_t_board_markBits n x_t_board_entries x_t_board_markBits)) [1, 2, 3] (by decide) rfl
      have hFc := va_free (wc := (ws_Bd_put G a_t_board a_t_board_entries a_t_board_markBits n x_t_board_entries x_t_board_markBits)) hD hS hA [1, 2, 3] rfl
      refine q_call0 (va_runV (As := [.int (x_t_placesRead - (1 : Int32)), .int ((10 : Int32) + p0)]) (rest := []) ⟨hx, hb, hml, hown, hts⟩ (c_Bd_put l G H.size a_t_board a_t_board_entries a_t_board_markBits n (x_t_placesRead - (1 : Int32)) ((10 : Int32) + p0) x_t_board_entries x_t_board_markBits _ _ hy4) (cwV 2 hts (gV gw_346 gw_192 gw_193 gw_34 gw_194) rfl rfl rfl (by decide +kernel) ⟨Nat.le_of_ble_eq_true rfl, Nat.le_of_ble_eq_true rfl⟩) (pV hK hN hPc hDc (ci := 0) (q0 := 0) rfl rfl) rfl rfl hl.1 rfl (lv_room (Nat.le_of_ble_eq_true rfl)) d_Sr_acceptsMark_31 ⟨Nat.le_of_ble_eq_true rfl, Nat.le_of_ble_eq_true rfl⟩) hS (fun q _ h => hFc q h) hFc (fun H1 locs hB hz hk hS => ?_)
      obtain ⟨hP, hD⟩ := q_join (wr := [(a_t, .inr (4, [.ref a_t_board, .int x_t_placeCount, .int x_t_placesRead, .int x_t_mayOpen, .int x_t_open, .int x_t_lastMark]))]) (wn := (ws_Sr_acceptsMark G a_t a_t_board a_t_board_entries a_t_board_markBits n x_t_placeCount x_t_placesRead x_t_mayOpen x_t_open x_t_lastMark y4.1 y4.2)) hP hD [1, 2, 3] [0] [0, 1, 2, 3] rfl rfl (by decide) (by decide) rfl (by decide) hk hFc hB.1 hB.2
      generalize H1 = H at hP hS ⊢
      replace hP : va_P G.1 vwCl (ws_Sr_acceptsMark G a_t a_t_board a_t_board_entries a_t_board_markBits n x_t_placeCount x_t_placesRead x_t_mayOpen x_t_open x_t_lastMark y4.1 y4.2) H := hP
      replace hD : va_D A (ws_Sr_acceptsMark G a_t a_t_board a_t_board_entries a_t_board_markBits n x_t_placeCount x_t_placesRead x_t_mayOpen x_t_open x_t_lastMark y4.1 y4.2) := hD
      refine lv_aload_n hx hb d_Sr_acceptsMark_34 rfl (lv_at hl 0 rfl) ?_
      refine lv_iload_n hx hb d_Sr_acceptsMark_35 rfl (lv_at hl 1 rfl) ?_
      refine va_put (D := G.1) (ci := 4) (v := .int p0) (ty := .int) (C := "PlayStates$StateReader") (T := TSr) (N := 6) hx hb hts iw_4 tySr tySr_ok nmSr hown hK hP hD hS 0 rfl rfl 5 (by decide) (hts _ gw_95) (fun _ h9 => h9) rfl (by decide +kernel) (by rfl) (by rfl) (Nat.le_of_ble_eq_true rfl) d_Sr_acceptsMark_36 (fun H locs hP hD hS => ?_)
      replace hP : va_P G.1 vwCl (ws_Sr_acceptsMark G a_t a_t_board a_t_board_entries a_t_board_markBits n x_t_placeCount x_t_placesRead x_t_mayOpen x_t_open p0 y4.1 y4.2) H := hP
      replace hD : va_D A (ws_Sr_acceptsMark G a_t a_t_board a_t_board_entries a_t_board_markBits n x_t_placeCount x_t_placesRead x_t_mayOpen x_t_open p0 y4.1 y4.2) := hD
      refine lv_iconst (v := (1 : Int32)) hx hb d_Sr_acceptsMark_39 (by decide) ?_
      cases h
      exact q_zretW hx hb hr hlocks (by decide) hP hD hS d_Sr_acceptsMark_40
    · replace h := (if_neg c3).symm.trans h
      refine lv_iconst (v := (0 : Int32)) hx hb d_Sr_acceptsMark_15 (by decide) ?_
      cases h
      exact q_zretW hx hb hr hlocks (by decide) hP hD hS d_Sr_acceptsMark_16

theorem d_Sr_acceptsEntry_0 : decode prog_6_method_8_code 0 = .ok (.iload_n 1, 1) := by decide +kernel
theorem d_Sr_acceptsEntry_1 : decode prog_6_method_8_code 1 = .ok (.bipush 46, 2) := by decide +kernel
theorem d_Sr_acceptsEntry_3 : decode prog_6_method_8_code 3 = .ok (.if_icmp .ne 7, 3) := by decide +kernel
theorem d_Sr_acceptsEntry_6 : decode prog_6_method_8_code 6 = .ok (.iconst 0, 1) := by decide +kernel
theorem d_Sr_acceptsEntry_7 : decode prog_6_method_8_code 7 = .ok (.goto 7, 3) := by decide +kernel
theorem d_Sr_acceptsEntry_10 : decode prog_6_method_8_code 10 = .ok (.iload_n 1, 1) := by decide +kernel
theorem d_Sr_acceptsEntry_11 : decode prog_6_method_8_code 11 = .ok (.bipush 48, 2) := by decide +kernel
theorem d_Sr_acceptsEntry_13 : decode prog_6_method_8_code 13 = .ok (.isub, 1) := by decide +kernel
theorem d_Sr_acceptsEntry_14 : decode prog_6_method_8_code 14 = .ok (.istore_n 2, 1) := by decide +kernel
theorem d_Sr_acceptsEntry_15 : decode prog_6_method_8_code 15 = .ok (.aload_n 0, 1) := by decide +kernel
theorem d_Sr_acceptsEntry_16 : decode prog_6_method_8_code 16 = .ok (.getfield 24, 3) := by decide +kernel
theorem d_Sr_acceptsEntry_19 : decode prog_6_method_8_code 19 = .ok (.aload_n 0, 1) := by decide +kernel
theorem d_Sr_acceptsEntry_20 : decode prog_6_method_8_code 20 = .ok (.getfield 15, 3) := by decide +kernel
theorem d_Sr_acceptsEntry_23 : decode prog_6_method_8_code 23 = .ok (.if_icmp .ge 16, 3) := by decide +kernel
theorem d_Sr_acceptsEntry_26 : decode prog_6_method_8_code 26 = .ok (.iload_n 1, 1) := by decide +kernel
theorem d_Sr_acceptsEntry_27 : decode prog_6_method_8_code 27 = .ok (.bipush 46, 2) := by decide +kernel
theorem d_Sr_acceptsEntry_29 : decode prog_6_method_8_code 29 = .ok (.if_icmp .eq 12, 3) := by decide +kernel
theorem d_Sr_acceptsEntry_32 : decode prog_6_method_8_code 32 = .ok (.iload_n 2, 1) := by decide +kernel
theorem d_Sr_acceptsEntry_33 : decode prog_6_method_8_code 33 = .ok (.invokestatic 51, 3) := by decide +kernel
theorem d_Sr_acceptsEntry_36 : decode prog_6_method_8_code 36 = .ok (.ifCond .ne 5, 3) := by decide +kernel
theorem d_Sr_acceptsEntry_39 : decode prog_6_method_8_code 39 = .ok (.iconst 0, 1) := by decide +kernel
theorem d_Sr_acceptsEntry_40 : decode prog_6_method_8_code 40 = .ok (.ireturn, 1) := by decide +kernel
theorem d_Sr_acceptsEntry_41 : decode prog_6_method_8_code 41 = .ok (.aload_n 0, 1) := by decide +kernel
theorem d_Sr_acceptsEntry_42 : decode prog_6_method_8_code 42 = .ok (.getfield 9, 3) := by decide +kernel
theorem d_Sr_acceptsEntry_45 : decode prog_6_method_8_code 45 = .ok (.aload_n 0, 1) := by decide +kernel
theorem d_Sr_acceptsEntry_46 : decode prog_6_method_8_code 46 = .ok (.getfield 24, 3) := by decide +kernel
theorem d_Sr_acceptsEntry_49 : decode prog_6_method_8_code 49 = .ok (.iload_n 2, 1) := by decide +kernel
theorem d_Sr_acceptsEntry_50 : decode prog_6_method_8_code 50 = .ok (.invokevirtual 54, 3) := by decide +kernel
theorem d_Sr_acceptsEntry_53 : decode prog_6_method_8_code 53 = .ok (.aload_n 0, 1) := by decide +kernel
theorem d_Sr_acceptsEntry_54 : decode prog_6_method_8_code 54 = .ok (.dup, 1) := by decide +kernel
theorem d_Sr_acceptsEntry_55 : decode prog_6_method_8_code 55 = .ok (.getfield 24, 3) := by decide +kernel
theorem d_Sr_acceptsEntry_58 : decode prog_6_method_8_code 58 = .ok (.iconst 1, 1) := by decide +kernel
theorem d_Sr_acceptsEntry_59 : decode prog_6_method_8_code 59 = .ok (.iadd, 1) := by decide +kernel
theorem d_Sr_acceptsEntry_60 : decode prog_6_method_8_code 60 = .ok (.putfield 24, 3) := by decide +kernel
theorem d_Sr_acceptsEntry_63 : decode prog_6_method_8_code 63 = .ok (.aload_n 0, 1) := by decide +kernel
theorem d_Sr_acceptsEntry_64 : decode prog_6_method_8_code 64 = .ok (.iconst 1, 1) := by decide +kernel
theorem d_Sr_acceptsEntry_65 : decode prog_6_method_8_code 65 = .ok (.putfield 27, 3) := by decide +kernel
theorem d_Sr_acceptsEntry_68 : decode prog_6_method_8_code 68 = .ok (.iconst 1, 1) := by decide +kernel
theorem d_Sr_acceptsEntry_69 : decode prog_6_method_8_code 69 = .ok (.ireturn, 1) := by decide +kernel
-- PlayStates$StateReader.acceptsEntry(I)Z 
def ws_Sr_acceptsEntry (G : gG) (a_t a_t_board a_t_board_entries a_t_board_markBits : Nat) (n : Nat) (x_t_placeCount : Int32) (x_t_placesRead : Int32) (x_t_mayOpen : Int32) (x_t_open : Int32) (x_t_lastMark : Int32) (x_t_board_entries : Nat → Int32) (x_t_board_markBits : Nat → Int32) : va_W := [(a_t, .inr (4, [.ref a_t_board, .int x_t_placeCount, .int x_t_placesRead, .int x_t_mayOpen, .int x_t_open, .int x_t_lastMark])), (a_t_board, .inr (0, [.ref a_t_board_entries, .ref a_t_board_markBits])), (a_t_board_entries, .inl (G.2 0, n, .inl x_t_board_entries)), (a_t_board_markBits, .inl (G.2 0, n, .inl x_t_board_markBits))]
def f_Sr_acceptsEntry (n : Nat) (p0 : Int32) (x_t_placeCount : Int32) (x_t_placesRead : Int32) (x_t_mayOpen : Int32) (x_t_open : Int32) (x_t_lastMark : Int32) (x_t_board_entries : Nat → Int32) (x_t_board_markBits : Nat → Int32) : Option (Int32 × Int32 × Int32 × (Nat → Int32) × (Nat → Int32)) :=
  (if p0 = (46 : Int32) then (if x_t_placeCount ≤ x_t_placesRead then some ((0 : Int32), x_t_placesRead, x_t_mayOpen, x_t_board_entries, x_t_board_markBits) else (if p0 = (46 : Int32) then ((f_Bd_put n x_t_placesRead (0 : Int32) x_t_board_entries x_t_board_markBits).bind fun y10 => some ((1 : Int32), (x_t_placesRead + (1 : Int32)), (1 : Int32), y10.1, y10.2)) else ((f_PS_isOneToNine (0 : Int32)).bind fun y11 => (if y11 = 0 then some ((0 : Int32), x_t_placesRead, x_t_mayOpen, x_t_board_entries, x_t_board_markBits) else ((f_Bd_put n x_t_placesRead (0 : Int32) x_t_board_entries x_t_board_markBits).bind fun y13 => some ((1 : Int32), (x_t_placesRead + (1 : Int32)), (1 : Int32), y13.1, y13.2)))))) else (if x_t_placeCount ≤ x_t_placesRead then some ((0 : Int32), x_t_placesRead, x_t_mayOpen, x_t_board_entries, x_t_board_markBits) else (if p0 = (46 : Int32) then ((f_Bd_put n x_t_placesRead (p0 - (48 : Int32)) x_t_board_entries x_t_board_markBits).bind fun y4 => some ((1 : Int32), (x_t_placesRead + (1 : Int32)), (1 : Int32), y4.1, y4.2)) else ((f_PS_isOneToNine (p0 - (48 : Int32))).bind fun y5 => (if y5 = 0 then some ((0 : Int32), x_t_placesRead, x_t_mayOpen, x_t_board_entries, x_t_board_markBits) else ((f_Bd_put n x_t_placesRead (p0 - (48 : Int32)) x_t_board_entries x_t_board_markBits).bind fun y7 => some ((1 : Int32), (x_t_placesRead + (1 : Int32)), (1 : Int32), y7.1, y7.2)))))))
set_option maxHeartbeats 4000000 in
set_option maxRecDepth 100000 in
theorem c_Sr_acceptsEntry (l : Launch) (G : gG) (sz : Nat) (a_t a_t_board a_t_board_entries a_t_board_markBits : Nat) (n : Nat) (p0 : Int32) (x_t_placeCount : Int32) (x_t_placesRead : Int32) (x_t_mayOpen : Int32) (x_t_open : Int32) (x_t_lastMark : Int32) (x_t_board_entries : Nat → Int32) (x_t_board_markBits : Nat → Int32) (r : Int32) (x_t_placesRead' : Int32) (x_t_mayOpen' : Int32) (x_t_board_entries' : Nat → Int32) (x_t_board_markBits' : Nat → Int32) (h : f_Sr_acceptsEntry n p0 x_t_placeCount x_t_placesRead x_t_mayOpen x_t_open x_t_lastMark x_t_board_entries x_t_board_markBits = some (r, x_t_placesRead', x_t_mayOpen', x_t_board_entries', x_t_board_markBits'))  : cN l y_Sr_acceptsEntry w_Sr_acceptsEntry { frames := 1, cells := 0, slots := 0, locals := 22 } G sz [.ref a_t, .int p0] (ws_Sr_acceptsEntry G a_t a_t_board a_t_board_entries a_t_board_markBits n x_t_placeCount x_t_placesRead x_t_mayOpen x_t_open x_t_lastMark x_t_board_entries x_t_board_markBits) (some (.int r)) (wB G (ws_Sr_acceptsEntry G a_t a_t_board a_t_board_entries a_t_board_markBits n x_t_placeCount x_t_placesRead' x_t_mayOpen' x_t_open x_t_lastMark x_t_board_entries' x_t_board_markBits')) 0 0 := by
  refine cN_ofW (cc := prog_6_method_8_code) (maxL := 3) (ret := (some .boolean)) (by decide) rfl (Nat.le_of_ble_eq_true rfl) ?_
  intro p e s m args below meth c A H locs ls hx hb hr hts hown hlocks hin hml hK hN hP hD hA hS hl
  replace hl : lv_has ls 3 [(0, .ref a_t), (1, .int p0)] := hl
  replace hown : s.vm.findClass "PlayStates$StateReader" = some m.cls := hown
  unfold f_Sr_acceptsEntry at h
  refine lv_iload_n hx hb d_Sr_acceptsEntry_0 rfl (lv_at hl 1 rfl) ?_
  refine lv_bipush (v := (46 : Int32)) hx hb d_Sr_acceptsEntry_1 (by decide) ?_
  refine lv_icmp_ne (tgt := 10) hx hb d_Sr_acceptsEntry_3 (by decide) (fun c1 => ?_) (fun c1 => ?_)
  · replace h := (if_neg c1).symm.trans h
    refine lv_iload_n hx hb d_Sr_acceptsEntry_10 rfl (lv_at hl 1 rfl) ?_
    refine lv_bipush (v := (48 : Int32)) hx hb d_Sr_acceptsEntry_11 (by decide) ?_
    refine lv_isub hx hb d_Sr_acceptsEntry_13 ?_
    refine lv_istore_n (lv' := [(2, .int (p0 - (48 : Int32))), (0, .ref a_t), (1, .int p0)]) hx hb d_Sr_acceptsEntry_14 rfl hl (by decide) rfl (fun ls hl => ?_)
    refine lv_aload_n hx hb d_Sr_acceptsEntry_15 rfl (lv_at hl 1 rfl) ?_
    refine va_get (D := G.1) (ci := 4) (v := .int x_t_placesRead) (C := "PlayStates$StateReader") (T := TSr) (N := 6) hx hb hts iw_4 hown hK hP 0 rfl rfl 2 (by decide) (hts _ gw_92) (fun _ h9 => h9) rfl d_Sr_acceptsEntry_16 ?_
    refine lv_aload_n hx hb d_Sr_acceptsEntry_19 rfl (lv_at hl 1 rfl) ?_
    refine va_get (D := G.1) (ci := 4) (v := .int x_t_placeCount) (C := "PlayStates$StateReader") (T := TSr) (N := 6) hx hb hts iw_4 hown hK hP 0 rfl rfl 1 (by decide) (hts _ gw_91) (fun _ h9 => h9) rfl d_Sr_acceptsEntry_20 ?_
    refine lv_icmp_ge (tgt := 39) hx hb d_Sr_acceptsEntry_23 (by decide) (fun c2 => ?_) (fun c2 => ?_)
    · replace h := (if_pos c2).symm.trans h
      refine lv_iconst (v := (0 : Int32)) hx hb d_Sr_acceptsEntry_39 (by decide) ?_
      cases h
      exact q_zretW hx hb hr hlocks (by decide) hP hD hS d_Sr_acceptsEntry_40
    · replace h := (if_neg c2).symm.trans h
      refine lv_iload_n hx hb d_Sr_acceptsEntry_26 rfl (lv_at hl 2 rfl) ?_
      refine lv_bipush (v := (46 : Int32)) hx hb d_Sr_acceptsEntry_27 (by decide) ?_
      refine lv_icmp_eq (tgt := 41) hx hb d_Sr_acceptsEntry_29 (by decide) (fun c3 => ?_) (fun c3 => ?_)
      · replace h := (if_pos c3).symm.trans h
        refine lv_aload_n hx hb d_Sr_acceptsEntry_41 rfl (lv_at hl 1 rfl) ?_
        refine va_get (D := G.1) (ci := 4) (v := .ref a_t_board) (C := "PlayStates$StateReader") (T := TSr) (N := 6) hx hb hts iw_4 hown hK hP 0 rfl rfl 0 (by decide) (hts _ gw_90) (fun _ h9 => h9) rfl d_Sr_acceptsEntry_42 ?_
        refine lv_aload_n hx hb d_Sr_acceptsEntry_45 rfl (lv_at hl 1 rfl) ?_
        refine va_get (D := G.1) (ci := 4) (v := .int x_t_placesRead) (C := "PlayStates$StateReader") (T := TSr) (N := 6) hx hb hts iw_4 hown hK hP 0 rfl rfl 2 (by decide) (hts _ gw_92) (fun _ h9 => h9) rfl d_Sr_acceptsEntry_46 ?_
        refine lv_iload_n hx hb d_Sr_acceptsEntry_49 rfl (lv_at hl 0 rfl) ?_
        obtain ⟨y4, hy4, h⟩ := o_bind h
        have hPc := hP.sub (ws' := (ws_Bd_put G a_t_board a_t_board_entries a_t_board_markBits n x_t_board_entries x_t_board_markBits)) [1, 2, 3] rfl
        have hDc := hD.sub (ws' := (ws_Bd_put G a_t_board a_t_board_entries a_t_board_markBits n x_t_board_entries x_t_board_markBits)) [1, 2, 3] (by decide) rfl
        have hFc := va_free (wc := (ws_Bd_put G a_t_board a_t_board_entries a_t_board_markBits n x_t_board_entries x_t_board_markBits)) hD hS hA [1, 2, 3] rfl
        refine q_call0 (va_runV (As := [.int x_t_placesRead, .int (p0 - (48 : Int32))]) (rest := []) ⟨hx, hb, hml, hown, hts⟩ (c_Bd_put l G H.size a_t_board a_t_board_entries a_t_board_markBits n x_t_placesRead (p0 - (48 : Int32)) x_t_board_entries x_t_board_markBits _ _ hy4) (cwV 2 hts (gV gw_346 gw_192 gw_193 gw_34 gw_194) rfl rfl rfl (by decide +kernel) ⟨Nat.le_of_ble_eq_true rfl, Nat.le_of_ble_eq_true rfl⟩) (pV hK hN hPc hDc (ci := 0) (q0 := 0) rfl rfl) rfl rfl hl.1 rfl (lv_room (Nat.le_of_ble_eq_true rfl)) d_Sr_acceptsEntry_50 ⟨Nat.le_of_ble_eq_true rfl, Nat.le_of_ble_eq_true rfl⟩) hS (fun q _ h => hFc q h) hFc (fun H1 locs hB hz hk hS => ?_)
        obtain ⟨hP, hD⟩ := q_join (wr := [(a_t, .inr (4, [.ref a_t_board, .int x_t_placeCount, .int x_t_placesRead, .int x_t_mayOpen, .int x_t_open, .int x_t_lastMark]))]) (wn := (ws_Sr_acceptsEntry G a_t a_t_board a_t_board_entries a_t_board_markBits n x_t_placeCount x_t_placesRead x_t_mayOpen x_t_open x_t_lastMark y4.1 y4.2)) hP hD [1, 2, 3] [0] [0, 1, 2, 3] rfl rfl (by decide) (by decide) rfl (by decide) hk hFc hB.1 hB.2
        generalize H1 = H at hP hS ⊢
        replace hP : va_P G.1 vwCl (ws_Sr_acceptsEntry G a_t a_t_board a_t_board_entries a_t_board_markBits n x_t_placeCount x_t_placesRead x_t_mayOpen x_t_open x_t_lastMark y4.1 y4.2) H := hP
        replace hD : va_D A (ws_Sr_acceptsEntry G a_t a_t_board a_t_board_entries a_t_board_markBits n x_t_placeCount x_t_placesRead x_t_mayOpen x_t_open x_t_lastMark y4.1 y4.2) := hD
        refine lv_aload_n hx hb d_Sr_acceptsEntry_53 rfl (lv_at hl 1 rfl) ?_
        refine lv_dup hx hb d_Sr_acceptsEntry_54 rfl ?_
        refine va_get (D := G.1) (ci := 4) (v := .int x_t_placesRead) (C := "PlayStates$StateReader") (T := TSr) (N := 6) hx hb hts iw_4 hown hK hP 0 rfl rfl 2 (by decide) (hts _ gw_92) (fun _ h9 => h9) rfl d_Sr_acceptsEntry_55 ?_
        refine lv_iconst (v := (1 : Int32)) hx hb d_Sr_acceptsEntry_58 (by decide) ?_
        refine lv_iadd hx hb d_Sr_acceptsEntry_59 ?_
        refine va_put (D := G.1) (ci := 4) (v := .int (x_t_placesRead + (1 : Int32))) (ty := .int) (C := "PlayStates$StateReader") (T := TSr) (N := 6) hx hb hts iw_4 tySr tySr_ok nmSr hown hK hP hD hS 0 rfl rfl 2 (by decide) (hts _ gw_92) (fun _ h9 => h9) rfl (by decide +kernel) (by rfl) (by rfl) (Nat.le_of_ble_eq_true rfl) d_Sr_acceptsEntry_60 (fun H locs hP hD hS => ?_)
        replace hP : va_P G.1 vwCl (ws_Sr_acceptsEntry G a_t a_t_board a_t_board_entries a_t_board_markBits n x_t_placeCount (x_t_placesRead + (1 : Int32)) x_t_mayOpen x_t_open x_t_lastMark y4.1 y4.2) H := hP
        replace hD : va_D A (ws_Sr_acceptsEntry G a_t a_t_board a_t_board_entries a_t_board_markBits n x_t_placeCount (x_t_placesRead + (1 : Int32)) x_t_mayOpen x_t_open x_t_lastMark y4.1 y4.2) := hD
        refine lv_aload_n hx hb d_Sr_acceptsEntry_63 rfl (lv_at hl 1 rfl) ?_
        refine lv_iconst (v := (1 : Int32)) hx hb d_Sr_acceptsEntry_64 (by decide) ?_
        refine va_put (D := G.1) (ci := 4) (v := .int (1 : Int32)) (ty := .boolean) (C := "PlayStates$StateReader") (T := TSr) (N := 6) hx hb hts iw_4 tySr tySr_ok nmSr hown hK hP hD hS 0 rfl rfl 3 (by decide) (hts _ gw_93) (fun _ h9 => h9) rfl (by decide +kernel) (by decide) (by decide) (Nat.le_of_ble_eq_true rfl) d_Sr_acceptsEntry_65 (fun H locs hP hD hS => ?_)
        replace hP : va_P G.1 vwCl (ws_Sr_acceptsEntry G a_t a_t_board a_t_board_entries a_t_board_markBits n x_t_placeCount (x_t_placesRead + (1 : Int32)) (1 : Int32) x_t_open x_t_lastMark y4.1 y4.2) H := hP
        replace hD : va_D A (ws_Sr_acceptsEntry G a_t a_t_board a_t_board_entries a_t_board_markBits n x_t_placeCount (x_t_placesRead + (1 : Int32)) (1 : Int32) x_t_open x_t_lastMark y4.1 y4.2) := hD
        refine lv_iconst (v := (1 : Int32)) hx hb d_Sr_acceptsEntry_68 (by decide) ?_
        cases h
        exact q_zretW hx hb hr hlocks (by decide) hP hD hS d_Sr_acceptsEntry_69
      · replace h := (if_neg c3).symm.trans h
        refine lv_iload_n hx hb d_Sr_acceptsEntry_32 rfl (lv_at hl 0 rfl) ?_
        obtain ⟨y5, hy5, h⟩ := o_bind h
        have hPc := hP.sub (ws' := (ws_PS_isOneToNine G)) [] rfl
        have hDc := hD.sub (ws' := (ws_PS_isOneToNine G)) [] (by decide) rfl
        have hFc := va_free (wc := (ws_PS_isOneToNine G)) hD hS hA [] rfl
        refine q_call1 (va_runSN (As := [.int (p0 - (48 : Int32))]) (rest := []) ⟨hx, hb, hml, hown, hts⟩ (c_PS_isOneToNine l G H.size (p0 - (48 : Int32)) _ hy5) ⟨va_cnB 1 hts (gC gw_201) rfl rfl rfl (hN.2.1 ("PlayStates$StateReader", 51, y_PS_isOneToNine, "PlayStates") (by decide +kernel)) (hts _ gw_31) (by decide +kernel) ⟨Nat.le_of_ble_eq_true rfl, Nat.le_of_ble_eq_true rfl⟩, hts _ gw_200, trivial⟩ (pS hK hN hPc hDc) rfl rfl hl.1 rfl (lv_room (Nat.le_of_ble_eq_true rfl)) d_Sr_acceptsEntry_33 ⟨Nat.le_of_ble_eq_true rfl, Nat.le_of_ble_eq_true rfl⟩) hS (fun q _ h => hFc q h) hFc (fun H1 locs hB hz hk hS => ?_)
        obtain ⟨hP, hD⟩ := q_join (wr := [(a_t, .inr (4, [.ref a_t_board, .int x_t_placeCount, .int x_t_placesRead, .int x_t_mayOpen, .int x_t_open, .int x_t_lastMark])), (a_t_board, .inr (0, [.ref a_t_board_entries, .ref a_t_board_markBits])), (a_t_board_entries, .inl (G.2 0, n, .inl x_t_board_entries)), (a_t_board_markBits, .inl (G.2 0, n, .inl x_t_board_markBits))]) (wn := (ws_Sr_acceptsEntry G a_t a_t_board a_t_board_entries a_t_board_markBits n x_t_placeCount x_t_placesRead x_t_mayOpen x_t_open x_t_lastMark x_t_board_entries x_t_board_markBits)) hP hD [] [0, 1, 2, 3] [0, 1, 2, 3] rfl rfl (by decide) (by decide) rfl (by decide) hk hFc hB.1 hB.2
        generalize H1 = H at hP hS ⊢
        replace hP : va_P G.1 vwCl (ws_Sr_acceptsEntry G a_t a_t_board a_t_board_entries a_t_board_markBits n x_t_placeCount x_t_placesRead x_t_mayOpen x_t_open x_t_lastMark x_t_board_entries x_t_board_markBits) H := hP
        replace hD : va_D A (ws_Sr_acceptsEntry G a_t a_t_board a_t_board_entries a_t_board_markBits n x_t_placeCount x_t_placesRead x_t_mayOpen x_t_open x_t_lastMark x_t_board_entries x_t_board_markBits) := hD
        refine lv_if_ne (tgt := 41) hx hb d_Sr_acceptsEntry_36 (by decide) (fun c6 => ?_) (fun c6 => ?_)
        · replace h := (if_neg c6).symm.trans h
          refine lv_aload_n hx hb d_Sr_acceptsEntry_41 rfl (lv_at hl 1 rfl) ?_
          refine va_get (D := G.1) (ci := 4) (v := .ref a_t_board) (C := "PlayStates$StateReader") (T := TSr) (N := 6) hx hb hts iw_4 hown hK hP 0 rfl rfl 0 (by decide) (hts _ gw_90) (fun _ h9 => h9) rfl d_Sr_acceptsEntry_42 ?_
          refine lv_aload_n hx hb d_Sr_acceptsEntry_45 rfl (lv_at hl 1 rfl) ?_
          refine va_get (D := G.1) (ci := 4) (v := .int x_t_placesRead) (C := "PlayStates$StateReader") (T := TSr) (N := 6) hx hb hts iw_4 hown hK hP 0 rfl rfl 2 (by decide) (hts _ gw_92) (fun _ h9 => h9) rfl d_Sr_acceptsEntry_46 ?_
          refine lv_iload_n hx hb d_Sr_acceptsEntry_49 rfl (lv_at hl 0 rfl) ?_
          obtain ⟨y7, hy7, h⟩ := o_bind h
          have hPc := hP.sub (ws' := (ws_Bd_put G a_t_board a_t_board_entries a_t_board_markBits n x_t_board_entries x_t_board_markBits)) [1, 2, 3] rfl
          have hDc := hD.sub (ws' := (ws_Bd_put G a_t_board a_t_board_entries a_t_board_markBits n x_t_board_entries x_t_board_markBits)) [1, 2, 3] (by decide) rfl
          have hFc := va_free (wc := (ws_Bd_put G a_t_board a_t_board_entries a_t_board_markBits n x_t_board_entries x_t_board_markBits)) hD hS hA [1, 2, 3] rfl
          refine q_call0 (va_runV (As := [.int x_t_placesRead, .int (p0 - (48 : Int32))]) (rest := []) ⟨hx, hb, hml, hown, hts⟩ (c_Bd_put l G H.size a_t_board a_t_board_entries a_t_board_markBits n x_t_placesRead (p0 - (48 : Int32)) x_t_board_entries x_t_board_markBits _ _ hy7) (cwV 2 hts (gV gw_346 gw_192 gw_193 gw_34 gw_194) rfl rfl rfl (by decide +kernel) ⟨Nat.le_of_ble_eq_true rfl, Nat.le_of_ble_eq_true rfl⟩) (pV hK hN hPc hDc (ci := 0) (q0 := 0) rfl rfl) rfl rfl hl.1 rfl (lv_room (Nat.le_of_ble_eq_true rfl)) d_Sr_acceptsEntry_50 ⟨Nat.le_of_ble_eq_true rfl, Nat.le_of_ble_eq_true rfl⟩) hS (fun q _ h => hFc q h) hFc (fun H1 locs hB hz hk hS => ?_)
          obtain ⟨hP, hD⟩ := q_join (wr := [(a_t, .inr (4, [.ref a_t_board, .int x_t_placeCount, .int x_t_placesRead, .int x_t_mayOpen, .int x_t_open, .int x_t_lastMark]))]) (wn := (ws_Sr_acceptsEntry G a_t a_t_board a_t_board_entries a_t_board_markBits n x_t_placeCount x_t_placesRead x_t_mayOpen x_t_open x_t_lastMark y7.1 y7.2)) hP hD [1, 2, 3] [0] [0, 1, 2, 3] rfl rfl (by decide) (by decide) rfl (by decide) hk hFc hB.1 hB.2
          generalize H1 = H at hP hS ⊢
          replace hP : va_P G.1 vwCl (ws_Sr_acceptsEntry G a_t a_t_board a_t_board_entries a_t_board_markBits n x_t_placeCount x_t_placesRead x_t_mayOpen x_t_open x_t_lastMark y7.1 y7.2) H := hP
          replace hD : va_D A (ws_Sr_acceptsEntry G a_t a_t_board a_t_board_entries a_t_board_markBits n x_t_placeCount x_t_placesRead x_t_mayOpen x_t_open x_t_lastMark y7.1 y7.2) := hD
          refine lv_aload_n hx hb d_Sr_acceptsEntry_53 rfl (lv_at hl 1 rfl) ?_
          refine lv_dup hx hb d_Sr_acceptsEntry_54 rfl ?_
          refine va_get (D := G.1) (ci := 4) (v := .int x_t_placesRead) (C := "PlayStates$StateReader") (T := TSr) (N := 6) hx hb hts iw_4 hown hK hP 0 rfl rfl 2 (by decide) (hts _ gw_92) (fun _ h9 => h9) rfl d_Sr_acceptsEntry_55 ?_
          refine lv_iconst (v := (1 : Int32)) hx hb d_Sr_acceptsEntry_58 (by decide) ?_
          refine lv_iadd hx hb d_Sr_acceptsEntry_59 ?_
          refine va_put (D := G.1) (ci := 4) (v := .int (x_t_placesRead + (1 : Int32))) (ty := .int) (C := "PlayStates$StateReader") (T := TSr) (N := 6) hx hb hts iw_4 tySr tySr_ok nmSr hown hK hP hD hS 0 rfl rfl 2 (by decide) (hts _ gw_92) (fun _ h9 => h9) rfl (by decide +kernel) (by rfl) (by rfl) (Nat.le_of_ble_eq_true rfl) d_Sr_acceptsEntry_60 (fun H locs hP hD hS => ?_)
          replace hP : va_P G.1 vwCl (ws_Sr_acceptsEntry G a_t a_t_board a_t_board_entries a_t_board_markBits n x_t_placeCount (x_t_placesRead + (1 : Int32)) x_t_mayOpen x_t_open x_t_lastMark y7.1 y7.2) H := hP
          replace hD : va_D A (ws_Sr_acceptsEntry G a_t a_t_board a_t_board_entries a_t_board_markBits n x_t_placeCount (x_t_placesRead + (1 : Int32)) x_t_mayOpen x_t_open x_t_lastMark y7.1 y7.2) := hD
          refine lv_aload_n hx hb d_Sr_acceptsEntry_63 rfl (lv_at hl 1 rfl) ?_
          refine lv_iconst (v := (1 : Int32)) hx hb d_Sr_acceptsEntry_64 (by decide) ?_
          refine va_put (D := G.1) (ci := 4) (v := .int (1 : Int32)) (ty := .boolean) (C := "PlayStates$StateReader") (T := TSr) (N := 6) hx hb hts iw_4 tySr tySr_ok nmSr hown hK hP hD hS 0 rfl rfl 3 (by decide) (hts _ gw_93) (fun _ h9 => h9) rfl (by decide +kernel) (by decide) (by decide) (Nat.le_of_ble_eq_true rfl) d_Sr_acceptsEntry_65 (fun H locs hP hD hS => ?_)
          replace hP : va_P G.1 vwCl (ws_Sr_acceptsEntry G a_t a_t_board a_t_board_entries a_t_board_markBits n x_t_placeCount (x_t_placesRead + (1 : Int32)) (1 : Int32) x_t_open x_t_lastMark y7.1 y7.2) H := hP
          replace hD : va_D A (ws_Sr_acceptsEntry G a_t a_t_board a_t_board_entries a_t_board_markBits n x_t_placeCount (x_t_placesRead + (1 : Int32)) (1 : Int32) x_t_open x_t_lastMark y7.1 y7.2) := hD
          refine lv_iconst (v := (1 : Int32)) hx hb d_Sr_acceptsEntry_68 (by decide) ?_
          cases h
          exact q_zretW hx hb hr hlocks (by decide) hP hD hS d_Sr_acceptsEntry_69
        · replace h := (if_pos c6).symm.trans h
          refine lv_iconst (v := (0 : Int32)) hx hb d_Sr_acceptsEntry_39 (by decide) ?_
          cases h
          exact q_zretW hx hb hr hlocks (by decide) hP hD hS d_Sr_acceptsEntry_40
  · replace h := (if_pos c1).symm.trans h
    refine lv_iconst (v := (0 : Int32)) hx hb d_Sr_acceptsEntry_6 (by decide) ?_
    refine lv_goto (tgt := 14) hx hb d_Sr_acceptsEntry_7 (by decide) ?_
    refine lv_istore_n (lv' := [(2, .int (0 : Int32)), (0, .ref a_t), (1, .int p0)]) hx hb d_Sr_acceptsEntry_14 rfl hl (by decide) rfl (fun ls hl => ?_)
    refine lv_aload_n hx hb d_Sr_acceptsEntry_15 rfl (lv_at hl 1 rfl) ?_
    refine va_get (D := G.1) (ci := 4) (v := .int x_t_placesRead) (C := "PlayStates$StateReader") (T := TSr) (N := 6) hx hb hts iw_4 hown hK hP 0 rfl rfl 2 (by decide) (hts _ gw_92) (fun _ h9 => h9) rfl d_Sr_acceptsEntry_16 ?_
    refine lv_aload_n hx hb d_Sr_acceptsEntry_19 rfl (lv_at hl 1 rfl) ?_
    refine va_get (D := G.1) (ci := 4) (v := .int x_t_placeCount) (C := "PlayStates$StateReader") (T := TSr) (N := 6) hx hb hts iw_4 hown hK hP 0 rfl rfl 1 (by decide) (hts _ gw_91) (fun _ h9 => h9) rfl d_Sr_acceptsEntry_20 ?_
    refine lv_icmp_ge (tgt := 39) hx hb d_Sr_acceptsEntry_23 (by decide) (fun c8 => ?_) (fun c8 => ?_)
    · replace h := (if_pos c8).symm.trans h
      refine lv_iconst (v := (0 : Int32)) hx hb d_Sr_acceptsEntry_39 (by decide) ?_
      cases h
      exact q_zretW hx hb hr hlocks (by decide) hP hD hS d_Sr_acceptsEntry_40
    · replace h := (if_neg c8).symm.trans h
      refine lv_iload_n hx hb d_Sr_acceptsEntry_26 rfl (lv_at hl 2 rfl) ?_
      refine lv_bipush (v := (46 : Int32)) hx hb d_Sr_acceptsEntry_27 (by decide) ?_
      refine lv_icmp_eq (tgt := 41) hx hb d_Sr_acceptsEntry_29 (by decide) (fun c9 => ?_) (fun c9 => ?_)
      · replace h := (if_pos c9).symm.trans h
        refine lv_aload_n hx hb d_Sr_acceptsEntry_41 rfl (lv_at hl 1 rfl) ?_
        refine va_get (D := G.1) (ci := 4) (v := .ref a_t_board) (C := "PlayStates$StateReader") (T := TSr) (N := 6) hx hb hts iw_4 hown hK hP 0 rfl rfl 0 (by decide) (hts _ gw_90) (fun _ h9 => h9) rfl d_Sr_acceptsEntry_42 ?_
        refine lv_aload_n hx hb d_Sr_acceptsEntry_45 rfl (lv_at hl 1 rfl) ?_
        refine va_get (D := G.1) (ci := 4) (v := .int x_t_placesRead) (C := "PlayStates$StateReader") (T := TSr) (N := 6) hx hb hts iw_4 hown hK hP 0 rfl rfl 2 (by decide) (hts _ gw_92) (fun _ h9 => h9) rfl d_Sr_acceptsEntry_46 ?_
        refine lv_iload_n hx hb d_Sr_acceptsEntry_49 rfl (lv_at hl 0 rfl) ?_
        obtain ⟨y10, hy10, h⟩ := o_bind h
        have hPc := hP.sub (ws' := (ws_Bd_put G a_t_board a_t_board_entries a_t_board_markBits n x_t_board_entries x_t_board_markBits)) [1, 2, 3] rfl
        have hDc := hD.sub (ws' := (ws_Bd_put G a_t_board a_t_board_entries a_t_board_markBits n x_t_board_entries x_t_board_markBits)) [1, 2, 3] (by decide) rfl
        have hFc := va_free (wc := (ws_Bd_put G a_t_board a_t_board_entries a_t_board_markBits n x_t_board_entries x_t_board_markBits)) hD hS hA [1, 2, 3] rfl
        refine q_call0 (va_runV (As := [.int x_t_placesRead, .int (0 : Int32)]) (rest := []) ⟨hx, hb, hml, hown, hts⟩ (c_Bd_put l G H.size a_t_board a_t_board_entries a_t_board_markBits n x_t_placesRead (0 : Int32) x_t_board_entries x_t_board_markBits _ _ hy10) (cwV 2 hts (gV gw_346 gw_192 gw_193 gw_34 gw_194) rfl rfl rfl (by decide +kernel) ⟨Nat.le_of_ble_eq_true rfl, Nat.le_of_ble_eq_true rfl⟩) (pV hK hN hPc hDc (ci := 0) (q0 := 0) rfl rfl) rfl rfl hl.1 rfl (lv_room (Nat.le_of_ble_eq_true rfl)) d_Sr_acceptsEntry_50 ⟨Nat.le_of_ble_eq_true rfl, Nat.le_of_ble_eq_true rfl⟩) hS (fun q _ h => hFc q h) hFc (fun H1 locs hB hz hk hS => ?_)
        obtain ⟨hP, hD⟩ := q_join (wr := [(a_t, .inr (4, [.ref a_t_board, .int x_t_placeCount, .int x_t_placesRead, .int x_t_mayOpen, .int x_t_open, .int x_t_lastMark]))]) (wn := (ws_Sr_acceptsEntry G a_t a_t_board a_t_board_entries a_t_board_markBits n x_t_placeCount x_t_placesRead x_t_mayOpen x_t_open x_t_lastMark y10.1 y10.2)) hP hD [1, 2, 3] [0] [0, 1, 2, 3] rfl rfl (by decide) (by decide) rfl (by decide) hk hFc hB.1 hB.2
        generalize H1 = H at hP hS ⊢
        replace hP : va_P G.1 vwCl (ws_Sr_acceptsEntry G a_t a_t_board a_t_board_entries a_t_board_markBits n x_t_placeCount x_t_placesRead x_t_mayOpen x_t_open x_t_lastMark y10.1 y10.2) H := hP
        replace hD : va_D A (ws_Sr_acceptsEntry G a_t a_t_board a_t_board_entries a_t_board_markBits n x_t_placeCount x_t_placesRead x_t_mayOpen x_t_open x_t_lastMark y10.1 y10.2) := hD
        refine lv_aload_n hx hb d_Sr_acceptsEntry_53 rfl (lv_at hl 1 rfl) ?_
        refine lv_dup hx hb d_Sr_acceptsEntry_54 rfl ?_
        refine va_get (D := G.1) (ci := 4) (v := .int x_t_placesRead) (C := "PlayStates$StateReader") (T := TSr) (N := 6) hx hb hts iw_4 hown hK hP 0 rfl rfl 2 (by decide) (hts _ gw_92) (fun _ h9 => h9) rfl d_Sr_acceptsEntry_55 ?_
        refine lv_iconst (v := (1 : Int32)) hx hb d_Sr_acceptsEntry_58 (by decide) ?_
        refine lv_iadd hx hb d_Sr_acceptsEntry_59 ?_
        refine va_put (D := G.1) (ci := 4) (v := .int (x_t_placesRead + (1 : Int32))) (ty := .int) (C := "PlayStates$StateReader") (T := TSr) (N := 6) hx hb hts iw_4 tySr tySr_ok nmSr hown hK hP hD hS 0 rfl rfl 2 (by decide) (hts _ gw_92) (fun _ h9 => h9) rfl (by decide +kernel) (by rfl) (by rfl) (Nat.le_of_ble_eq_true rfl) d_Sr_acceptsEntry_60 (fun H locs hP hD hS => ?_)
        replace hP : va_P G.1 vwCl (ws_Sr_acceptsEntry G a_t a_t_board a_t_board_entries a_t_board_markBits n x_t_placeCount (x_t_placesRead + (1 : Int32)) x_t_mayOpen x_t_open x_t_lastMark y10.1 y10.2) H := hP
        replace hD : va_D A (ws_Sr_acceptsEntry G a_t a_t_board a_t_board_entries a_t_board_markBits n x_t_placeCount (x_t_placesRead + (1 : Int32)) x_t_mayOpen x_t_open x_t_lastMark y10.1 y10.2) := hD
        refine lv_aload_n hx hb d_Sr_acceptsEntry_63 rfl (lv_at hl 1 rfl) ?_
        refine lv_iconst (v := (1 : Int32)) hx hb d_Sr_acceptsEntry_64 (by decide) ?_
        refine va_put (D := G.1) (ci := 4) (v := .int (1 : Int32)) (ty := .boolean) (C := "PlayStates$StateReader") (T := TSr) (N := 6) hx hb hts iw_4 tySr tySr_ok nmSr hown hK hP hD hS 0 rfl rfl 3 (by decide) (hts _ gw_93) (fun _ h9 => h9) rfl (by decide +kernel) (by decide) (by decide) (Nat.le_of_ble_eq_true rfl) d_Sr_acceptsEntry_65 (fun H locs hP hD hS => ?_)
        replace hP : va_P G.1 vwCl (ws_Sr_acceptsEntry G a_t a_t_board a_t_board_entries a_t_board_markBits n x_t_placeCount (x_t_placesRead + (1 : Int32)) (1 : Int32) x_t_open x_t_lastMark y10.1 y10.2) H := hP
        replace hD : va_D A (ws_Sr_acceptsEntry G a_t a_t_board a_t_board_entries a_t_board_markBits n x_t_placeCount (x_t_placesRead + (1 : Int32)) (1 : Int32) x_t_open x_t_lastMark y10.1 y10.2) := hD
        refine lv_iconst (v := (1 : Int32)) hx hb d_Sr_acceptsEntry_68 (by decide) ?_
        cases h
        exact q_zretW hx hb hr hlocks (by decide) hP hD hS d_Sr_acceptsEntry_69
      · replace h := (if_neg c9).symm.trans h
        refine lv_iload_n hx hb d_Sr_acceptsEntry_32 rfl (lv_at hl 0 rfl) ?_
        obtain ⟨y11, hy11, h⟩ := o_bind h
        have hPc := hP.sub (ws' := (ws_PS_isOneToNine G)) [] rfl
        have hDc := hD.sub (ws' := (ws_PS_isOneToNine G)) [] (by decide) rfl
        have hFc := va_free (wc := (ws_PS_isOneToNine G)) hD hS hA [] rfl
        refine q_call1 (va_runSN (As := [.int (0 : Int32)]) (rest := []) ⟨hx, hb, hml, hown, hts⟩ (c_PS_isOneToNine l G H.size (0 : Int32) _ hy11) ⟨va_cnB 1 hts (gC gw_201) rfl rfl rfl (hN.2.1 ("PlayStates$StateReader", 51, y_PS_isOneToNine, "PlayStates") (by decide +kernel)) (hts _ gw_31) (by decide +kernel) ⟨Nat.le_of_ble_eq_true rfl, Nat.le_of_ble_eq_true rfl⟩, hts _ gw_200, trivial⟩ (pS hK hN hPc hDc) rfl rfl hl.1 rfl (lv_room (Nat.le_of_ble_eq_true rfl)) d_Sr_acceptsEntry_33 ⟨Nat.le_of_ble_eq_true rfl, Nat.le_of_ble_eq_true rfl⟩) hS (fun q _ h => hFc q h) hFc (fun H1 locs hB hz hk hS => ?_)
        obtain ⟨hP, hD⟩ := q_join (wr := [(a_t, .inr (4, [.ref a_t_board, .int x_t_placeCount, .int x_t_placesRead, .int x_t_mayOpen, .int x_t_open, .int x_t_lastMark])), (a_t_board, .inr (0, [.ref a_t_board_entries, .ref a_t_board_markBits])), (a_t_board_entries, .inl (G.2 0, n, .inl x_t_board_entries)), (a_t_board_markBits, .inl (G.2 0, n, .inl x_t_board_markBits))]) (wn := (ws_Sr_acceptsEntry G a_t a_t_board a_t_board_entries a_t_board_markBits n x_t_placeCount x_t_placesRead x_t_mayOpen x_t_open x_t_lastMark x_t_board_entries x_t_board_markBits)) hP hD [] [0, 1, 2, 3] [0, 1, 2, 3] rfl rfl (by decide) (by decide) rfl (by decide) hk hFc hB.1 hB.2
        generalize H1 = H at hP hS ⊢
        replace hP : va_P G.1 vwCl (ws_Sr_acceptsEntry G a_t a_t_board a_t_board_entries a_t_board_markBits n x_t_placeCount x_t_placesRead x_t_mayOpen x_t_open x_t_lastMark x_t_board_entries x_t_board_markBits) H := hP
        replace hD : va_D A (ws_Sr_acceptsEntry G a_t a_t_board a_t_board_entries a_t_board_markBits n x_t_placeCount x_t_placesRead x_t_mayOpen x_t_open x_t_lastMark x_t_board_entries x_t_board_markBits) := hD
        refine lv_if_ne (tgt := 41) hx hb d_Sr_acceptsEntry_36 (by decide) (fun c12 => ?_) (fun c12 => ?_)
        · replace h := (if_neg c12).symm.trans h
          refine lv_aload_n hx hb d_Sr_acceptsEntry_41 rfl (lv_at hl 1 rfl) ?_
          refine va_get (D := G.1) (ci := 4) (v := .ref a_t_board) (C := "PlayStates$StateReader") (T := TSr) (N := 6) hx hb hts iw_4 hown hK hP 0 rfl rfl 0 (by decide) (hts _ gw_90) (fun _ h9 => h9) rfl d_Sr_acceptsEntry_42 ?_
          refine lv_aload_n hx hb d_Sr_acceptsEntry_45 rfl (lv_at hl 1 rfl) ?_
          refine va_get (D := G.1) (ci := 4) (v := .int x_t_placesRead) (C := "PlayStates$StateReader") (T := TSr) (N := 6) hx hb hts iw_4 hown hK hP 0 rfl rfl 2 (by decide) (hts _ gw_92) (fun _ h9 => h9) rfl d_Sr_acceptsEntry_46 ?_
          refine lv_iload_n hx hb d_Sr_acceptsEntry_49 rfl (lv_at hl 0 rfl) ?_
          obtain ⟨y13, hy13, h⟩ := o_bind h
          have hPc := hP.sub (ws' := (ws_Bd_put G a_t_board a_t_board_entries a_t_board_markBits n x_t_board_entries x_t_board_markBits)) [1, 2, 3] rfl
          have hDc := hD.sub (ws' := (ws_Bd_put G a_t_board a_t_board_entries a_t_board_markBits n x_t_board_entries x_t_board_markBits)) [1, 2, 3] (by decide) rfl
          have hFc := va_free (wc := (ws_Bd_put G a_t_board a_t_board_entries a_t_board_markBits n x_t_board_entries x_t_board_markBits)) hD hS hA [1, 2, 3] rfl
          refine q_call0 (va_runV (As := [.int x_t_placesRead, .int (0 : Int32)]) (rest := []) ⟨hx, hb, hml, hown, hts⟩ (c_Bd_put l G H.size a_t_board a_t_board_entries a_t_board_markBits n x_t_placesRead (0 : Int32) x_t_board_entries x_t_board_markBits _ _ hy13) (cwV 2 hts (gV gw_346 gw_192 gw_193 gw_34 gw_194) rfl rfl rfl (by decide +kernel) ⟨Nat.le_of_ble_eq_true rfl, Nat.le_of_ble_eq_true rfl⟩) (pV hK hN hPc hDc (ci := 0) (q0 := 0) rfl rfl) rfl rfl hl.1 rfl (lv_room (Nat.le_of_ble_eq_true rfl)) d_Sr_acceptsEntry_50 ⟨Nat.le_of_ble_eq_true rfl, Nat.le_of_ble_eq_true rfl⟩) hS (fun q _ h => hFc q h) hFc (fun H1 locs hB hz hk hS => ?_)
          obtain ⟨hP, hD⟩ := q_join (wr := [(a_t, .inr (4, [.ref a_t_board, .int x_t_placeCount, .int x_t_placesRead, .int x_t_mayOpen, .int x_t_open, .int x_t_lastMark]))]) (wn := (ws_Sr_acceptsEntry G a_t a_t_board a_t_board_entries a_t_board_markBits n x_t_placeCount x_t_placesRead x_t_mayOpen x_t_open x_t_lastMark y13.1 y13.2)) hP hD [1, 2, 3] [0] [0, 1, 2, 3] rfl rfl (by decide) (by decide) rfl (by decide) hk hFc hB.1 hB.2
          generalize H1 = H at hP hS ⊢
          replace hP : va_P G.1 vwCl (ws_Sr_acceptsEntry G a_t a_t_board a_t_board_entries a_t_board_markBits n x_t_placeCount x_t_placesRead x_t_mayOpen x_t_open x_t_lastMark y13.1 y13.2) H := hP
          replace hD : va_D A (ws_Sr_acceptsEntry G a_t a_t_board a_t_board_entries a_t_board_markBits n x_t_placeCount x_t_placesRead x_t_mayOpen x_t_open x_t_lastMark y13.1 y13.2) := hD
          refine lv_aload_n hx hb d_Sr_acceptsEntry_53 rfl (lv_at hl 1 rfl) ?_
          refine lv_dup hx hb d_Sr_acceptsEntry_54 rfl ?_
          refine va_get (D := G.1) (ci := 4) (v := .int x_t_placesRead) (C := "PlayStates$StateReader") (T := TSr) (N := 6) hx hb hts iw_4 hown hK hP 0 rfl rfl 2 (by decide) (hts _ gw_92) (fun _ h9 => h9) rfl d_Sr_acceptsEntry_55 ?_
          refine lv_iconst (v := (1 : Int32)) hx hb d_Sr_acceptsEntry_58 (by decide) ?_
          refine lv_iadd hx hb d_Sr_acceptsEntry_59 ?_
          refine va_put (D := G.1) (ci := 4) (v := .int (x_t_placesRead + (1 : Int32))) (ty := .int) (C := "PlayStates$StateReader") (T := TSr) (N := 6) hx hb hts iw_4 tySr tySr_ok nmSr hown hK hP hD hS 0 rfl rfl 2 (by decide) (hts _ gw_92) (fun _ h9 => h9) rfl (by decide +kernel) (by rfl) (by rfl) (Nat.le_of_ble_eq_true rfl) d_Sr_acceptsEntry_60 (fun H locs hP hD hS => ?_)
          replace hP : va_P G.1 vwCl (ws_Sr_acceptsEntry G a_t a_t_board a_t_board_entries a_t_board_markBits n x_t_placeCount (x_t_placesRead + (1 : Int32)) x_t_mayOpen x_t_open x_t_lastMark y13.1 y13.2) H := hP
          replace hD : va_D A (ws_Sr_acceptsEntry G a_t a_t_board a_t_board_entries a_t_board_markBits n x_t_placeCount (x_t_placesRead + (1 : Int32)) x_t_mayOpen x_t_open x_t_lastMark y13.1 y13.2) := hD
          refine lv_aload_n hx hb d_Sr_acceptsEntry_63 rfl (lv_at hl 1 rfl) ?_
          refine lv_iconst (v := (1 : Int32)) hx hb d_Sr_acceptsEntry_64 (by decide) ?_
          refine va_put (D := G.1) (ci := 4) (v := .int (1 : Int32)) (ty := .boolean) (C := "PlayStates$StateReader") (T := TSr) (N := 6) hx hb hts iw_4 tySr tySr_ok nmSr hown hK hP hD hS 0 rfl rfl 3 (by decide) (hts _ gw_93) (fun _ h9 => h9) rfl (by decide +kernel) (by decide) (by decide) (Nat.le_of_ble_eq_true rfl) d_Sr_acceptsEntry_65 (fun H locs hP hD hS => ?_)
          replace hP : va_P G.1 vwCl (ws_Sr_acceptsEntry G a_t a_t_board a_t_board_entries a_t_board_markBits n x_t_placeCount (x_t_placesRead + (1 : Int32)) (1 : Int32) x_t_open x_t_lastMark y13.1 y13.2) H := hP
          replace hD : va_D A (ws_Sr_acceptsEntry G a_t a_t_board a_t_board_entries a_t_board_markBits n x_t_placeCount (x_t_placesRead + (1 : Int32)) (1 : Int32) x_t_open x_t_lastMark y13.1 y13.2) := hD
          refine lv_iconst (v := (1 : Int32)) hx hb d_Sr_acceptsEntry_68 (by decide) ?_
          cases h
          exact q_zretW hx hb hr hlocks (by decide) hP hD hS d_Sr_acceptsEntry_69
        · replace h := (if_pos c12).symm.trans h
          refine lv_iconst (v := (0 : Int32)) hx hb d_Sr_acceptsEntry_39 (by decide) ?_
          cases h
          exact q_zretW hx hb hr hlocks (by decide) hP hD hS d_Sr_acceptsEntry_40

theorem gw_352 : (.code ⟨"PlayStates$StateReader", "acceptsEntry", "(I)Z"⟩ prog_6_method_8_code 3 (some .boolean) : Cond) ∈ GW := gT 389 (by decide +kernel) (by decide +kernel)
theorem gw_350 : (.methodLink "PlayStates$StateReader" 45 ⟨"PlayStates$StateReader", "acceptsEntry", "(I)Z"⟩ : Cond) ∈ GW := gT 386 (by decide +kernel) (by decide +kernel)
theorem gw_35 : (.initialized "PlayStates$StateReader" : Cond) ∈ GW := gT 5 (by decide +kernel) (by decide +kernel)
theorem gw_351 : (.instanceMethod ⟨"PlayStates$StateReader", "acceptsEntry", "(I)Z"⟩ : Cond) ∈ GW := gT 388 (by decide +kernel) (by decide +kernel)
theorem gw_14 : (.selects "PlayStates$StateReader" ⟨"PlayStates$StateReader", "acceptsEntry", "(I)Z"⟩ ⟨"PlayStates$StateReader", "acceptsEntry", "(I)Z"⟩ : Cond) ∈ GW := gP 14 (by decide +kernel) (by decide +kernel)
theorem gw_349 : (.code ⟨"PlayStates$StateReader", "acceptsOpening", "()Z"⟩ prog_6_method_5_code 1 (some .boolean) : Cond) ∈ GW := gT 385 (by decide +kernel) (by decide +kernel)
theorem gw_347 : (.methodLink "PlayStates$StateReader" 42 ⟨"PlayStates$StateReader", "acceptsOpening", "()Z"⟩ : Cond) ∈ GW := gT 382 (by decide +kernel) (by decide +kernel)
theorem gw_348 : (.instanceMethod ⟨"PlayStates$StateReader", "acceptsOpening", "()Z"⟩ : Cond) ∈ GW := gT 384 (by decide +kernel) (by decide +kernel)
theorem gw_13 : (.selects "PlayStates$StateReader" ⟨"PlayStates$StateReader", "acceptsOpening", "()Z"⟩ ⟨"PlayStates$StateReader", "acceptsOpening", "()Z"⟩ : Cond) ∈ GW := gP 13 (by decide +kernel) (by decide +kernel)
theorem gw_345 : (.code ⟨"PlayStates$StateReader", "acceptsMark", "(I)Z"⟩ prog_6_method_7_code 2 (some .boolean) : Cond) ∈ GW := gT 379 (by decide +kernel) (by decide +kernel)
theorem gw_343 : (.methodLink "PlayStates$StateReader" 38 ⟨"PlayStates$StateReader", "acceptsMark", "(I)Z"⟩ : Cond) ∈ GW := gT 376 (by decide +kernel) (by decide +kernel)
theorem gw_344 : (.instanceMethod ⟨"PlayStates$StateReader", "acceptsMark", "(I)Z"⟩ : Cond) ∈ GW := gT 378 (by decide +kernel) (by decide +kernel)
theorem gw_12 : (.selects "PlayStates$StateReader" ⟨"PlayStates$StateReader", "acceptsMark", "(I)Z"⟩ ⟨"PlayStates$StateReader", "acceptsMark", "(I)Z"⟩ : Cond) ∈ GW := gP 12 (by decide +kernel) (by decide +kernel)
theorem gw_342 : (.code ⟨"PlayStates$StateReader", "acceptsClosing", "()Z"⟩ prog_6_method_6_code 1 (some .boolean) : Cond) ∈ GW := gT 375 (by decide +kernel) (by decide +kernel)
theorem gw_340 : (.methodLink "PlayStates$StateReader" 34 ⟨"PlayStates$StateReader", "acceptsClosing", "()Z"⟩ : Cond) ∈ GW := gT 372 (by decide +kernel) (by decide +kernel)
theorem gw_341 : (.instanceMethod ⟨"PlayStates$StateReader", "acceptsClosing", "()Z"⟩ : Cond) ∈ GW := gT 374 (by decide +kernel) (by decide +kernel)
theorem gw_11 : (.selects "PlayStates$StateReader" ⟨"PlayStates$StateReader", "acceptsClosing", "()Z"⟩ ⟨"PlayStates$StateReader", "acceptsClosing", "()Z"⟩ : Cond) ∈ GW := gP 11 (by decide +kernel) (by decide +kernel)
theorem d_Sr_accepts_0 : decode prog_6_method_3_code 0 = .ok (.aload_n 0, 1) := by decide +kernel
theorem d_Sr_accepts_1 : decode prog_6_method_3_code 1 = .ok (.getfield 31, 3) := by decide +kernel
theorem d_Sr_accepts_4 : decode prog_6_method_3_code 4 = .ok (.ifCond .eq 25, 3) := by decide +kernel
theorem d_Sr_accepts_7 : decode prog_6_method_3_code 7 = .ok (.iload_n 1, 1) := by decide +kernel
theorem d_Sr_accepts_8 : decode prog_6_method_3_code 8 = .ok (.bipush 41, 2) := by decide +kernel
theorem d_Sr_accepts_10 : decode prog_6_method_3_code 10 = .ok (.if_icmp .ne 10, 3) := by decide +kernel
theorem d_Sr_accepts_13 : decode prog_6_method_3_code 13 = .ok (.aload_n 0, 1) := by decide +kernel
theorem d_Sr_accepts_14 : decode prog_6_method_3_code 14 = .ok (.invokevirtual 34, 3) := by decide +kernel
theorem d_Sr_accepts_17 : decode prog_6_method_3_code 17 = .ok (.goto 11, 3) := by decide +kernel
theorem d_Sr_accepts_20 : decode prog_6_method_3_code 20 = .ok (.aload_n 0, 1) := by decide +kernel
theorem d_Sr_accepts_21 : decode prog_6_method_3_code 21 = .ok (.iload_n 1, 1) := by decide +kernel
theorem d_Sr_accepts_22 : decode prog_6_method_3_code 22 = .ok (.bipush 48, 2) := by decide +kernel
theorem d_Sr_accepts_24 : decode prog_6_method_3_code 24 = .ok (.isub, 1) := by decide +kernel
theorem d_Sr_accepts_25 : decode prog_6_method_3_code 25 = .ok (.invokevirtual 38, 3) := by decide +kernel
theorem d_Sr_accepts_28 : decode prog_6_method_3_code 28 = .ok (.ireturn, 1) := by decide +kernel
theorem d_Sr_accepts_29 : decode prog_6_method_3_code 29 = .ok (.iload_n 1, 1) := by decide +kernel
theorem d_Sr_accepts_30 : decode prog_6_method_3_code 30 = .ok (.bipush 40, 2) := by decide +kernel
theorem d_Sr_accepts_32 : decode prog_6_method_3_code 32 = .ok (.if_icmp .ne 8, 3) := by decide +kernel
theorem d_Sr_accepts_35 : decode prog_6_method_3_code 35 = .ok (.aload_n 0, 1) := by decide +kernel
theorem d_Sr_accepts_36 : decode prog_6_method_3_code 36 = .ok (.invokevirtual 42, 3) := by decide +kernel
theorem d_Sr_accepts_39 : decode prog_6_method_3_code 39 = .ok (.ireturn, 1) := by decide +kernel
theorem d_Sr_accepts_40 : decode prog_6_method_3_code 40 = .ok (.aload_n 0, 1) := by decide +kernel
theorem d_Sr_accepts_41 : decode prog_6_method_3_code 41 = .ok (.iload_n 1, 1) := by decide +kernel
theorem d_Sr_accepts_42 : decode prog_6_method_3_code 42 = .ok (.invokevirtual 45, 3) := by decide +kernel
theorem d_Sr_accepts_45 : decode prog_6_method_3_code 45 = .ok (.ireturn, 1) := by decide +kernel
-- PlayStates$StateReader.accepts(I)Z 
def ws_Sr_accepts (G : gG) (a_t a_t_board a_t_board_entries a_t_board_markBits : Nat) (n : Nat) (x_t_placeCount : Int32) (x_t_placesRead : Int32) (x_t_mayOpen : Int32) (x_t_open : Int32) (x_t_lastMark : Int32) (x_t_board_entries : Nat → Int32) (x_t_board_markBits : Nat → Int32) : va_W := [(a_t, .inr (4, [.ref a_t_board, .int x_t_placeCount, .int x_t_placesRead, .int x_t_mayOpen, .int x_t_open, .int x_t_lastMark])), (a_t_board, .inr (0, [.ref a_t_board_entries, .ref a_t_board_markBits])), (a_t_board_entries, .inl (G.2 0, n, .inl x_t_board_entries)), (a_t_board_markBits, .inl (G.2 0, n, .inl x_t_board_markBits))]
def f_Sr_accepts (n : Nat) (p0 : Int32) (x_t_placeCount : Int32) (x_t_placesRead : Int32) (x_t_mayOpen : Int32) (x_t_open : Int32) (x_t_lastMark : Int32) (x_t_board_entries : Nat → Int32) (x_t_board_markBits : Nat → Int32) : Option (Int32 × Int32 × Int32 × Int32 × Int32 × (Nat → Int32) × (Nat → Int32)) :=
  (if x_t_open = 0 then (if p0 = (40 : Int32) then ((f_Sr_acceptsOpening x_t_placeCount x_t_placesRead x_t_mayOpen x_t_open x_t_lastMark).bind fun y5 => (if (y5.1 = 0 ∨ y5.1 = 1) then some (y5.1, x_t_placesRead, y5.2.1, y5.2.2.1, y5.2.2.2, x_t_board_entries, x_t_board_markBits) else none)) else ((f_Sr_acceptsEntry n p0 x_t_placeCount x_t_placesRead x_t_mayOpen x_t_open x_t_lastMark x_t_board_entries x_t_board_markBits).bind fun y3 => (if (y3.1 = 0 ∨ y3.1 = 1) then some (y3.1, y3.2.1, y3.2.2.1, x_t_open, x_t_lastMark, y3.2.2.2.1, y3.2.2.2.2) else none))) else (if p0 = (41 : Int32) then ((f_Sr_acceptsClosing x_t_placeCount x_t_placesRead x_t_mayOpen x_t_open x_t_lastMark).bind fun y10 => (if (y10.1 = 0 ∨ y10.1 = 1) then some (y10.1, x_t_placesRead, x_t_mayOpen, y10.2, x_t_lastMark, x_t_board_entries, x_t_board_markBits) else none)) else ((f_Sr_acceptsMark n (p0 - (48 : Int32)) x_t_placeCount x_t_placesRead x_t_mayOpen x_t_open x_t_lastMark x_t_board_entries x_t_board_markBits).bind fun y8 => (if (y8.1 = 0 ∨ y8.1 = 1) then some (y8.1, x_t_placesRead, x_t_mayOpen, x_t_open, y8.2.1, y8.2.2.1, y8.2.2.2) else none))))
set_option maxHeartbeats 4000000 in
set_option maxRecDepth 100000 in
theorem c_Sr_accepts (l : Launch) (G : gG) (sz : Nat) (a_t a_t_board a_t_board_entries a_t_board_markBits : Nat) (n : Nat) (p0 : Int32) (x_t_placeCount : Int32) (x_t_placesRead : Int32) (x_t_mayOpen : Int32) (x_t_open : Int32) (x_t_lastMark : Int32) (x_t_board_entries : Nat → Int32) (x_t_board_markBits : Nat → Int32) (r : Int32) (x_t_placesRead' : Int32) (x_t_mayOpen' : Int32) (x_t_open' : Int32) (x_t_lastMark' : Int32) (x_t_board_entries' : Nat → Int32) (x_t_board_markBits' : Nat → Int32) (h : f_Sr_accepts n p0 x_t_placeCount x_t_placesRead x_t_mayOpen x_t_open x_t_lastMark x_t_board_entries x_t_board_markBits = some (r, x_t_placesRead', x_t_mayOpen', x_t_open', x_t_lastMark', x_t_board_entries', x_t_board_markBits'))  : cN l y_Sr_accepts w_Sr_accepts { frames := 2, cells := 0, slots := 0, locals := 44 } G sz [.ref a_t, .int p0] (ws_Sr_accepts G a_t a_t_board a_t_board_entries a_t_board_markBits n x_t_placeCount x_t_placesRead x_t_mayOpen x_t_open x_t_lastMark x_t_board_entries x_t_board_markBits) (some (.int r)) (wB G (ws_Sr_accepts G a_t a_t_board a_t_board_entries a_t_board_markBits n x_t_placeCount x_t_placesRead' x_t_mayOpen' x_t_open' x_t_lastMark' x_t_board_entries' x_t_board_markBits')) 0 0 := by
  refine cN_ofW (cc := prog_6_method_3_code) (maxL := 2) (ret := (some .boolean)) (by decide) rfl (Nat.le_of_ble_eq_true rfl) ?_
  intro p e s m args below meth c A H locs ls hx hb hr hts hown hlocks hin hml hK hN hP hD hA hS hl
  replace hl : lv_has ls 2 [(0, .ref a_t), (1, .int p0)] := hl
  replace hown : s.vm.findClass "PlayStates$StateReader" = some m.cls := hown
  unfold f_Sr_accepts at h
  refine lv_aload_n hx hb d_Sr_accepts_0 rfl (lv_at hl 0 rfl) ?_
  refine va_get (D := G.1) (ci := 4) (v := .int x_t_open) (C := "PlayStates$StateReader") (T := TSr) (N := 6) hx hb hts iw_4 hown hK hP 0 rfl rfl 4 (by decide) (hts _ gw_94) (fun _ h9 => h9) rfl d_Sr_accepts_1 ?_
  refine lv_if_eq (tgt := 29) hx hb d_Sr_accepts_4 (by decide) (fun c1 => ?_) (fun c1 => ?_)
  · replace h := (if_pos c1).symm.trans h
    refine lv_iload_n hx hb d_Sr_accepts_29 rfl (lv_at hl 1 rfl) ?_
    refine lv_bipush (v := (40 : Int32)) hx hb d_Sr_accepts_30 (by decide) ?_
    refine lv_icmp_ne (tgt := 40) hx hb d_Sr_accepts_32 (by decide) (fun c2 => ?_) (fun c2 => ?_)
    · replace h := (if_neg c2).symm.trans h
      refine lv_aload_n hx hb d_Sr_accepts_40 rfl (lv_at hl 0 rfl) ?_
      refine lv_iload_n hx hb d_Sr_accepts_41 rfl (lv_at hl 1 rfl) ?_
      obtain ⟨y3, hy3, h⟩ := o_bind h
      have hPc := hP.sub (ws' := (ws_Sr_acceptsEntry G a_t a_t_board a_t_board_entries a_t_board_markBits n x_t_placeCount x_t_placesRead x_t_mayOpen x_t_open x_t_lastMark x_t_board_entries x_t_board_markBits)) [0, 1, 2, 3] rfl
      have hDc := hD.sub (ws' := (ws_Sr_acceptsEntry G a_t a_t_board a_t_board_entries a_t_board_markBits n x_t_placeCount x_t_placesRead x_t_mayOpen x_t_open x_t_lastMark x_t_board_entries x_t_board_markBits)) [0, 1, 2, 3] (by decide) rfl
      have hFc := va_free (wc := (ws_Sr_acceptsEntry G a_t a_t_board a_t_board_entries a_t_board_markBits n x_t_placeCount x_t_placesRead x_t_mayOpen x_t_open x_t_lastMark x_t_board_entries x_t_board_markBits)) hD hS hA [0, 1, 2, 3] rfl
      refine q_call1 (va_runV (As := [.int p0]) (rest := []) ⟨hx, hb, hml, hown, hts⟩ (c_Sr_acceptsEntry l G H.size a_t a_t_board a_t_board_entries a_t_board_markBits n p0 x_t_placeCount x_t_placesRead x_t_mayOpen x_t_open x_t_lastMark x_t_board_entries x_t_board_markBits _ _ _ _ _ hy3) (cwV 1 hts (gV gw_350 gw_351 gw_14 gw_35 gw_352) rfl rfl rfl (by decide +kernel) ⟨Nat.le_of_ble_eq_true rfl, Nat.le_of_ble_eq_true rfl⟩) (pV hK hN hPc hDc (ci := 4) (q0 := 0) rfl rfl) rfl rfl hl.1 rfl (lv_room (Nat.le_of_ble_eq_true rfl)) d_Sr_accepts_42 ⟨Nat.le_of_ble_eq_true rfl, Nat.le_of_ble_eq_true rfl⟩) hS (fun q _ h => hFc q h) hFc (fun H1 locs hB hz hk hS => ?_)
      obtain ⟨hP, hD⟩ := q_joinA hFc hB.1 hB.2
      generalize H1 = H at hP hS ⊢
      replace hP : va_P G.1 vwCl (ws_Sr_accepts G a_t a_t_board a_t_board_entries a_t_board_markBits n x_t_placeCount y3.2.1 y3.2.2.1 x_t_open x_t_lastMark y3.2.2.2.1 y3.2.2.2.2) H := hP
      replace hD : va_D A (ws_Sr_accepts G a_t a_t_board a_t_board_entries a_t_board_markBits n x_t_placeCount y3.2.1 y3.2.2.1 x_t_open x_t_lastMark y3.2.2.2.1 y3.2.2.2.2) := hD
      obtain ⟨b4, h⟩ := o_if h
      cases h
      exact q_zretW hx hb hr hlocks (bool01 b4).1 hP hD hS d_Sr_accepts_45
    · replace h := (if_pos c2).symm.trans h
      refine lv_aload_n hx hb d_Sr_accepts_35 rfl (lv_at hl 0 rfl) ?_
      obtain ⟨y5, hy5, h⟩ := o_bind h
      have hPc := hP.sub (ws' := (ws_Sr_acceptsOpening G a_t a_t_board x_t_placeCount x_t_placesRead x_t_mayOpen x_t_open x_t_lastMark)) [0] rfl
      have hDc := hD.sub (ws' := (ws_Sr_acceptsOpening G a_t a_t_board x_t_placeCount x_t_placesRead x_t_mayOpen x_t_open x_t_lastMark)) [0] (by decide) rfl
      have hFc := va_free (wc := (ws_Sr_acceptsOpening G a_t a_t_board x_t_placeCount x_t_placesRead x_t_mayOpen x_t_open x_t_lastMark)) hD hS hA [0] rfl
      refine q_call1 (va_runV (As := []) (rest := []) ⟨hx, hb, hml, hown, hts⟩ (c_Sr_acceptsOpening l G H.size a_t a_t_board x_t_placeCount x_t_placesRead x_t_mayOpen x_t_open x_t_lastMark _ _ _ _ hy5) (cwV 0 hts (gV gw_347 gw_348 gw_13 gw_35 gw_349) rfl rfl rfl (by decide +kernel) ⟨Nat.le_of_ble_eq_true rfl, Nat.le_of_ble_eq_true rfl⟩) (pV hK hN hPc hDc (ci := 4) (q0 := 0) rfl rfl) rfl rfl hl.1 rfl (lv_room (Nat.le_of_ble_eq_true rfl)) d_Sr_accepts_36 ⟨Nat.le_of_ble_eq_true rfl, Nat.le_of_ble_eq_true rfl⟩) hS (fun q _ h => hFc q h) hFc (fun H1 locs hB hz hk hS => ?_)
      obtain ⟨hP, hD⟩ := q_join (wr := [(a_t_board, .inr (0, [.ref a_t_board_entries, .ref a_t_board_markBits])), (a_t_board_entries, .inl (G.2 0, n, .inl x_t_board_entries)), (a_t_board_markBits, .inl (G.2 0, n, .inl x_t_board_markBits))]) (wn := (ws_Sr_accepts G a_t a_t_board a_t_board_entries a_t_board_markBits n x_t_placeCount x_t_placesRead y5.2.1 y5.2.2.1 y5.2.2.2 x_t_board_entries x_t_board_markBits)) hP hD [0] [1, 2, 3] [3, 0, 1, 2] rfl rfl (by decide) (by decide) rfl (by decide) hk hFc hB.1 hB.2
      generalize H1 = H at hP hS ⊢
      replace hP : va_P G.1 vwCl (ws_Sr_accepts G a_t a_t_board a_t_board_entries a_t_board_markBits n x_t_placeCount x_t_placesRead y5.2.1 y5.2.2.1 y5.2.2.2 x_t_board_entries x_t_board_markBits) H := hP
      replace hD : va_D A (ws_Sr_accepts G a_t a_t_board a_t_board_entries a_t_board_markBits n x_t_placeCount x_t_placesRead y5.2.1 y5.2.2.1 y5.2.2.2 x_t_board_entries x_t_board_markBits) := hD
      obtain ⟨b6, h⟩ := o_if h
      cases h
      exact q_zretW hx hb hr hlocks (bool01 b6).1 hP hD hS d_Sr_accepts_39
  · replace h := (if_neg c1).symm.trans h
    refine lv_iload_n hx hb d_Sr_accepts_7 rfl (lv_at hl 1 rfl) ?_
    refine lv_bipush (v := (41 : Int32)) hx hb d_Sr_accepts_8 (by decide) ?_
    refine lv_icmp_ne (tgt := 20) hx hb d_Sr_accepts_10 (by decide) (fun c7 => ?_) (fun c7 => ?_)
    · replace h := (if_neg c7).symm.trans h
      refine lv_aload_n hx hb d_Sr_accepts_20 rfl (lv_at hl 0 rfl) ?_
      refine lv_iload_n hx hb d_Sr_accepts_21 rfl (lv_at hl 1 rfl) ?_
      refine lv_bipush (v := (48 : Int32)) hx hb d_Sr_accepts_22 (by decide) ?_
      refine lv_isub hx hb d_Sr_accepts_24 ?_
      obtain ⟨y8, hy8, h⟩ := o_bind h
      have hPc := hP.sub (ws' := (ws_Sr_acceptsMark G a_t a_t_board a_t_board_entries a_t_board_markBits n x_t_placeCount x_t_placesRead x_t_mayOpen x_t_open x_t_lastMark x_t_board_entries x_t_board_markBits)) [0, 1, 2, 3] rfl
      have hDc := hD.sub (ws' := (ws_Sr_acceptsMark G a_t a_t_board a_t_board_entries a_t_board_markBits n x_t_placeCount x_t_placesRead x_t_mayOpen x_t_open x_t_lastMark x_t_board_entries x_t_board_markBits)) [0, 1, 2, 3] (by decide) rfl
      have hFc := va_free (wc := (ws_Sr_acceptsMark G a_t a_t_board a_t_board_entries a_t_board_markBits n x_t_placeCount x_t_placesRead x_t_mayOpen x_t_open x_t_lastMark x_t_board_entries x_t_board_markBits)) hD hS hA [0, 1, 2, 3] rfl
      refine q_call1 (va_runV (As := [.int (p0 - (48 : Int32))]) (rest := []) ⟨hx, hb, hml, hown, hts⟩ (c_Sr_acceptsMark l G H.size a_t a_t_board a_t_board_entries a_t_board_markBits n (p0 - (48 : Int32)) x_t_placeCount x_t_placesRead x_t_mayOpen x_t_open x_t_lastMark x_t_board_entries x_t_board_markBits _ _ _ _ hy8) (cwV 1 hts (gV gw_343 gw_344 gw_12 gw_35 gw_345) rfl rfl rfl (by decide +kernel) ⟨Nat.le_of_ble_eq_true rfl, Nat.le_of_ble_eq_true rfl⟩) (pV hK hN hPc hDc (ci := 4) (q0 := 0) rfl rfl) rfl rfl hl.1 rfl (lv_room (Nat.le_of_ble_eq_true rfl)) d_Sr_accepts_25 ⟨Nat.le_of_ble_eq_true rfl, Nat.le_of_ble_eq_true rfl⟩) hS (fun q _ h => hFc q h) hFc (fun H1 locs hB hz hk hS => ?_)
      obtain ⟨hP, hD⟩ := q_joinA hFc hB.1 hB.2
      generalize H1 = H at hP hS ⊢
      replace hP : va_P G.1 vwCl (ws_Sr_accepts G a_t a_t_board a_t_board_entries a_t_board_markBits n x_t_placeCount x_t_placesRead x_t_mayOpen x_t_open y8.2.1 y8.2.2.1 y8.2.2.2) H := hP
      replace hD : va_D A (ws_Sr_accepts G a_t a_t_board a_t_board_entries a_t_board_markBits n x_t_placeCount x_t_placesRead x_t_mayOpen x_t_open y8.2.1 y8.2.2.1 y8.2.2.2) := hD
      obtain ⟨b9, h⟩ := o_if h
      cases h
      exact q_zretW hx hb hr hlocks (bool01 b9).1 hP hD hS d_Sr_accepts_28
    · replace h := (if_pos c7).symm.trans h
      refine lv_aload_n hx hb d_Sr_accepts_13 rfl (lv_at hl 0 rfl) ?_
      obtain ⟨y10, hy10, h⟩ := o_bind h
      have hPc := hP.sub (ws' := (ws_Sr_acceptsClosing G a_t a_t_board x_t_placeCount x_t_placesRead x_t_mayOpen x_t_open x_t_lastMark)) [0] rfl
      have hDc := hD.sub (ws' := (ws_Sr_acceptsClosing G a_t a_t_board x_t_placeCount x_t_placesRead x_t_mayOpen x_t_open x_t_lastMark)) [0] (by decide) rfl
      have hFc := va_free (wc := (ws_Sr_acceptsClosing G a_t a_t_board x_t_placeCount x_t_placesRead x_t_mayOpen x_t_open x_t_lastMark)) hD hS hA [0] rfl
      refine q_call1 (va_runV (As := []) (rest := []) ⟨hx, hb, hml, hown, hts⟩ (c_Sr_acceptsClosing l G H.size a_t a_t_board x_t_placeCount x_t_placesRead x_t_mayOpen x_t_open x_t_lastMark _ _ hy10) (cwV 0 hts (gV gw_340 gw_341 gw_11 gw_35 gw_342) rfl rfl rfl (by decide +kernel) ⟨Nat.le_of_ble_eq_true rfl, Nat.le_of_ble_eq_true rfl⟩) (pV hK hN hPc hDc (ci := 4) (q0 := 0) rfl rfl) rfl rfl hl.1 rfl (lv_room (Nat.le_of_ble_eq_true rfl)) d_Sr_accepts_14 ⟨Nat.le_of_ble_eq_true rfl, Nat.le_of_ble_eq_true rfl⟩) hS (fun q _ h => hFc q h) hFc (fun H1 locs hB hz hk hS => ?_)
      obtain ⟨hP, hD⟩ := q_join (wr := [(a_t_board, .inr (0, [.ref a_t_board_entries, .ref a_t_board_markBits])), (a_t_board_entries, .inl (G.2 0, n, .inl x_t_board_entries)), (a_t_board_markBits, .inl (G.2 0, n, .inl x_t_board_markBits))]) (wn := (ws_Sr_accepts G a_t a_t_board a_t_board_entries a_t_board_markBits n x_t_placeCount x_t_placesRead x_t_mayOpen y10.2 x_t_lastMark x_t_board_entries x_t_board_markBits)) hP hD [0] [1, 2, 3] [3, 0, 1, 2] rfl rfl (by decide) (by decide) rfl (by decide) hk hFc hB.1 hB.2
      generalize H1 = H at hP hS ⊢
      replace hP : va_P G.1 vwCl (ws_Sr_accepts G a_t a_t_board a_t_board_entries a_t_board_markBits n x_t_placeCount x_t_placesRead x_t_mayOpen y10.2 x_t_lastMark x_t_board_entries x_t_board_markBits) H := hP
      replace hD : va_D A (ws_Sr_accepts G a_t a_t_board a_t_board_entries a_t_board_markBits n x_t_placeCount x_t_placesRead x_t_mayOpen y10.2 x_t_lastMark x_t_board_entries x_t_board_markBits) := hD
      refine lv_goto (tgt := 28) hx hb d_Sr_accepts_17 (by decide) ?_
      obtain ⟨b11, h⟩ := o_if h
      cases h
      exact q_zretW hx hb hr hlocks (bool01 b11).1 hP hD hS d_Sr_accepts_28
end
section
theorem gw_178 : (.code ⟨"PlayStates$Board", "asItIs", "(II)I"⟩ prog_2_method_4_code 4 (some .int) : Cond) ∈ GW := gT 204 (by decide +kernel) (by decide +kernel)
theorem gw_175 : (.methodLink "PlayStates" 205 ⟨"PlayStates$Board", "asItIs", "(II)I"⟩ : Cond) ∈ GW := gT 201 (by decide +kernel) (by decide +kernel)
theorem gw_176 : (.instanceMethod ⟨"PlayStates$Board", "asItIs", "(II)I"⟩ : Cond) ∈ GW := gT 202 (by decide +kernel) (by decide +kernel)
theorem gw_177 : (.selects "PlayStates$Board" ⟨"PlayStates$Board", "asItIs", "(II)I"⟩ ⟨"PlayStates$Board", "asItIs", "(II)I"⟩ : Cond) ∈ GW := gT 203 (by decide +kernel) (by decide +kernel)
theorem gw_106 : (.fieldLink "PlayStates" 35 "PlayStates" "table" "LPlayStates$RowTable;" : Cond) ∈ GW := gT 100 (by decide +kernel) (by decide +kernel)
theorem gw_186 : (.code ⟨"PlayStates$RowTable", "hasRoomFor", "(I)Z"⟩ prog_5_method_3_code 2 (some .boolean) : Cond) ∈ GW := gT 212 (by decide +kernel) (by decide +kernel)
theorem gw_183 : (.methodLink "PlayStates" 169 ⟨"PlayStates$RowTable", "hasRoomFor", "(I)Z"⟩ : Cond) ∈ GW := gT 209 (by decide +kernel) (by decide +kernel)
theorem gw_33 : (.initialized "PlayStates$RowTable" : Cond) ∈ GW := gT 3 (by decide +kernel) (by decide +kernel)
theorem gw_184 : (.instanceMethod ⟨"PlayStates$RowTable", "hasRoomFor", "(I)Z"⟩ : Cond) ∈ GW := gT 210 (by decide +kernel) (by decide +kernel)
theorem gw_185 : (.selects "PlayStates$RowTable" ⟨"PlayStates$RowTable", "hasRoomFor", "(I)Z"⟩ ⟨"PlayStates$RowTable", "hasRoomFor", "(I)Z"⟩ : Cond) ∈ GW := gT 211 (by decide +kernel) (by decide +kernel)
theorem gw_190 : (.code ⟨"PlayStates$RowTable", "add", "(IIII)I"⟩ prog_5_method_4_code 6 (some .int) : Cond) ∈ GW := gT 216 (by decide +kernel) (by decide +kernel)
theorem gw_187 : (.methodLink "PlayStates" 208 ⟨"PlayStates$RowTable", "add", "(IIII)I"⟩ : Cond) ∈ GW := gT 213 (by decide +kernel) (by decide +kernel)
theorem gw_188 : (.instanceMethod ⟨"PlayStates$RowTable", "add", "(IIII)I"⟩ : Cond) ∈ GW := gT 214 (by decide +kernel) (by decide +kernel)
theorem gw_189 : (.selects "PlayStates$RowTable" ⟨"PlayStates$RowTable", "add", "(IIII)I"⟩ ⟨"PlayStates$RowTable", "add", "(IIII)I"⟩ : Cond) ∈ GW := gT 215 (by decide +kernel) (by decide +kernel)
theorem gw_191 : (.methodLink "PlayStates" 108 ⟨"PlayStates$Board", "put", "(II)V"⟩ : Cond) ∈ GW := gT 217 (by decide +kernel) (by decide +kernel)
theorem d_PS_tell_0 : decode prog_1_method_28_code 0 = .ok (.aload_n 1, 1) := by decide +kernel
theorem d_PS_tell_1 : decode prog_1_method_28_code 1 = .ok (.getfield 99, 3) := by decide +kernel
theorem d_PS_tell_4 : decode prog_1_method_28_code 4 = .ok (.iload_n 2, 1) := by decide +kernel
theorem d_PS_tell_5 : decode prog_1_method_28_code 5 = .ok (.iload_n 3, 1) := by decide +kernel
theorem d_PS_tell_6 : decode prog_1_method_28_code 6 = .ok (.invokevirtual 205, 3) := by decide +kernel
theorem d_PS_tell_9 : decode prog_1_method_28_code 9 = .ok (.istore 4, 2) := by decide +kernel
theorem d_PS_tell_11 : decode prog_1_method_28_code 11 = .ok (.iload 4, 2) := by decide +kernel
theorem d_PS_tell_13 : decode prog_1_method_28_code 13 = .ok (.iload_n 3, 1) := by decide +kernel
theorem d_PS_tell_14 : decode prog_1_method_28_code 14 = .ok (.if_icmp .eq 14, 3) := by decide +kernel
theorem d_PS_tell_17 : decode prog_1_method_28_code 17 = .ok (.aload_n 0, 1) := by decide +kernel
theorem d_PS_tell_18 : decode prog_1_method_28_code 18 = .ok (.getfield 35, 3) := by decide +kernel
theorem d_PS_tell_21 : decode prog_1_method_28_code 21 = .ok (.iconst 1, 1) := by decide +kernel
theorem d_PS_tell_22 : decode prog_1_method_28_code 22 = .ok (.invokevirtual 169, 3) := by decide +kernel
theorem d_PS_tell_25 : decode prog_1_method_28_code 25 = .ok (.ifCond .ne 5, 3) := by decide +kernel
theorem d_PS_tell_28 : decode prog_1_method_28_code 28 = .ok (.iconst (-1), 1) := by decide +kernel
theorem d_PS_tell_29 : decode prog_1_method_28_code 29 = .ok (.ireturn, 1) := by decide +kernel
theorem d_PS_tell_30 : decode prog_1_method_28_code 30 = .ok (.aload_n 1, 1) := by decide +kernel
theorem d_PS_tell_31 : decode prog_1_method_28_code 31 = .ok (.aload_n 0, 1) := by decide +kernel
theorem d_PS_tell_32 : decode prog_1_method_28_code 32 = .ok (.getfield 35, 3) := by decide +kernel
theorem d_PS_tell_35 : decode prog_1_method_28_code 35 = .ok (.iload_n 2, 1) := by decide +kernel
theorem d_PS_tell_36 : decode prog_1_method_28_code 36 = .ok (.iload_n 3, 1) := by decide +kernel
theorem d_PS_tell_37 : decode prog_1_method_28_code 37 = .ok (.iload 4, 2) := by decide +kernel
theorem d_PS_tell_39 : decode prog_1_method_28_code 39 = .ok (.aload_n 1, 1) := by decide +kernel
theorem d_PS_tell_40 : decode prog_1_method_28_code 40 = .ok (.getfield 93, 3) := by decide +kernel
theorem d_PS_tell_43 : decode prog_1_method_28_code 43 = .ok (.invokevirtual 208, 3) := by decide +kernel
theorem d_PS_tell_46 : decode prog_1_method_28_code 46 = .ok (.putfield 93, 3) := by decide +kernel
theorem d_PS_tell_49 : decode prog_1_method_28_code 49 = .ok (.aload_n 1, 1) := by decide +kernel
theorem d_PS_tell_50 : decode prog_1_method_28_code 50 = .ok (.getfield 99, 3) := by decide +kernel
theorem d_PS_tell_53 : decode prog_1_method_28_code 53 = .ok (.iload_n 2, 1) := by decide +kernel
theorem d_PS_tell_54 : decode prog_1_method_28_code 54 = .ok (.iload_n 3, 1) := by decide +kernel
theorem d_PS_tell_55 : decode prog_1_method_28_code 55 = .ok (.invokevirtual 108, 3) := by decide +kernel
theorem d_PS_tell_58 : decode prog_1_method_28_code 58 = .ok (.aload_n 1, 1) := by decide +kernel
theorem d_PS_tell_59 : decode prog_1_method_28_code 59 = .ok (.getfield 93, 3) := by decide +kernel
theorem d_PS_tell_62 : decode prog_1_method_28_code 62 = .ok (.ireturn, 1) := by decide +kernel
-- PlayStates.tell(LPlayStates$Person;II)I 
def ws_PS_tell (G : gG) (a_t a_t_right a_t_persons a_t_joining a_t_units a_t_draft a_t_reader a_t_table a_t_table_place a_t_table_told a_t_table_before a_t_table_behind a_w a_w_clock a_w_board a_w_board_entries a_w_board_markBits : Nat) (n : Nat) (x_t_placeCount : Int32) (x_t_personCount : Int32) (x_t_unitCount : Int32) (x_t_table_count : Int32) (x_t_table_place : Nat → Int32) (x_t_table_told : Nat → Int32) (x_t_table_before : Nat → Int32) (x_t_table_behind : Nat → Int32) (x_w_number : Int32) (x_w_present : Int32) (x_w_helpCount : Int32) (x_w_board_entries : Nat → Int32) (x_w_board_markBits : Nat → Int32) : va_W := [(a_t, .inr (5, [.int x_t_placeCount, .ref a_t_right, .ref a_t_persons, .int x_t_personCount, .ref a_t_table, .ref a_t_joining, .ref a_t_units, .int x_t_unitCount, .ref a_t_draft, .ref a_t_reader])), (a_t_table, .inr (3, [.ref a_t_table_place, .ref a_t_table_told, .ref a_t_table_before, .ref a_t_table_behind, .int x_t_table_count])), (a_t_table_place, .inl (G.2 0, 600, .inl x_t_table_place)), (a_t_table_told, .inl (G.2 0, 600, .inl x_t_table_told)), (a_t_table_before, .inl (G.2 0, 600, .inl x_t_table_before)), (a_t_table_behind, .inl (G.2 0, 600, .inl x_t_table_behind)), (a_w, .inr (2, [.int x_w_number, .ref a_w_board, .ref a_w_clock, .int x_w_present, .int x_w_helpCount])), (a_w_board, .inr (0, [.ref a_w_board_entries, .ref a_w_board_markBits])), (a_w_board_entries, .inl (G.2 0, n, .inl x_w_board_entries)), (a_w_board_markBits, .inl (G.2 0, n, .inl x_w_board_markBits))]
def f_PS_tell (n : Nat) (p1 : Int32) (p2 : Int32) (x_t_placeCount : Int32) (x_t_personCount : Int32) (x_t_unitCount : Int32) (x_t_table_count : Int32) (x_t_table_place : Nat → Int32) (x_t_table_told : Nat → Int32) (x_t_table_before : Nat → Int32) (x_t_table_behind : Nat → Int32) (x_w_number : Int32) (x_w_present : Int32) (x_w_helpCount : Int32) (x_w_board_entries : Nat → Int32) (x_w_board_markBits : Nat → Int32) : Option (Int32 × Int32 × (Nat → Int32) × (Nat → Int32) × (Nat → Int32) × (Nat → Int32) × Int32 × (Nat → Int32) × (Nat → Int32)) :=
  ((f_Bd_asItIs n p1 p2 x_w_board_entries x_w_board_markBits).bind fun y1 => (if y1 = p2 then some ((-1 : Int32), x_t_table_count, x_t_table_place, x_t_table_told, x_t_table_before, x_t_table_behind, x_w_present, x_w_board_entries, x_w_board_markBits) else ((f_Rt_hasRoomFor (1 : Int32) x_t_table_count).bind fun y3 => (if y3 = 0 then some ((-1 : Int32), x_t_table_count, x_t_table_place, x_t_table_told, x_t_table_before, x_t_table_behind, x_w_present, x_w_board_entries, x_w_board_markBits) else ((f_Rt_add p1 p2 y1 x_w_present x_t_table_count x_t_table_place x_t_table_told x_t_table_before x_t_table_behind).bind fun y5 => ((f_Bd_put n p1 p2 x_w_board_entries x_w_board_markBits).bind fun y6 => some (y5.1, y5.2.1, y5.2.2.1, y5.2.2.2.1, y5.2.2.2.2.1, y5.2.2.2.2.2, y5.1, y6.1, y6.2)))))))
set_option maxHeartbeats 4000000 in
set_option maxRecDepth 100000 in
theorem c_PS_tell (l : Launch) (G : gG) (sz : Nat) (a_t a_t_right a_t_persons a_t_joining a_t_units a_t_draft a_t_reader a_t_table a_t_table_place a_t_table_told a_t_table_before a_t_table_behind a_w a_w_clock a_w_board a_w_board_entries a_w_board_markBits : Nat) (n : Nat) (p1 : Int32) (p2 : Int32) (x_t_placeCount : Int32) (x_t_personCount : Int32) (x_t_unitCount : Int32) (x_t_table_count : Int32) (x_t_table_place : Nat → Int32) (x_t_table_told : Nat → Int32) (x_t_table_before : Nat → Int32) (x_t_table_behind : Nat → Int32) (x_w_number : Int32) (x_w_present : Int32) (x_w_helpCount : Int32) (x_w_board_entries : Nat → Int32) (x_w_board_markBits : Nat → Int32) (r : Int32) (x_t_table_count' : Int32) (x_t_table_place' : Nat → Int32) (x_t_table_told' : Nat → Int32) (x_t_table_before' : Nat → Int32) (x_t_table_behind' : Nat → Int32) (x_w_present' : Int32) (x_w_board_entries' : Nat → Int32) (x_w_board_markBits' : Nat → Int32) (h : f_PS_tell n p1 p2 x_t_placeCount x_t_personCount x_t_unitCount x_t_table_count x_t_table_place x_t_table_told x_t_table_before x_t_table_behind x_w_number x_w_present x_w_helpCount x_w_board_entries x_w_board_markBits = some (r, x_t_table_count', x_t_table_place', x_t_table_told', x_t_table_before', x_t_table_behind', x_w_present', x_w_board_entries', x_w_board_markBits'))  : cN l y_PS_tell w_PS_tell { frames := 2, cells := 0, slots := 0, locals := 45 } G sz [.ref a_t, .ref a_w, .int p1, .int p2] (ws_PS_tell G a_t a_t_right a_t_persons a_t_joining a_t_units a_t_draft a_t_reader a_t_table a_t_table_place a_t_table_told a_t_table_before a_t_table_behind a_w a_w_clock a_w_board a_w_board_entries a_w_board_markBits n x_t_placeCount x_t_personCount x_t_unitCount x_t_table_count x_t_table_place x_t_table_told x_t_table_before x_t_table_behind x_w_number x_w_present x_w_helpCount x_w_board_entries x_w_board_markBits) (some (.int r)) (wB G (ws_PS_tell G a_t a_t_right a_t_persons a_t_joining a_t_units a_t_draft a_t_reader a_t_table a_t_table_place a_t_table_told a_t_table_before a_t_table_behind a_w a_w_clock a_w_board a_w_board_entries a_w_board_markBits n x_t_placeCount x_t_personCount x_t_unitCount x_t_table_count' x_t_table_place' x_t_table_told' x_t_table_before' x_t_table_behind' x_w_number x_w_present' x_w_helpCount x_w_board_entries' x_w_board_markBits')) 0 0 := by
  refine cN_ofW (cc := prog_1_method_28_code) (maxL := 5) (ret := (some .int)) (by decide) rfl (Nat.le_of_ble_eq_true rfl) ?_
  intro p e s m args below meth c A H locs ls hx hb hr hts hown hlocks hin hml hK hN hP hD hA hS hl
  replace hl : lv_has ls 5 [(0, .ref a_t), (1, .ref a_w), (2, .int p1), (3, .int p2)] := hl
  replace hown : s.vm.findClass "PlayStates" = some m.cls := hown
  unfold f_PS_tell at h
  refine lv_aload_n hx hb d_PS_tell_0 rfl (lv_at hl 1 rfl) ?_
  refine va_getN (D := G.1) (ci := 2) (v := .ref a_w_board) (C := "PlayStates$Person") (T := TPn) (N := 5) hx hb hts iw_2 hown hK hP 6 rfl rfl 1 (by decide) (va_Nw.use rfl (hN.1 ("PlayStates", 99, "PlayStates$Person", "board", "LPlayStates$Board;", "PlayStates") (by decide +kernel))) (fun _ h9 => h9) rfl d_PS_tell_1 ?_
  refine lv_iload_n hx hb d_PS_tell_4 rfl (lv_at hl 2 rfl) ?_
  refine lv_iload_n hx hb d_PS_tell_5 rfl (lv_at hl 3 rfl) ?_
  obtain ⟨y1, hy1, h⟩ := o_bind h
  have hPc := hP.sub (ws' := (ws_Bd_asItIs G a_w_board a_w_board_entries a_w_board_markBits n x_w_board_entries x_w_board_markBits)) [7, 8, 9] rfl
  have hDc := hD.sub (ws' := (ws_Bd_asItIs G a_w_board a_w_board_entries a_w_board_markBits n x_w_board_entries x_w_board_markBits)) [7, 8, 9] (by decide) rfl
  have hFc := va_free (wc := (ws_Bd_asItIs G a_w_board a_w_board_entries a_w_board_markBits n x_w_board_entries x_w_board_markBits)) hD hS hA [7, 8, 9] rfl
  refine q_call1 (va_runV (As := [.int p1, .int p2]) (rest := []) ⟨hx, hb, hml, hown, hts⟩ (c_Bd_asItIs l G H.size a_w_board a_w_board_entries a_w_board_markBits n p1 p2 x_w_board_entries x_w_board_markBits _ hy1) (cwV 2 hts (gV gw_175 gw_176 gw_177 gw_34 gw_178) rfl rfl rfl (by decide +kernel) ⟨Nat.le_of_ble_eq_true rfl, Nat.le_of_ble_eq_true rfl⟩) (pV hK hN hPc hDc (ci := 0) (q0 := 0) rfl rfl) rfl rfl hl.1 rfl (lv_room (Nat.le_of_ble_eq_true rfl)) d_PS_tell_6 ⟨Nat.le_of_ble_eq_true rfl, Nat.le_of_ble_eq_true rfl⟩) hS (fun q _ h => hFc q h) hFc (fun H1 locs hB hz hk hS => ?_)
  obtain ⟨hP, hD⟩ := q_join (wr := [(a_t, .inr (5, [.int x_t_placeCount, .ref a_t_right, .ref a_t_persons, .int x_t_personCount, .ref a_t_table, .ref a_t_joining, .ref a_t_units, .int x_t_unitCount, .ref a_t_draft, .ref a_t_reader])), (a_t_table, .inr (3, [.ref a_t_table_place, .ref a_t_table_told, .ref a_t_table_before, .ref a_t_table_behind, .int x_t_table_count])), (a_t_table_place, .inl (G.2 0, 600, .inl x_t_table_place)), (a_t_table_told, .inl (G.2 0, 600, .inl x_t_table_told)), (a_t_table_before, .inl (G.2 0, 600, .inl x_t_table_before)), (a_t_table_behind, .inl (G.2 0, 600, .inl x_t_table_behind)), (a_w, .inr (2, [.int x_w_number, .ref a_w_board, .ref a_w_clock, .int x_w_present, .int x_w_helpCount]))]) (wn := (ws_PS_tell G a_t a_t_right a_t_persons a_t_joining a_t_units a_t_draft a_t_reader a_t_table a_t_table_place a_t_table_told a_t_table_before a_t_table_behind a_w a_w_clock a_w_board a_w_board_entries a_w_board_markBits n x_t_placeCount x_t_personCount x_t_unitCount x_t_table_count x_t_table_place x_t_table_told x_t_table_before x_t_table_behind x_w_number x_w_present x_w_helpCount x_w_board_entries x_w_board_markBits)) hP hD [7, 8, 9] [0, 1, 2, 3, 4, 5, 6] [0, 1, 2, 3, 4, 5, 6, 7, 8, 9] rfl rfl (by decide) (by decide) rfl (by decide) hk hFc hB.1 hB.2
  generalize H1 = H at hP hS ⊢
  replace hP : va_P G.1 vwCl (ws_PS_tell G a_t a_t_right a_t_persons a_t_joining a_t_units a_t_draft a_t_reader a_t_table a_t_table_place a_t_table_told a_t_table_before a_t_table_behind a_w a_w_clock a_w_board a_w_board_entries a_w_board_markBits n x_t_placeCount x_t_personCount x_t_unitCount x_t_table_count x_t_table_place x_t_table_told x_t_table_before x_t_table_behind x_w_number x_w_present x_w_helpCount x_w_board_entries x_w_board_markBits) H := hP
  replace hD : va_D A (ws_PS_tell G a_t a_t_right a_t_persons a_t_joining a_t_units a_t_draft a_t_reader a_t_table a_t_table_place a_t_table_told a_t_table_before a_t_table_behind a_w a_w_clock a_w_board a_w_board_entries a_w_board_markBits n x_t_placeCount x_t_personCount x_t_unitCount x_t_table_count x_t_table_place x_t_table_told x_t_table_before x_t_table_behind x_w_number x_w_present x_w_helpCount x_w_board_entries x_w_board_markBits) := hD
  refine lv_istore (lv' := [(4, .int y1), (0, .ref a_t), (1, .ref a_w), (2, .int p1), (3, .int p2)]) hx hb d_PS_tell_9 hl (by decide) rfl (fun ls hl => ?_)
  refine lv_iload hx hb d_PS_tell_11 (lv_at hl 0 rfl) ?_
  refine lv_iload_n hx hb d_PS_tell_13 rfl (lv_at hl 4 rfl) ?_
  refine lv_icmp_eq (tgt := 28) hx hb d_PS_tell_14 (by decide) (fun c2 => ?_) (fun c2 => ?_)
  · replace h := (if_pos c2).symm.trans h
    refine lv_iconst (v := (-1 : Int32)) hx hb d_PS_tell_28 (by decide) ?_
    cases h
    exact q_iretW hx hb hr hlocks hP hD hS d_PS_tell_29
  · replace h := (if_neg c2).symm.trans h
    refine lv_aload_n hx hb d_PS_tell_17 rfl (lv_at hl 1 rfl) ?_
    refine va_get (D := G.1) (ci := 5) (v := .ref a_t_table) (C := "PlayStates") (T := TPS) (N := 10) hx hb hts iw_5 hown hK hP 0 rfl rfl 4 (by decide) (hts _ gw_106) (fun _ h9 => h9) rfl d_PS_tell_18 ?_
    refine lv_iconst (v := (1 : Int32)) hx hb d_PS_tell_21 (by decide) ?_
    obtain ⟨y3, hy3, h⟩ := o_bind h
    have hPc := hP.sub (ws' := (ws_Rt_hasRoomFor G a_t_table a_t_table_place a_t_table_told a_t_table_before a_t_table_behind x_t_table_count)) [1] rfl
    have hDc := hD.sub (ws' := (ws_Rt_hasRoomFor G a_t_table a_t_table_place a_t_table_told a_t_table_before a_t_table_behind x_t_table_count)) [1] (by decide) rfl
    have hFc := va_free (wc := (ws_Rt_hasRoomFor G a_t_table a_t_table_place a_t_table_told a_t_table_before a_t_table_behind x_t_table_count)) hD hS hA [1] rfl
    refine q_call1 (va_runV (As := [.int (1 : Int32)]) (rest := []) ⟨hx, hb, hml, hown, hts⟩ (c_Rt_hasRoomFor l G H.size a_t_table a_t_table_place a_t_table_told a_t_table_before a_t_table_behind (1 : Int32) x_t_table_count _ hy3) (cwV 1 hts (gV gw_183 gw_184 gw_185 gw_33 gw_186) rfl rfl rfl (by decide +kernel) ⟨Nat.le_of_ble_eq_true rfl, Nat.le_of_ble_eq_true rfl⟩) (pV hK hN hPc hDc (ci := 3) (q0 := 0) rfl rfl) rfl rfl hl.1 rfl (lv_room (Nat.le_of_ble_eq_true rfl)) d_PS_tell_22 ⟨Nat.le_of_ble_eq_true rfl, Nat.le_of_ble_eq_true rfl⟩) hS (fun q _ h => hFc q h) hFc (fun H1 locs hB hz hk hS => ?_)
    obtain ⟨hP, hD⟩ := q_join (wr := [(a_t, .inr (5, [.int x_t_placeCount, .ref a_t_right, .ref a_t_persons, .int x_t_personCount, .ref a_t_table, .ref a_t_joining, .ref a_t_units, .int x_t_unitCount, .ref a_t_draft, .ref a_t_reader])), (a_t_table_place, .inl (G.2 0, 600, .inl x_t_table_place)), (a_t_table_told, .inl (G.2 0, 600, .inl x_t_table_told)), (a_t_table_before, .inl (G.2 0, 600, .inl x_t_table_before)), (a_t_table_behind, .inl (G.2 0, 600, .inl x_t_table_behind)), (a_w, .inr (2, [.int x_w_number, .ref a_w_board, .ref a_w_clock, .int x_w_present, .int x_w_helpCount])), (a_w_board, .inr (0, [.ref a_w_board_entries, .ref a_w_board_markBits])), (a_w_board_entries, .inl (G.2 0, n, .inl x_w_board_entries)), (a_w_board_markBits, .inl (G.2 0, n, .inl x_w_board_markBits))]) (wn := (ws_PS_tell G a_t a_t_right a_t_persons a_t_joining a_t_units a_t_draft a_t_reader a_t_table a_t_table_place a_t_table_told a_t_table_before a_t_table_behind a_w a_w_clock a_w_board a_w_board_entries a_w_board_markBits n x_t_placeCount x_t_personCount x_t_unitCount x_t_table_count x_t_table_place x_t_table_told x_t_table_before x_t_table_behind x_w_number x_w_present x_w_helpCount x_w_board_entries x_w_board_markBits)) hP hD [1] [0, 2, 3, 4, 5, 6, 7, 8, 9] [0, 9, 1, 2, 3, 4, 5, 6, 7, 8] rfl rfl (by decide) (by decide) rfl (by decide) hk hFc hB.1 hB.2
    generalize H1 = H at hP hS ⊢
    replace hP : va_P G.1 vwCl (ws_PS_tell G a_t a_t_right a_t_persons a_t_joining a_t_units a_t_draft a_t_reader a_t_table a_t_table_place a_t_table_told a_t_table_before a_t_table_behind a_w a_w_clock a_w_board a_w_board_entries a_w_board_markBits n x_t_placeCount x_t_personCount x_t_unitCount x_t_table_count x_t_table_place x_t_table_told x_t_table_before x_t_table_behind x_w_number x_w_present x_w_helpCount x_w_board_entries x_w_board_markBits) H := hP
    replace hD : va_D A (ws_PS_tell G a_t a_t_right a_t_persons a_t_joining a_t_units a_t_draft a_t_reader a_t_table a_t_table_place a_t_table_told a_t_table_before a_t_table_behind a_w a_w_clock a_w_board a_w_board_entries a_w_board_markBits n x_t_placeCount x_t_personCount x_t_unitCount x_t_table_count x_t_table_place x_t_table_told x_t_table_before x_t_table_behind x_w_number x_w_present x_w_helpCount x_w_board_entries x_w_board_markBits) := hD
    refine lv_if_ne (tgt := 30) hx hb d_PS_tell_25 (by decide) (fun c4 => ?_) (fun c4 => ?_)
    · replace h := (if_neg c4).symm.trans h
      refine lv_aload_n hx hb d_PS_tell_30 rfl (lv_at hl 2 rfl) ?_
      refine lv_aload_n hx hb d_PS_tell_31 rfl (lv_at hl 1 rfl) ?_
      refine va_get (D := G.1) (ci := 5) (v := .ref a_t_table) (C := "PlayStates") (T := TPS) (N := 10) hx hb hts iw_5 hown hK hP 0 rfl rfl 4 (by decide) (hts _ gw_106) (fun _ h9 => h9) rfl d_PS_tell_32 ?_
      refine lv_iload_n hx hb d_PS_tell_35 rfl (lv_at hl 3 rfl) ?_
      refine lv_iload_n hx hb d_PS_tell_36 rfl (lv_at hl 4 rfl) ?_
      refine lv_iload hx hb d_PS_tell_37 (lv_at hl 0 rfl) ?_
      refine lv_aload_n hx hb d_PS_tell_39 rfl (lv_at hl 2 rfl) ?_
      refine va_getN (D := G.1) (ci := 2) (v := .int x_w_present) (C := "PlayStates$Person") (T := TPn) (N := 5) hx hb hts iw_2 hown hK hP 6 rfl rfl 3 (by decide) (va_Nw.use rfl (hN.1 ("PlayStates", 93, "PlayStates$Person", "present", "I", "PlayStates") (by decide +kernel))) (fun _ h9 => h9) rfl d_PS_tell_40 ?_
      obtain ⟨y5, hy5, h⟩ := o_bind h
      have hPc := hP.sub (ws' := (ws_Rt_add G a_t_table a_t_table_place a_t_table_told a_t_table_before a_t_table_behind x_t_table_count x_t_table_place x_t_table_told x_t_table_before x_t_table_behind)) [1, 2, 3, 4, 5] rfl
      have hDc := hD.sub (ws' := (ws_Rt_add G a_t_table a_t_table_place a_t_table_told a_t_table_before a_t_table_behind x_t_table_count x_t_table_place x_t_table_told x_t_table_before x_t_table_behind)) [1, 2, 3, 4, 5] (by decide) rfl
      have hFc := va_free (wc := (ws_Rt_add G a_t_table a_t_table_place a_t_table_told a_t_table_before a_t_table_behind x_t_table_count x_t_table_place x_t_table_told x_t_table_before x_t_table_behind)) hD hS hA [1, 2, 3, 4, 5] rfl
      refine q_call1 (va_runV (As := [.int p1, .int p2, .int y1, .int x_w_present]) (rest := [.ref a_w]) ⟨hx, hb, hml, hown, hts⟩ (c_Rt_add l G H.size a_t_table a_t_table_place a_t_table_told a_t_table_before a_t_table_behind p1 p2 y1 x_w_present x_t_table_count x_t_table_place x_t_table_told x_t_table_before x_t_table_behind _ _ _ _ _ _ hy5) (cwV 4 hts (gV gw_187 gw_188 gw_189 gw_33 gw_190) rfl rfl rfl (by decide +kernel) ⟨Nat.le_of_ble_eq_true rfl, Nat.le_of_ble_eq_true rfl⟩) (pV hK hN hPc hDc (ci := 3) (q0 := 0) rfl rfl) rfl rfl hl.1 rfl (lv_room (Nat.le_of_ble_eq_true rfl)) d_PS_tell_43 ⟨Nat.le_of_ble_eq_true rfl, Nat.le_of_ble_eq_true rfl⟩) hS (fun q _ h => hFc q h) hFc (fun H1 locs hB hz hk hS => ?_)
      obtain ⟨hP, hD⟩ := q_join (wr := [(a_t, .inr (5, [.int x_t_placeCount, .ref a_t_right, .ref a_t_persons, .int x_t_personCount, .ref a_t_table, .ref a_t_joining, .ref a_t_units, .int x_t_unitCount, .ref a_t_draft, .ref a_t_reader])), (a_w, .inr (2, [.int x_w_number, .ref a_w_board, .ref a_w_clock, .int x_w_present, .int x_w_helpCount])), (a_w_board, .inr (0, [.ref a_w_board_entries, .ref a_w_board_markBits])), (a_w_board_entries, .inl (G.2 0, n, .inl x_w_board_entries)), (a_w_board_markBits, .inl (G.2 0, n, .inl x_w_board_markBits))]) (wn := (ws_PS_tell G a_t a_t_right a_t_persons a_t_joining a_t_units a_t_draft a_t_reader a_t_table a_t_table_place a_t_table_told a_t_table_before a_t_table_behind a_w a_w_clock a_w_board a_w_board_entries a_w_board_markBits n x_t_placeCount x_t_personCount x_t_unitCount y5.2.1 y5.2.2.1 y5.2.2.2.1 y5.2.2.2.2.1 y5.2.2.2.2.2 x_w_number x_w_present x_w_helpCount x_w_board_entries x_w_board_markBits)) hP hD [1, 2, 3, 4, 5] [0, 6, 7, 8, 9] [0, 5, 6, 7, 8, 9, 1, 2, 3, 4] rfl rfl (by decide) (by decide) rfl (by decide) hk hFc hB.1 hB.2
      generalize H1 = H at hP hS ⊢
      replace hP : va_P G.1 vwCl (ws_PS_tell G a_t a_t_right a_t_persons a_t_joining a_t_units a_t_draft a_t_reader a_t_table a_t_table_place a_t_table_told a_t_table_before a_t_table_behind a_w a_w_clock a_w_board a_w_board_entries a_w_board_markBits n x_t_placeCount x_t_personCount x_t_unitCount y5.2.1 y5.2.2.1 y5.2.2.2.1 y5.2.2.2.2.1 y5.2.2.2.2.2 x_w_number x_w_present x_w_helpCount x_w_board_entries x_w_board_markBits) H := hP
      replace hD : va_D A (ws_PS_tell G a_t a_t_right a_t_persons a_t_joining a_t_units a_t_draft a_t_reader a_t_table a_t_table_place a_t_table_told a_t_table_before a_t_table_behind a_w a_w_clock a_w_board a_w_board_entries a_w_board_markBits n x_t_placeCount x_t_personCount x_t_unitCount y5.2.1 y5.2.2.1 y5.2.2.2.1 y5.2.2.2.2.1 y5.2.2.2.2.2 x_w_number x_w_present x_w_helpCount x_w_board_entries x_w_board_markBits) := hD
      refine va_putN (D := G.1) (ci := 2) (v := .int y5.1) (ty := .int) (C := "PlayStates$Person") (T := TPn) (N := 5) hx hb hts iw_2 tyPn tyPn_ok nmPn hown hK hP hD hS 6 rfl rfl 3 (by decide) (va_Nw.use rfl (hN.1 ("PlayStates", 93, "PlayStates$Person", "present", "I", "PlayStates") (by decide +kernel))) (fun _ h9 => h9) rfl (by decide +kernel) (by rfl) (by rfl) (Nat.le_of_ble_eq_true rfl) d_PS_tell_46 (fun H locs hP hD hS => ?_)
      replace hP : va_P G.1 vwCl (ws_PS_tell G a_t a_t_right a_t_persons a_t_joining a_t_units a_t_draft a_t_reader a_t_table a_t_table_place a_t_table_told a_t_table_before a_t_table_behind a_w a_w_clock a_w_board a_w_board_entries a_w_board_markBits n x_t_placeCount x_t_personCount x_t_unitCount y5.2.1 y5.2.2.1 y5.2.2.2.1 y5.2.2.2.2.1 y5.2.2.2.2.2 x_w_number y5.1 x_w_helpCount x_w_board_entries x_w_board_markBits) H := hP
      replace hD : va_D A (ws_PS_tell G a_t a_t_right a_t_persons a_t_joining a_t_units a_t_draft a_t_reader a_t_table a_t_table_place a_t_table_told a_t_table_before a_t_table_behind a_w a_w_clock a_w_board a_w_board_entries a_w_board_markBits n x_t_placeCount x_t_personCount x_t_unitCount y5.2.1 y5.2.2.1 y5.2.2.2.1 y5.2.2.2.2.1 y5.2.2.2.2.2 x_w_number y5.1 x_w_helpCount x_w_board_entries x_w_board_markBits) := hD
      refine lv_aload_n hx hb d_PS_tell_49 rfl (lv_at hl 2 rfl) ?_
      refine va_getN (D := G.1) (ci := 2) (v := .ref a_w_board) (C := "PlayStates$Person") (T := TPn) (N := 5) hx hb hts iw_2 hown hK hP 6 rfl rfl 1 (by decide) (va_Nw.use rfl (hN.1 ("PlayStates", 99, "PlayStates$Person", "board", "LPlayStates$Board;", "PlayStates") (by decide +kernel))) (fun _ h9 => h9) rfl d_PS_tell_50 ?_
      refine lv_iload_n hx hb d_PS_tell_53 rfl (lv_at hl 3 rfl) ?_
      refine lv_iload_n hx hb d_PS_tell_54 rfl (lv_at hl 4 rfl) ?_
      obtain ⟨y6, hy6, h⟩ := o_bind h
      have hPc := hP.sub (ws' := (ws_Bd_put G a_w_board a_w_board_entries a_w_board_markBits n x_w_board_entries x_w_board_markBits)) [7, 8, 9] rfl
      have hDc := hD.sub (ws' := (ws_Bd_put G a_w_board a_w_board_entries a_w_board_markBits n x_w_board_entries x_w_board_markBits)) [7, 8, 9] (by decide) rfl
      have hFc := va_free (wc := (ws_Bd_put G a_w_board a_w_board_entries a_w_board_markBits n x_w_board_entries x_w_board_markBits)) hD hS hA [7, 8, 9] rfl
      refine q_call0 (va_runV (As := [.int p1, .int p2]) (rest := []) ⟨hx, hb, hml, hown, hts⟩ (c_Bd_put l G H.size a_w_board a_w_board_entries a_w_board_markBits n p1 p2 x_w_board_entries x_w_board_markBits _ _ hy6) (cwV 2 hts (gV gw_191 gw_192 gw_193 gw_34 gw_194) rfl rfl rfl (by decide +kernel) ⟨Nat.le_of_ble_eq_true rfl, Nat.le_of_ble_eq_true rfl⟩) (pV hK hN hPc hDc (ci := 0) (q0 := 0) rfl rfl) rfl rfl hl.1 rfl (lv_room (Nat.le_of_ble_eq_true rfl)) d_PS_tell_55 ⟨Nat.le_of_ble_eq_true rfl, Nat.le_of_ble_eq_true rfl⟩) hS (fun q _ h => hFc q h) hFc (fun H1 locs hB hz hk hS => ?_)
      obtain ⟨hP, hD⟩ := q_join (wr := [(a_t, .inr (5, [.int x_t_placeCount, .ref a_t_right, .ref a_t_persons, .int x_t_personCount, .ref a_t_table, .ref a_t_joining, .ref a_t_units, .int x_t_unitCount, .ref a_t_draft, .ref a_t_reader])), (a_t_table, .inr (3, [.ref a_t_table_place, .ref a_t_table_told, .ref a_t_table_before, .ref a_t_table_behind, .int y5.2.1])), (a_t_table_place, .inl (G.2 0, 600, .inl y5.2.2.1)), (a_t_table_told, .inl (G.2 0, 600, .inl y5.2.2.2.1)), (a_t_table_before, .inl (G.2 0, 600, .inl y5.2.2.2.2.1)), (a_t_table_behind, .inl (G.2 0, 600, .inl y5.2.2.2.2.2)), (a_w, .inr (2, [.int x_w_number, .ref a_w_board, .ref a_w_clock, .int y5.1, .int x_w_helpCount]))]) (wn := (ws_PS_tell G a_t a_t_right a_t_persons a_t_joining a_t_units a_t_draft a_t_reader a_t_table a_t_table_place a_t_table_told a_t_table_before a_t_table_behind a_w a_w_clock a_w_board a_w_board_entries a_w_board_markBits n x_t_placeCount x_t_personCount x_t_unitCount y5.2.1 y5.2.2.1 y5.2.2.2.1 y5.2.2.2.2.1 y5.2.2.2.2.2 x_w_number y5.1 x_w_helpCount y6.1 y6.2)) hP hD [7, 8, 9] [0, 1, 2, 3, 4, 5, 6] [0, 1, 2, 3, 4, 5, 6, 7, 8, 9] rfl rfl (by decide) (by decide) rfl (by decide) hk hFc hB.1 hB.2
      generalize H1 = H at hP hS ⊢
      replace hP : va_P G.1 vwCl (ws_PS_tell G a_t a_t_right a_t_persons a_t_joining a_t_units a_t_draft a_t_reader a_t_table a_t_table_place a_t_table_told a_t_table_before a_t_table_behind a_w a_w_clock a_w_board a_w_board_entries a_w_board_markBits n x_t_placeCount x_t_personCount x_t_unitCount y5.2.1 y5.2.2.1 y5.2.2.2.1 y5.2.2.2.2.1 y5.2.2.2.2.2 x_w_number y5.1 x_w_helpCount y6.1 y6.2) H := hP
      replace hD : va_D A (ws_PS_tell G a_t a_t_right a_t_persons a_t_joining a_t_units a_t_draft a_t_reader a_t_table a_t_table_place a_t_table_told a_t_table_before a_t_table_behind a_w a_w_clock a_w_board a_w_board_entries a_w_board_markBits n x_t_placeCount x_t_personCount x_t_unitCount y5.2.1 y5.2.2.1 y5.2.2.2.1 y5.2.2.2.2.1 y5.2.2.2.2.2 x_w_number y5.1 x_w_helpCount y6.1 y6.2) := hD
      refine lv_aload_n hx hb d_PS_tell_58 rfl (lv_at hl 2 rfl) ?_
      refine va_getN (D := G.1) (ci := 2) (v := .int y5.1) (C := "PlayStates$Person") (T := TPn) (N := 5) hx hb hts iw_2 hown hK hP 6 rfl rfl 3 (by decide) (va_Nw.use rfl (hN.1 ("PlayStates", 93, "PlayStates$Person", "present", "I", "PlayStates") (by decide +kernel))) (fun _ h9 => h9) rfl d_PS_tell_59 ?_
      cases h
      exact q_iretW hx hb hr hlocks hP hD hS d_PS_tell_62
    · replace h := (if_pos c4).symm.trans h
      refine lv_iconst (v := (-1 : Int32)) hx hb d_PS_tell_28 (by decide) ?_
      cases h
      exact q_iretW hx hb hr hlocks hP hD hS d_PS_tell_29

theorem gw_103 : (.fieldLink "PlayStates" 22 "PlayStates" "right" "[I" : Cond) ∈ GW := gT 97 (by decide +kernel) (by decide +kernel)
theorem d_PS_findPlaceToHelp_0 : decode prog_1_method_29_code 0 = .ok (.iconst 0, 1) := by decide +kernel
theorem d_PS_findPlaceToHelp_1 : decode prog_1_method_29_code 1 = .ok (.istore_n 2, 1) := by decide +kernel
theorem d_PS_findPlaceToHelp_2 : decode prog_1_method_29_code 2 = .ok (.iload_n 2, 1) := by decide +kernel
theorem d_PS_findPlaceToHelp_3 : decode prog_1_method_29_code 3 = .ok (.aload_n 0, 1) := by decide +kernel
theorem d_PS_findPlaceToHelp_4 : decode prog_1_method_29_code 4 = .ok (.getfield 18, 3) := by decide +kernel
theorem d_PS_findPlaceToHelp_7 : decode prog_1_method_29_code 7 = .ok (.if_icmp .ge 29, 3) := by decide +kernel
theorem d_PS_findPlaceToHelp_10 : decode prog_1_method_29_code 10 = .ok (.aload_n 1, 1) := by decide +kernel
theorem d_PS_findPlaceToHelp_11 : decode prog_1_method_29_code 11 = .ok (.getfield 125, 3) := by decide +kernel
theorem d_PS_findPlaceToHelp_14 : decode prog_1_method_29_code 14 = .ok (.iload_n 2, 1) := by decide +kernel
theorem d_PS_findPlaceToHelp_15 : decode prog_1_method_29_code 15 = .ok (.iaload, 1) := by decide +kernel
theorem d_PS_findPlaceToHelp_16 : decode prog_1_method_29_code 16 = .ok (.ifCond .ne 14, 3) := by decide +kernel
theorem d_PS_findPlaceToHelp_19 : decode prog_1_method_29_code 19 = .ok (.aload_n 0, 1) := by decide +kernel
theorem d_PS_findPlaceToHelp_20 : decode prog_1_method_29_code 20 = .ok (.getfield 22, 3) := by decide +kernel
theorem d_PS_findPlaceToHelp_23 : decode prog_1_method_29_code 23 = .ok (.iload_n 2, 1) := by decide +kernel
theorem d_PS_findPlaceToHelp_24 : decode prog_1_method_29_code 24 = .ok (.iaload, 1) := by decide +kernel
theorem d_PS_findPlaceToHelp_25 : decode prog_1_method_29_code 25 = .ok (.ifCond .eq 5, 3) := by decide +kernel
theorem d_PS_findPlaceToHelp_28 : decode prog_1_method_29_code 28 = .ok (.iload_n 2, 1) := by decide +kernel
theorem d_PS_findPlaceToHelp_29 : decode prog_1_method_29_code 29 = .ok (.ireturn, 1) := by decide +kernel
theorem d_PS_findPlaceToHelp_30 : decode prog_1_method_29_code 30 = .ok (.iinc 2 1, 3) := by decide +kernel
theorem d_PS_findPlaceToHelp_33 : decode prog_1_method_29_code 33 = .ok (.goto (-31), 3) := by decide +kernel
theorem d_PS_findPlaceToHelp_36 : decode prog_1_method_29_code 36 = .ok (.iconst (-1), 1) := by decide +kernel
theorem d_PS_findPlaceToHelp_37 : decode prog_1_method_29_code 37 = .ok (.ireturn, 1) := by decide +kernel
-- PlayStates.findPlaceToHelp(LPlayStates$Board;)I 
def ws_PS_findPlaceToHelp (G : gG) (a_t a_t_persons a_t_table a_t_joining a_t_units a_t_draft a_t_reader a_t_right a_b a_b_markBits a_b_entries : Nat) (n : Nat) (x_t_placeCount : Int32) (x_t_personCount : Int32) (x_t_unitCount : Int32) (x_t_right : Nat → Int32) (x_b_entries : Nat → Int32) : va_W := [(a_t, .inr (5, [.int x_t_placeCount, .ref a_t_right, .ref a_t_persons, .int x_t_personCount, .ref a_t_table, .ref a_t_joining, .ref a_t_units, .int x_t_unitCount, .ref a_t_draft, .ref a_t_reader])), (a_t_right, .inl (G.2 0, n, .inl x_t_right)), (a_b, .inr (0, [.ref a_b_entries, .ref a_b_markBits])), (a_b_entries, .inl (G.2 0, n, .inl x_b_entries))]
def fb_PS_findPlaceToHelp_L2 (fu : Nat) (n : Nat) (x_t_placeCount : Int32) (x_t_personCount : Int32) (x_t_unitCount : Int32) (x_t_right : Nat → Int32) (x_b_entries : Nat → Int32)  (k2 : (Int32 → Option (Int32))) (l2_2 : Int32) : Option (Int32) :=
  (if x_t_placeCount ≤ l2_2 then some (-1 : Int32) else (if inB l2_2 n then (if (x_b_entries l2_2.toNatClampNeg) = 0 then (if inB l2_2 n then (if (x_t_right l2_2.toNatClampNeg) = 0 then (k2 (l2_2 + (1 : Int32))) else some l2_2) else none) else (k2 (l2_2 + (1 : Int32)))) else none))
def f_PS_findPlaceToHelp_L2 (fu : Nat) (n : Nat) (x_t_placeCount : Int32) (x_t_personCount : Int32) (x_t_unitCount : Int32) (x_t_right : Nat → Int32) (x_b_entries : Nat → Int32)  : Nat → Int32 → Option (Int32)
  | 0 => fun _ => none
  | k9 + 1 => fb_PS_findPlaceToHelp_L2 fu n x_t_placeCount x_t_personCount x_t_unitCount x_t_right x_b_entries (f_PS_findPlaceToHelp_L2 fu n x_t_placeCount x_t_personCount x_t_unitCount x_t_right x_b_entries k9)
def f_PS_findPlaceToHelp (fu : Nat) (n : Nat)  (x_t_placeCount : Int32) (x_t_personCount : Int32) (x_t_unitCount : Int32) (x_t_right : Nat → Int32) (x_b_entries : Nat → Int32) : Option (Int32) :=
  (f_PS_findPlaceToHelp_L2 fu n x_t_placeCount x_t_personCount x_t_unitCount x_t_right x_b_entries fu (0 : Int32))
set_option maxHeartbeats 4000000 in
set_option maxRecDepth 100000 in
theorem c_PS_findPlaceToHelp (l : Launch) (G : gG) (sz : Nat) (a_t a_t_persons a_t_table a_t_joining a_t_units a_t_draft a_t_reader a_t_right a_b a_b_markBits a_b_entries : Nat) (fu : Nat) (n : Nat)  (x_t_placeCount : Int32) (x_t_personCount : Int32) (x_t_unitCount : Int32) (x_t_right : Nat → Int32) (x_b_entries : Nat → Int32) (r : Int32) (h : f_PS_findPlaceToHelp fu n x_t_placeCount x_t_personCount x_t_unitCount x_t_right x_b_entries = some r)  : cN l y_PS_findPlaceToHelp w_PS_findPlaceToHelp { frames := 0, cells := 0, slots := 0, locals := 0 } G sz [.ref a_t, .ref a_b] (ws_PS_findPlaceToHelp G a_t a_t_persons a_t_table a_t_joining a_t_units a_t_draft a_t_reader a_t_right a_b a_b_markBits a_b_entries n x_t_placeCount x_t_personCount x_t_unitCount x_t_right x_b_entries) (some (.int r)) (wB G (ws_PS_findPlaceToHelp G a_t a_t_persons a_t_table a_t_joining a_t_units a_t_draft a_t_reader a_t_right a_b a_b_markBits a_b_entries n x_t_placeCount x_t_personCount x_t_unitCount x_t_right x_b_entries)) 0 0 := by
  refine cN_ofW (cc := prog_1_method_29_code) (maxL := 3) (ret := (some .int)) (by decide) rfl (Nat.le_of_ble_eq_true rfl) ?_
  intro p e s m args below meth c A H locs ls hx hb hr hts hown hlocks hin hml hK hN hP hD hA hS hl
  replace hl : lv_has ls 3 [(0, .ref a_t), (1, .ref a_b)] := hl
  replace hown : s.vm.findClass "PlayStates" = some m.cls := hown
  unfold f_PS_findPlaceToHelp at h
  refine lv_iconst (v := (0 : Int32)) hx hb d_PS_findPlaceToHelp_0 (by decide) ?_
  refine lv_istore_n (lv' := [(2, .int (0 : Int32)), (0, .ref a_t), (1, .ref a_b)]) hx hb d_PS_findPlaceToHelp_1 rfl hl (by decide) rfl (fun ls hl => ?_)
  have L2 : ∀ (nf : Nat) (l2_2 : Int32) (H : Heap) (locs : List Loc) (ls : Array Slot), f_PS_findPlaceToHelp_L2 fu n x_t_placeCount x_t_personCount x_t_unitCount x_t_right x_b_entries nf l2_2 = some r → va_P G.1 vwCl (ws_PS_findPlaceToHelp G a_t a_t_persons a_t_table a_t_joining a_t_units a_t_draft a_t_reader a_t_right a_b a_b_markBits a_b_entries n x_t_placeCount x_t_personCount x_t_unitCount x_t_right x_b_entries) H → va_D A (ws_PS_findPlaceToHelp G a_t a_t_persons a_t_table a_t_joining a_t_units a_t_draft a_t_reader a_t_right a_b a_b_markBits a_b_entries n x_t_placeCount x_t_personCount x_t_unitCount x_t_right x_b_entries) → va_S A s.heap H locs → lv_has ls 3 [(0, .ref a_t), (1, .ref a_b), (2, .int l2_2)] → W p l e { frames := 0, cells := 0, slots := 0, locals := 0 } s m args below meth c H locs 0 0 (MQ below (qQ (some (.int r)) (wB G (ws_PS_findPlaceToHelp G a_t a_t_persons a_t_table a_t_joining a_t_units a_t_draft a_t_reader a_t_right a_b a_b_markBits a_b_entries n x_t_placeCount x_t_personCount x_t_unitCount x_t_right x_b_entries) A) A) args s 0 0 A) (F0 m 2 ls []) := by
    clear h hP hD hS hl
    intro n2
    induction n2 with
    | zero => intro _ H locs ls h; exact nomatch (show none = some _ from h)
    | succ n2 ih2 =>
      intro l2_2 H locs ls h hP hD hS hl
      replace h : fb_PS_findPlaceToHelp_L2 fu n x_t_placeCount x_t_personCount x_t_unitCount x_t_right x_b_entries (f_PS_findPlaceToHelp_L2 fu n x_t_placeCount x_t_personCount x_t_unitCount x_t_right x_b_entries n2) l2_2 = some r := h
      unfold fb_PS_findPlaceToHelp_L2 at h
      refine lv_iload_n hx hb d_PS_findPlaceToHelp_2 rfl (lv_at hl 2 rfl) ?_
      refine lv_aload_n hx hb d_PS_findPlaceToHelp_3 rfl (lv_at hl 0 rfl) ?_
      refine va_get (D := G.1) (ci := 5) (v := .int x_t_placeCount) (C := "PlayStates") (T := TPS) (N := 10) hx hb hts iw_5 hown hK hP 0 rfl rfl 0 (by decide) (hts _ gw_102) (fun _ h9 => h9) rfl d_PS_findPlaceToHelp_4 ?_
      refine lv_icmp_ge (tgt := 36) hx hb d_PS_findPlaceToHelp_7 (by decide) (fun c1 => ?_) (fun c1 => ?_)
      · replace h := (if_pos c1).symm.trans h
        refine lv_iconst (v := (-1 : Int32)) hx hb d_PS_findPlaceToHelp_36 (by decide) ?_
        cases h
        exact q_iretW hx hb hr hlocks hP hD hS d_PS_findPlaceToHelp_37
      · replace h := (if_neg c1).symm.trans h
        refine lv_aload_n hx hb d_PS_findPlaceToHelp_10 rfl (lv_at hl 1 rfl) ?_
        refine va_getN (D := G.1) (ci := 0) (v := .ref a_b_entries) (C := "PlayStates$Board") (T := TBd) (N := 2) hx hb hts iw_0 hown hK hP 2 rfl rfl 0 (by decide) (va_Nw.use rfl (hN.1 ("PlayStates", 125, "PlayStates$Board", "entries", "[I", "PlayStates") (by decide +kernel))) (fun _ h9 => h9) rfl d_PS_findPlaceToHelp_11 ?_
        refine lv_iload_n hx hb d_PS_findPlaceToHelp_14 rfl (lv_at hl 2 rfl) ?_
        obtain ⟨i2, h⟩ := o_if h
        refine va_iald (n := n) (f := x_b_entries) hx hb hK hP 3 0 rfl rfl i2 d_PS_findPlaceToHelp_15 ?_
        refine lv_if_ne (tgt := 30) hx hb d_PS_findPlaceToHelp_16 (by decide) (fun c3 => ?_) (fun c3 => ?_)
        · replace h := (if_neg c3).symm.trans h
          refine lv_iinc (v := (l2_2 + (1 : Int32))) (lv' := [(2, .int (l2_2 + (1 : Int32))), (0, .ref a_t), (1, .ref a_b)]) hx hb d_PS_findPlaceToHelp_30 hl (k := 2) rfl rfl (by decide) rfl (fun ls hl => ?_)
          refine lv_goto (tgt := 2) hx hb d_PS_findPlaceToHelp_33 (by decide) ?_
          exact ih2 (l2_2 + (1 : Int32)) _ _ _ h hP hD hS (lv_sub hl [1, 2, 0] rfl)
        · replace h := (if_pos c3).symm.trans h
          refine lv_aload_n hx hb d_PS_findPlaceToHelp_19 rfl (lv_at hl 0 rfl) ?_
          refine va_get (D := G.1) (ci := 5) (v := .ref a_t_right) (C := "PlayStates") (T := TPS) (N := 10) hx hb hts iw_5 hown hK hP 0 rfl rfl 1 (by decide) (hts _ gw_103) (fun _ h9 => h9) rfl d_PS_findPlaceToHelp_20 ?_
          refine lv_iload_n hx hb d_PS_findPlaceToHelp_23 rfl (lv_at hl 2 rfl) ?_
          obtain ⟨i4, h⟩ := o_if h
          refine va_iald (n := n) (f := x_t_right) hx hb hK hP 1 0 rfl rfl i4 d_PS_findPlaceToHelp_24 ?_
          refine lv_if_eq (tgt := 30) hx hb d_PS_findPlaceToHelp_25 (by decide) (fun c5 => ?_) (fun c5 => ?_)
          · replace h := (if_pos c5).symm.trans h
            refine lv_iinc (v := (l2_2 + (1 : Int32))) (lv' := [(2, .int (l2_2 + (1 : Int32))), (0, .ref a_t), (1, .ref a_b)]) hx hb d_PS_findPlaceToHelp_30 hl (k := 2) rfl rfl (by decide) rfl (fun ls hl => ?_)
            refine lv_goto (tgt := 2) hx hb d_PS_findPlaceToHelp_33 (by decide) ?_
            exact ih2 (l2_2 + (1 : Int32)) _ _ _ h hP hD hS (lv_sub hl [1, 2, 0] rfl)
          · replace h := (if_neg c5).symm.trans h
            refine lv_iload_n hx hb d_PS_findPlaceToHelp_28 rfl (lv_at hl 2 rfl) ?_
            cases h
            exact q_iretW hx hb hr hlocks hP hD hS d_PS_findPlaceToHelp_29
  exact L2 fu (0 : Int32) _ _ _ h hP hD hS (lv_sub hl [1, 2, 0] rfl)
end
section
theorem gw_165 : (.code ⟨"PlayStates", "find", "(I)LPlayStates$Person;"⟩ prog_1_method_25_code 2 (some (.object "PlayStates$Person")) : Cond) ∈ GW := gT 189 (by decide +kernel) (by decide +kernel)
theorem gw_163 : (.methodLink "PlayStates" 75 ⟨"PlayStates", "find", "(I)LPlayStates$Person;"⟩ : Cond) ∈ GW := gT 186 (by decide +kernel) (by decide +kernel)
theorem gw_164 : (.instanceMethod ⟨"PlayStates", "find", "(I)LPlayStates$Person;"⟩ : Cond) ∈ GW := gT 188 (by decide +kernel) (by decide +kernel)
theorem gw_2 : (.selects "PlayStates" ⟨"PlayStates", "find", "(I)LPlayStates$Person;"⟩ ⟨"PlayStates", "find", "(I)LPlayStates$Person;"⟩ : Cond) ∈ GW := gP 2 (by decide +kernel) (by decide +kernel)
theorem gw_168 : (.code ⟨"PlayStates", "isPlace", "(I)Z"⟩ prog_1_method_24_code 2 (some .boolean) : Cond) ∈ GW := gT 193 (by decide +kernel) (by decide +kernel)
theorem gw_166 : (.methodLink "PlayStates" 79 ⟨"PlayStates", "isPlace", "(I)Z"⟩ : Cond) ∈ GW := gT 190 (by decide +kernel) (by decide +kernel)
theorem gw_167 : (.instanceMethod ⟨"PlayStates", "isPlace", "(I)Z"⟩ : Cond) ∈ GW := gT 192 (by decide +kernel) (by decide +kernel)
theorem gw_3 : (.selects "PlayStates" ⟨"PlayStates", "isPlace", "(I)Z"⟩ ⟨"PlayStates", "isPlace", "(I)Z"⟩ : Cond) ∈ GW := gP 3 (by decide +kernel) (by decide +kernel)
theorem gw_171 : (.code ⟨"PlayStates", "isZeroToNine", "(I)Z"⟩ prog_1_method_21_code 1 (some .boolean) : Cond) ∈ GW := gT 196 (by decide +kernel) (by decide +kernel)
theorem gw_169 : (.methodLink "PlayStates" 83 ⟨"PlayStates", "isZeroToNine", "(I)Z"⟩ : Cond) ∈ GW := gT 194 (by decide +kernel) (by decide +kernel)
theorem gw_170 : (.static ⟨"PlayStates", "isZeroToNine", "(I)Z"⟩ : Cond) ∈ GW := gT 195 (by decide +kernel) (by decide +kernel)
theorem gw_174 : (.code ⟨"PlayStates", "tell", "(LPlayStates$Person;II)I"⟩ prog_1_method_28_code 5 (some .int) : Cond) ∈ GW := gT 200 (by decide +kernel) (by decide +kernel)
theorem gw_172 : (.methodLink "PlayStates" 86 ⟨"PlayStates", "tell", "(LPlayStates$Person;II)I"⟩ : Cond) ∈ GW := gT 197 (by decide +kernel) (by decide +kernel)
theorem gw_173 : (.instanceMethod ⟨"PlayStates", "tell", "(LPlayStates$Person;II)I"⟩ : Cond) ∈ GW := gT 199 (by decide +kernel) (by decide +kernel)
theorem gw_4 : (.selects "PlayStates" ⟨"PlayStates", "tell", "(LPlayStates$Person;II)I"⟩ ⟨"PlayStates", "tell", "(LPlayStates$Person;II)I"⟩ : Cond) ∈ GW := gP 4 (by decide +kernel) (by decide +kernel)
theorem d_PS_enter_0 : decode prog_1_method_3_code 0 = .ok (.aload_n 0, 1) := by decide +kernel
theorem d_PS_enter_1 : decode prog_1_method_3_code 1 = .ok (.iload_n 1, 1) := by decide +kernel
theorem d_PS_enter_2 : decode prog_1_method_3_code 2 = .ok (.invokevirtual 75, 3) := by decide +kernel
theorem d_PS_enter_5 : decode prog_1_method_3_code 5 = .ok (.astore 4, 2) := by decide +kernel
theorem d_PS_enter_7 : decode prog_1_method_3_code 7 = .ok (.aload 4, 2) := by decide +kernel
theorem d_PS_enter_9 : decode prog_1_method_3_code 9 = .ok (.ifnull 18, 3) := by decide +kernel
theorem d_PS_enter_12 : decode prog_1_method_3_code 12 = .ok (.aload_n 0, 1) := by decide +kernel
theorem d_PS_enter_13 : decode prog_1_method_3_code 13 = .ok (.iload_n 2, 1) := by decide +kernel
theorem d_PS_enter_14 : decode prog_1_method_3_code 14 = .ok (.invokevirtual 79, 3) := by decide +kernel
theorem d_PS_enter_17 : decode prog_1_method_3_code 17 = .ok (.ifCond .eq 10, 3) := by decide +kernel
theorem d_PS_enter_20 : decode prog_1_method_3_code 20 = .ok (.iload_n 3, 1) := by decide +kernel
theorem d_PS_enter_21 : decode prog_1_method_3_code 21 = .ok (.invokestatic 83, 3) := by decide +kernel
theorem d_PS_enter_24 : decode prog_1_method_3_code 24 = .ok (.ifCond .ne 5, 3) := by decide +kernel
theorem d_PS_enter_27 : decode prog_1_method_3_code 27 = .ok (.iconst (-1), 1) := by decide +kernel
theorem d_PS_enter_28 : decode prog_1_method_3_code 28 = .ok (.ireturn, 1) := by decide +kernel
theorem d_PS_enter_29 : decode prog_1_method_3_code 29 = .ok (.aload_n 0, 1) := by decide +kernel
theorem d_PS_enter_30 : decode prog_1_method_3_code 30 = .ok (.aload 4, 2) := by decide +kernel
theorem d_PS_enter_32 : decode prog_1_method_3_code 32 = .ok (.iload_n 2, 1) := by decide +kernel
theorem d_PS_enter_33 : decode prog_1_method_3_code 33 = .ok (.iload_n 3, 1) := by decide +kernel
theorem d_PS_enter_34 : decode prog_1_method_3_code 34 = .ok (.invokevirtual 86, 3) := by decide +kernel
theorem d_PS_enter_37 : decode prog_1_method_3_code 37 = .ok (.ireturn, 1) := by decide +kernel
-- PlayStates.enter(III)I 
def ws_PS_enter (G : gG) (a_t a_t_right a_t_joining a_t_units a_t_draft a_t_reader a_t_persons a_t_table a_t_table_place a_t_table_told a_t_table_before a_t_table_behind a_w a_w_clock a_w_board a_w_board_entries a_w_board_markBits : Nat) (n : Nat) (x_t_placeCount : Int32) (x_t_personCount : Int32) (x_t_unitCount : Int32) (x_t_persons : Nat → Option Nat) (x_t_table_count : Int32) (x_t_table_place : Nat → Int32) (x_t_table_told : Nat → Int32) (x_t_table_before : Nat → Int32) (x_t_table_behind : Nat → Int32) (x_w_number : Int32) (x_w_present : Int32) (x_w_helpCount : Int32) (x_w_board_entries : Nat → Int32) (x_w_board_markBits : Nat → Int32) : va_W := [(a_t, .inr (5, [.int x_t_placeCount, .ref a_t_right, .ref a_t_persons, .int x_t_personCount, .ref a_t_table, .ref a_t_joining, .ref a_t_units, .int x_t_unitCount, .ref a_t_draft, .ref a_t_reader])), (a_t_persons, .inl (G.2 3, 8, .inr (.inr (.inr (.inr x_t_persons))))), (a_t_table, .inr (3, [.ref a_t_table_place, .ref a_t_table_told, .ref a_t_table_before, .ref a_t_table_behind, .int x_t_table_count])), (a_t_table_place, .inl (G.2 0, 600, .inl x_t_table_place)), (a_t_table_told, .inl (G.2 0, 600, .inl x_t_table_told)), (a_t_table_before, .inl (G.2 0, 600, .inl x_t_table_before)), (a_t_table_behind, .inl (G.2 0, 600, .inl x_t_table_behind)), (a_w, .inr (2, [.int x_w_number, .ref a_w_board, .ref a_w_clock, .int x_w_present, .int x_w_helpCount])), (a_w_board, .inr (0, [.ref a_w_board_entries, .ref a_w_board_markBits])), (a_w_board_entries, .inl (G.2 0, n, .inl x_w_board_entries)), (a_w_board_markBits, .inl (G.2 0, n, .inl x_w_board_markBits))]
def f_PS_enter (n : Nat) (p0 : Int32) (p1 : Int32) (p2 : Int32) (x_t_placeCount : Int32) (x_t_personCount : Int32) (x_t_unitCount : Int32) (x_t_persons : Nat → Option Nat) (x_t_table_count : Int32) (x_t_table_place : Nat → Int32) (x_t_table_told : Nat → Int32) (x_t_table_before : Nat → Int32) (x_t_table_behind : Nat → Int32) (x_w_number : Int32) (x_w_present : Int32) (x_w_helpCount : Int32) (x_w_board_entries : Nat → Int32) (x_w_board_markBits : Nat → Int32) : Option (Int32 × Int32 × (Nat → Int32) × (Nat → Int32) × (Nat → Int32) × (Nat → Int32) × Int32 × (Nat → Int32) × (Nat → Int32)) :=
  ((f_PS_isPlace p1 x_t_placeCount x_t_personCount x_t_unitCount).bind fun y1 => (if y1 = 0 then some ((-1 : Int32), x_t_table_count, x_t_table_place, x_t_table_told, x_t_table_before, x_t_table_behind, x_w_present, x_w_board_entries, x_w_board_markBits) else ((f_PS_isZeroToNine p2).bind fun y3 => (if y3 = 0 then some ((-1 : Int32), x_t_table_count, x_t_table_place, x_t_table_told, x_t_table_before, x_t_table_behind, x_w_present, x_w_board_entries, x_w_board_markBits) else ((f_PS_tell n p1 p2 x_t_placeCount x_t_personCount x_t_unitCount x_t_table_count x_t_table_place x_t_table_told x_t_table_before x_t_table_behind x_w_number x_w_present x_w_helpCount x_w_board_entries x_w_board_markBits).bind fun y5 => some (y5.1, y5.2.1, y5.2.2.1, y5.2.2.2.1, y5.2.2.2.2.1, y5.2.2.2.2.2.1, y5.2.2.2.2.2.2.1, y5.2.2.2.2.2.2.2.1, y5.2.2.2.2.2.2.2.2))))))
set_option maxHeartbeats 4000000 in
set_option maxRecDepth 100000 in
theorem c_PS_enter (l : Launch) (G : gG) (sz : Nat) (a_t a_t_right a_t_joining a_t_units a_t_draft a_t_reader a_t_persons a_t_table a_t_table_place a_t_table_told a_t_table_before a_t_table_behind a_w a_w_clock a_w_board a_w_board_entries a_w_board_markBits : Nat) (n : Nat) (p0 : Int32) (p1 : Int32) (p2 : Int32) (x_t_placeCount : Int32) (x_t_personCount : Int32) (x_t_unitCount : Int32) (x_t_persons : Nat → Option Nat) (x_t_table_count : Int32) (x_t_table_place : Nat → Int32) (x_t_table_told : Nat → Int32) (x_t_table_before : Nat → Int32) (x_t_table_behind : Nat → Int32) (x_w_number : Int32) (x_w_present : Int32) (x_w_helpCount : Int32) (x_w_board_entries : Nat → Int32) (x_w_board_markBits : Nat → Int32) (r : Int32) (x_t_table_count' : Int32) (x_t_table_place' : Nat → Int32) (x_t_table_told' : Nat → Int32) (x_t_table_before' : Nat → Int32) (x_t_table_behind' : Nat → Int32) (x_w_present' : Int32) (x_w_board_entries' : Nat → Int32) (x_w_board_markBits' : Nat → Int32) (h : f_PS_enter n p0 p1 p2 x_t_placeCount x_t_personCount x_t_unitCount x_t_persons x_t_table_count x_t_table_place x_t_table_told x_t_table_before x_t_table_behind x_w_number x_w_present x_w_helpCount x_w_board_entries x_w_board_markBits = some (r, x_t_table_count', x_t_table_place', x_t_table_told', x_t_table_before', x_t_table_behind', x_w_present', x_w_board_entries', x_w_board_markBits'))  (hw : f_PS_find p0 x_t_placeCount x_t_personCount x_t_unitCount x_t_persons = some (some a_w)) : cN l y_PS_enter w_PS_enter { frames := 3, cells := 0, slots := 0, locals := 69 } G sz [.ref a_t, .int p0, .int p1, .int p2] (ws_PS_enter G a_t a_t_right a_t_joining a_t_units a_t_draft a_t_reader a_t_persons a_t_table a_t_table_place a_t_table_told a_t_table_before a_t_table_behind a_w a_w_clock a_w_board a_w_board_entries a_w_board_markBits n x_t_placeCount x_t_personCount x_t_unitCount x_t_persons x_t_table_count x_t_table_place x_t_table_told x_t_table_before x_t_table_behind x_w_number x_w_present x_w_helpCount x_w_board_entries x_w_board_markBits) (some (.int r)) (wB G (ws_PS_enter G a_t a_t_right a_t_joining a_t_units a_t_draft a_t_reader a_t_persons a_t_table a_t_table_place a_t_table_told a_t_table_before a_t_table_behind a_w a_w_clock a_w_board a_w_board_entries a_w_board_markBits n x_t_placeCount x_t_personCount x_t_unitCount x_t_persons x_t_table_count' x_t_table_place' x_t_table_told' x_t_table_before' x_t_table_behind' x_w_number x_w_present' x_w_helpCount x_w_board_entries' x_w_board_markBits')) 0 0 := by
  refine cN_ofW (cc := prog_1_method_3_code) (maxL := 5) (ret := (some .int)) (by decide) rfl (Nat.le_of_ble_eq_true rfl) ?_
  intro p e s m args below meth c A H locs ls hx hb hr hts hown hlocks hin hml hK hN hP hD hA hS hl
  replace hl : lv_has ls 5 [(0, .ref a_t), (1, .int p0), (2, .int p1), (3, .int p2)] := hl
  replace hown : s.vm.findClass "PlayStates" = some m.cls := hown
  unfold f_PS_enter at h
  refine lv_aload_n hx hb d_PS_enter_0 rfl (lv_at hl 0 rfl) ?_
  refine lv_iload_n hx hb d_PS_enter_1 rfl (lv_at hl 1 rfl) ?_
  have hPc := hP.sub (ws' := (ws_PS_find G a_t a_t_right a_t_table a_t_joining a_t_units a_t_draft a_t_reader a_t_persons x_t_placeCount x_t_personCount x_t_unitCount x_t_persons)) [0, 1] rfl
  have hDc := hD.sub (ws' := (ws_PS_find G a_t a_t_right a_t_table a_t_joining a_t_units a_t_draft a_t_reader a_t_persons x_t_placeCount x_t_personCount x_t_unitCount x_t_persons)) [0, 1] (by decide) rfl
  have hFc := va_free (wc := (ws_PS_find G a_t a_t_right a_t_table a_t_joining a_t_units a_t_draft a_t_reader a_t_persons x_t_placeCount x_t_personCount x_t_unitCount x_t_persons)) hD hS hA [0, 1] rfl
  refine q_call1 (va_runV (As := [.int p0]) (rest := []) ⟨hx, hb, hml, hown, hts⟩ (c_PS_find l G H.size a_t a_t_right a_t_table a_t_joining a_t_units a_t_draft a_t_reader a_t_persons p0 x_t_placeCount x_t_personCount x_t_unitCount x_t_persons _ hw) (cwV 1 hts (gV gw_163 gw_164 gw_2 gw_31 gw_165) rfl rfl rfl (by decide +kernel) ⟨Nat.le_of_ble_eq_true rfl, Nat.le_of_ble_eq_true rfl⟩) (pV hK hN hPc hDc (ci := 5) (q0 := 0) rfl rfl) rfl rfl hl.1 rfl (lv_room (Nat.le_of_ble_eq_true rfl)) d_PS_enter_2 ⟨Nat.le_of_ble_eq_true rfl, Nat.le_of_ble_eq_true rfl⟩) hS (fun q _ h => hFc q h) hFc (fun H1 locs hB hz hk hS => ?_)
  obtain ⟨hP, hD⟩ := q_join (wr := [(a_t_table, .inr (3, [.ref a_t_table_place, .ref a_t_table_told, .ref a_t_table_before, .ref a_t_table_behind, .int x_t_table_count])), (a_t_table_place, .inl (G.2 0, 600, .inl x_t_table_place)), (a_t_table_told, .inl (G.2 0, 600, .inl x_t_table_told)), (a_t_table_before, .inl (G.2 0, 600, .inl x_t_table_before)), (a_t_table_behind, .inl (G.2 0, 600, .inl x_t_table_behind)), (a_w, .inr (2, [.int x_w_number, .ref a_w_board, .ref a_w_clock, .int x_w_present, .int x_w_helpCount])), (a_w_board, .inr (0, [.ref a_w_board_entries, .ref a_w_board_markBits])), (a_w_board_entries, .inl (G.2 0, n, .inl x_w_board_entries)), (a_w_board_markBits, .inl (G.2 0, n, .inl x_w_board_markBits))]) (wn := (ws_PS_enter G a_t a_t_right a_t_joining a_t_units a_t_draft a_t_reader a_t_persons a_t_table a_t_table_place a_t_table_told a_t_table_before a_t_table_behind a_w a_w_clock a_w_board a_w_board_entries a_w_board_markBits n x_t_placeCount x_t_personCount x_t_unitCount x_t_persons x_t_table_count x_t_table_place x_t_table_told x_t_table_before x_t_table_behind x_w_number x_w_present x_w_helpCount x_w_board_entries x_w_board_markBits)) hP hD [0, 1] [2, 3, 4, 5, 6, 7, 8, 9, 10] [9, 10, 0, 1, 2, 3, 4, 5, 6, 7, 8] rfl rfl (by decide) (by decide) rfl (by decide) hk hFc hB.1 hB.2
  generalize H1 = H at hP hS ⊢
  replace hP : va_P G.1 vwCl (ws_PS_enter G a_t a_t_right a_t_joining a_t_units a_t_draft a_t_reader a_t_persons a_t_table a_t_table_place a_t_table_told a_t_table_before a_t_table_behind a_w a_w_clock a_w_board a_w_board_entries a_w_board_markBits n x_t_placeCount x_t_personCount x_t_unitCount x_t_persons x_t_table_count x_t_table_place x_t_table_told x_t_table_before x_t_table_behind x_w_number x_w_present x_w_helpCount x_w_board_entries x_w_board_markBits) H := hP
  replace hD : va_D A (ws_PS_enter G a_t a_t_right a_t_joining a_t_units a_t_draft a_t_reader a_t_persons a_t_table a_t_table_place a_t_table_told a_t_table_before a_t_table_behind a_w a_w_clock a_w_board a_w_board_entries a_w_board_markBits n x_t_placeCount x_t_personCount x_t_unitCount x_t_persons x_t_table_count x_t_table_place x_t_table_told x_t_table_before x_t_table_behind x_w_number x_w_present x_w_helpCount x_w_board_entries x_w_board_markBits) := hD
  refine lv_astore (lv' := [(4, .ref a_w), (0, .ref a_t), (1, .int p0), (2, .int p1), (3, .int p2)]) hx hb d_PS_enter_5 hl (by decide) rfl (fun ls hl => ?_)
  refine lv_aload hx hb d_PS_enter_7 (lv_at hl 0 rfl) ?_
  refine lv_ifnull hx hb d_PS_enter_9 ?_
  refine lv_aload_n hx hb d_PS_enter_12 rfl (lv_at hl 1 rfl) ?_
  refine lv_iload_n hx hb d_PS_enter_13 rfl (lv_at hl 3 rfl) ?_
  obtain ⟨y1, hy1, h⟩ := o_bind h
  have hPc := hP.sub (ws' := (ws_PS_isPlace G a_t a_t_right a_t_persons a_t_table a_t_joining a_t_units a_t_draft a_t_reader x_t_placeCount x_t_personCount x_t_unitCount)) [0] rfl
  have hDc := hD.sub (ws' := (ws_PS_isPlace G a_t a_t_right a_t_persons a_t_table a_t_joining a_t_units a_t_draft a_t_reader x_t_placeCount x_t_personCount x_t_unitCount)) [0] (by decide) rfl
  have hFc := va_free (wc := (ws_PS_isPlace G a_t a_t_right a_t_persons a_t_table a_t_joining a_t_units a_t_draft a_t_reader x_t_placeCount x_t_personCount x_t_unitCount)) hD hS hA [0] rfl
  refine q_call1 (va_runV (As := [.int p1]) (rest := []) ⟨hx, hb, hml, hown, hts⟩ (c_PS_isPlace l G H.size a_t a_t_right a_t_persons a_t_table a_t_joining a_t_units a_t_draft a_t_reader p1 x_t_placeCount x_t_personCount x_t_unitCount _ hy1) (cwV 1 hts (gV gw_166 gw_167 gw_3 gw_31 gw_168) rfl rfl rfl (by decide +kernel) ⟨Nat.le_of_ble_eq_true rfl, Nat.le_of_ble_eq_true rfl⟩) (pV hK hN hPc hDc (ci := 5) (q0 := 0) rfl rfl) rfl rfl hl.1 rfl (lv_room (Nat.le_of_ble_eq_true rfl)) d_PS_enter_14 ⟨Nat.le_of_ble_eq_true rfl, Nat.le_of_ble_eq_true rfl⟩) hS (fun q _ h => hFc q h) hFc (fun H1 locs hB hz hk hS => ?_)
  obtain ⟨hP, hD⟩ := q_join (wr := [(a_t_persons, .inl (G.2 3, 8, .inr (.inr (.inr (.inr x_t_persons))))), (a_t_table, .inr (3, [.ref a_t_table_place, .ref a_t_table_told, .ref a_t_table_before, .ref a_t_table_behind, .int x_t_table_count])), (a_t_table_place, .inl (G.2 0, 600, .inl x_t_table_place)), (a_t_table_told, .inl (G.2 0, 600, .inl x_t_table_told)), (a_t_table_before, .inl (G.2 0, 600, .inl x_t_table_before)), (a_t_table_behind, .inl (G.2 0, 600, .inl x_t_table_behind)), (a_w, .inr (2, [.int x_w_number, .ref a_w_board, .ref a_w_clock, .int x_w_present, .int x_w_helpCount])), (a_w_board, .inr (0, [.ref a_w_board_entries, .ref a_w_board_markBits])), (a_w_board_entries, .inl (G.2 0, n, .inl x_w_board_entries)), (a_w_board_markBits, .inl (G.2 0, n, .inl x_w_board_markBits))]) (wn := (ws_PS_enter G a_t a_t_right a_t_joining a_t_units a_t_draft a_t_reader a_t_persons a_t_table a_t_table_place a_t_table_told a_t_table_before a_t_table_behind a_w a_w_clock a_w_board a_w_board_entries a_w_board_markBits n x_t_placeCount x_t_personCount x_t_unitCount x_t_persons x_t_table_count x_t_table_place x_t_table_told x_t_table_before x_t_table_behind x_w_number x_w_present x_w_helpCount x_w_board_entries x_w_board_markBits)) hP hD [0] [1, 2, 3, 4, 5, 6, 7, 8, 9, 10] [10, 0, 1, 2, 3, 4, 5, 6, 7, 8, 9] rfl rfl (by decide) (by decide) rfl (by decide) hk hFc hB.1 hB.2
  generalize H1 = H at hP hS ⊢
  replace hP : va_P G.1 vwCl (ws_PS_enter G a_t a_t_right a_t_joining a_t_units a_t_draft a_t_reader a_t_persons a_t_table a_t_table_place a_t_table_told a_t_table_before a_t_table_behind a_w a_w_clock a_w_board a_w_board_entries a_w_board_markBits n x_t_placeCount x_t_personCount x_t_unitCount x_t_persons x_t_table_count x_t_table_place x_t_table_told x_t_table_before x_t_table_behind x_w_number x_w_present x_w_helpCount x_w_board_entries x_w_board_markBits) H := hP
  replace hD : va_D A (ws_PS_enter G a_t a_t_right a_t_joining a_t_units a_t_draft a_t_reader a_t_persons a_t_table a_t_table_place a_t_table_told a_t_table_before a_t_table_behind a_w a_w_clock a_w_board a_w_board_entries a_w_board_markBits n x_t_placeCount x_t_personCount x_t_unitCount x_t_persons x_t_table_count x_t_table_place x_t_table_told x_t_table_before x_t_table_behind x_w_number x_w_present x_w_helpCount x_w_board_entries x_w_board_markBits) := hD
  refine lv_if_eq (tgt := 27) hx hb d_PS_enter_17 (by decide) (fun c2 => ?_) (fun c2 => ?_)
  · replace h := (if_pos c2).symm.trans h
    refine lv_iconst (v := (-1 : Int32)) hx hb d_PS_enter_27 (by decide) ?_
    cases h
    exact q_iretW hx hb hr hlocks hP hD hS d_PS_enter_28
  · replace h := (if_neg c2).symm.trans h
    refine lv_iload_n hx hb d_PS_enter_20 rfl (lv_at hl 4 rfl) ?_
    obtain ⟨y3, hy3, h⟩ := o_bind h
    have hPc := hP.sub (ws' := (ws_PS_isZeroToNine G)) [] rfl
    have hDc := hD.sub (ws' := (ws_PS_isZeroToNine G)) [] (by decide) rfl
    have hFc := va_free (wc := (ws_PS_isZeroToNine G)) hD hS hA [] rfl
    refine q_call1 (va_runS (As := [.int p2]) (rest := []) ⟨hx, hb, hml, hown, hts⟩ (c_PS_isZeroToNine l G H.size p2 _ hy3) ⟨callB_of 1 hts (gC gw_171) rfl rfl rfl (hts _ gw_31) (hts _ gw_169) (by decide +kernel) ⟨Nat.le_of_ble_eq_true rfl, Nat.le_of_ble_eq_true rfl⟩, hts _ gw_170⟩ (pS hK hN hPc hDc) rfl rfl hl.1 rfl (lv_room (Nat.le_of_ble_eq_true rfl)) d_PS_enter_21 ⟨Nat.le_of_ble_eq_true rfl, Nat.le_of_ble_eq_true rfl⟩) hS (fun q _ h => hFc q h) hFc (fun H1 locs hB hz hk hS => ?_)
    obtain ⟨hP, hD⟩ := q_join (wr := [(a_t, .inr (5, [.int x_t_placeCount, .ref a_t_right, .ref a_t_persons, .int x_t_personCount, .ref a_t_table, .ref a_t_joining, .ref a_t_units, .int x_t_unitCount, .ref a_t_draft, .ref a_t_reader])), (a_t_persons, .inl (G.2 3, 8, .inr (.inr (.inr (.inr x_t_persons))))), (a_t_table, .inr (3, [.ref a_t_table_place, .ref a_t_table_told, .ref a_t_table_before, .ref a_t_table_behind, .int x_t_table_count])), (a_t_table_place, .inl (G.2 0, 600, .inl x_t_table_place)), (a_t_table_told, .inl (G.2 0, 600, .inl x_t_table_told)), (a_t_table_before, .inl (G.2 0, 600, .inl x_t_table_before)), (a_t_table_behind, .inl (G.2 0, 600, .inl x_t_table_behind)), (a_w, .inr (2, [.int x_w_number, .ref a_w_board, .ref a_w_clock, .int x_w_present, .int x_w_helpCount])), (a_w_board, .inr (0, [.ref a_w_board_entries, .ref a_w_board_markBits])), (a_w_board_entries, .inl (G.2 0, n, .inl x_w_board_entries)), (a_w_board_markBits, .inl (G.2 0, n, .inl x_w_board_markBits))]) (wn := (ws_PS_enter G a_t a_t_right a_t_joining a_t_units a_t_draft a_t_reader a_t_persons a_t_table a_t_table_place a_t_table_told a_t_table_before a_t_table_behind a_w a_w_clock a_w_board a_w_board_entries a_w_board_markBits n x_t_placeCount x_t_personCount x_t_unitCount x_t_persons x_t_table_count x_t_table_place x_t_table_told x_t_table_before x_t_table_behind x_w_number x_w_present x_w_helpCount x_w_board_entries x_w_board_markBits)) hP hD [] [0, 1, 2, 3, 4, 5, 6, 7, 8, 9, 10] [0, 1, 2, 3, 4, 5, 6, 7, 8, 9, 10] rfl rfl (by decide) (by decide) rfl (by decide) hk hFc hB.1 hB.2
    generalize H1 = H at hP hS ⊢
    replace hP : va_P G.1 vwCl (ws_PS_enter G a_t a_t_right a_t_joining a_t_units a_t_draft a_t_reader a_t_persons a_t_table a_t_table_place a_t_table_told a_t_table_before a_t_table_behind a_w a_w_clock a_w_board a_w_board_entries a_w_board_markBits n x_t_placeCount x_t_personCount x_t_unitCount x_t_persons x_t_table_count x_t_table_place x_t_table_told x_t_table_before x_t_table_behind x_w_number x_w_present x_w_helpCount x_w_board_entries x_w_board_markBits) H := hP
    replace hD : va_D A (ws_PS_enter G a_t a_t_right a_t_joining a_t_units a_t_draft a_t_reader a_t_persons a_t_table a_t_table_place a_t_table_told a_t_table_before a_t_table_behind a_w a_w_clock a_w_board a_w_board_entries a_w_board_markBits n x_t_placeCount x_t_personCount x_t_unitCount x_t_persons x_t_table_count x_t_table_place x_t_table_told x_t_table_before x_t_table_behind x_w_number x_w_present x_w_helpCount x_w_board_entries x_w_board_markBits) := hD
    refine lv_if_ne (tgt := 29) hx hb d_PS_enter_24 (by decide) (fun c4 => ?_) (fun c4 => ?_)
    · replace h := (if_neg c4).symm.trans h
      refine lv_aload_n hx hb d_PS_enter_29 rfl (lv_at hl 1 rfl) ?_
      refine lv_aload hx hb d_PS_enter_30 (lv_at hl 0 rfl) ?_
      refine lv_iload_n hx hb d_PS_enter_32 rfl (lv_at hl 3 rfl) ?_
      refine lv_iload_n hx hb d_PS_enter_33 rfl (lv_at hl 4 rfl) ?_
      obtain ⟨y5, hy5, h⟩ := o_bind h
      have hPc := hP.sub (ws' := (ws_PS_tell G a_t a_t_right a_t_persons a_t_joining a_t_units a_t_draft a_t_reader a_t_table a_t_table_place a_t_table_told a_t_table_before a_t_table_behind a_w a_w_clock a_w_board a_w_board_entries a_w_board_markBits n x_t_placeCount x_t_personCount x_t_unitCount x_t_table_count x_t_table_place x_t_table_told x_t_table_before x_t_table_behind x_w_number x_w_present x_w_helpCount x_w_board_entries x_w_board_markBits)) [0, 2, 3, 4, 5, 6, 7, 8, 9, 10] rfl
      have hDc := hD.sub (ws' := (ws_PS_tell G a_t a_t_right a_t_persons a_t_joining a_t_units a_t_draft a_t_reader a_t_table a_t_table_place a_t_table_told a_t_table_before a_t_table_behind a_w a_w_clock a_w_board a_w_board_entries a_w_board_markBits n x_t_placeCount x_t_personCount x_t_unitCount x_t_table_count x_t_table_place x_t_table_told x_t_table_before x_t_table_behind x_w_number x_w_present x_w_helpCount x_w_board_entries x_w_board_markBits)) [0, 2, 3, 4, 5, 6, 7, 8, 9, 10] (by decide) rfl
      have hFc := va_free (wc := (ws_PS_tell G a_t a_t_right a_t_persons a_t_joining a_t_units a_t_draft a_t_reader a_t_table a_t_table_place a_t_table_told a_t_table_before a_t_table_behind a_w a_w_clock a_w_board a_w_board_entries a_w_board_markBits n x_t_placeCount x_t_personCount x_t_unitCount x_t_table_count x_t_table_place x_t_table_told x_t_table_before x_t_table_behind x_w_number x_w_present x_w_helpCount x_w_board_entries x_w_board_markBits)) hD hS hA [0, 2, 3, 4, 5, 6, 7, 8, 9, 10] rfl
      refine q_call1 (va_runV (As := [.ref a_w, .int p1, .int p2]) (rest := []) ⟨hx, hb, hml, hown, hts⟩ (c_PS_tell l G H.size a_t a_t_right a_t_persons a_t_joining a_t_units a_t_draft a_t_reader a_t_table a_t_table_place a_t_table_told a_t_table_before a_t_table_behind a_w a_w_clock a_w_board a_w_board_entries a_w_board_markBits n p1 p2 x_t_placeCount x_t_personCount x_t_unitCount x_t_table_count x_t_table_place x_t_table_told x_t_table_before x_t_table_behind x_w_number x_w_present x_w_helpCount x_w_board_entries x_w_board_markBits _ _ _ _ _ _ _ _ _ hy5) (cwV 3 hts (gV gw_172 gw_173 gw_4 gw_31 gw_174) rfl rfl rfl (by decide +kernel) ⟨Nat.le_of_ble_eq_true rfl, Nat.le_of_ble_eq_true rfl⟩) (pV hK hN hPc hDc (ci := 5) (q0 := 0) rfl rfl) rfl rfl hl.1 rfl (lv_room (Nat.le_of_ble_eq_true rfl)) d_PS_enter_34 ⟨Nat.le_of_ble_eq_true rfl, Nat.le_of_ble_eq_true rfl⟩) hS (fun q _ h => hFc q h) hFc (fun H1 locs hB hz hk hS => ?_)
      obtain ⟨hP, hD⟩ := q_join (wr := [(a_t_persons, .inl (G.2 3, 8, .inr (.inr (.inr (.inr x_t_persons)))))]) (wn := (ws_PS_enter G a_t a_t_right a_t_joining a_t_units a_t_draft a_t_reader a_t_persons a_t_table a_t_table_place a_t_table_told a_t_table_before a_t_table_behind a_w a_w_clock a_w_board a_w_board_entries a_w_board_markBits n x_t_placeCount x_t_personCount x_t_unitCount x_t_persons y5.2.1 y5.2.2.1 y5.2.2.2.1 y5.2.2.2.2.1 y5.2.2.2.2.2.1 x_w_number y5.2.2.2.2.2.2.1 x_w_helpCount y5.2.2.2.2.2.2.2.1 y5.2.2.2.2.2.2.2.2)) hP hD [0, 2, 3, 4, 5, 6, 7, 8, 9, 10] [1] [1, 0, 2, 3, 4, 5, 6, 7, 8, 9, 10] rfl rfl (by decide) (by decide) rfl (by decide) hk hFc hB.1 hB.2
      generalize H1 = H at hP hS ⊢
      replace hP : va_P G.1 vwCl (ws_PS_enter G a_t a_t_right a_t_joining a_t_units a_t_draft a_t_reader a_t_persons a_t_table a_t_table_place a_t_table_told a_t_table_before a_t_table_behind a_w a_w_clock a_w_board a_w_board_entries a_w_board_markBits n x_t_placeCount x_t_personCount x_t_unitCount x_t_persons y5.2.1 y5.2.2.1 y5.2.2.2.1 y5.2.2.2.2.1 y5.2.2.2.2.2.1 x_w_number y5.2.2.2.2.2.2.1 x_w_helpCount y5.2.2.2.2.2.2.2.1 y5.2.2.2.2.2.2.2.2) H := hP
      replace hD : va_D A (ws_PS_enter G a_t a_t_right a_t_joining a_t_units a_t_draft a_t_reader a_t_persons a_t_table a_t_table_place a_t_table_told a_t_table_before a_t_table_behind a_w a_w_clock a_w_board a_w_board_entries a_w_board_markBits n x_t_placeCount x_t_personCount x_t_unitCount x_t_persons y5.2.1 y5.2.2.1 y5.2.2.2.1 y5.2.2.2.2.1 y5.2.2.2.2.2.1 x_w_number y5.2.2.2.2.2.2.1 x_w_helpCount y5.2.2.2.2.2.2.2.1 y5.2.2.2.2.2.2.2.2) := hD
      cases h
      exact q_iretW hx hb hr hlocks hP hD hS d_PS_enter_37
    · replace h := (if_pos c4).symm.trans h
      refine lv_iconst (v := (-1 : Int32)) hx hb d_PS_enter_27 (by decide) ?_
      cases h
      exact q_iretW hx hb hr hlocks hP hD hS d_PS_enter_28


-- PlayStates.enter(III)I 
def ws_PS_enter_no (G : gG) (a_t a_t_right a_t_table a_t_joining a_t_units a_t_draft a_t_reader a_t_persons : Nat)  (x_t_placeCount : Int32) (x_t_personCount : Int32) (x_t_unitCount : Int32) (x_t_persons : Nat → Option Nat) : va_W := [(a_t, .inr (5, [.int x_t_placeCount, .ref a_t_right, .ref a_t_persons, .int x_t_personCount, .ref a_t_table, .ref a_t_joining, .ref a_t_units, .int x_t_unitCount, .ref a_t_draft, .ref a_t_reader])), (a_t_persons, .inl (G.2 3, 8, .inr (.inr (.inr (.inr x_t_persons)))))]
def f_PS_enter_no  (p0 : Int32) (p1 : Int32) (p2 : Int32) (x_t_placeCount : Int32) (x_t_personCount : Int32) (x_t_unitCount : Int32) (x_t_persons : Nat → Option Nat) : Option (Int32) :=
  some (-1 : Int32)
set_option maxHeartbeats 4000000 in
set_option maxRecDepth 100000 in
theorem c_PS_enter_no (l : Launch) (G : gG) (sz : Nat) (a_t a_t_right a_t_table a_t_joining a_t_units a_t_draft a_t_reader a_t_persons : Nat)  (p0 : Int32) (p1 : Int32) (p2 : Int32) (x_t_placeCount : Int32) (x_t_personCount : Int32) (x_t_unitCount : Int32) (x_t_persons : Nat → Option Nat) (r : Int32) (h : f_PS_enter_no p0 p1 p2 x_t_placeCount x_t_personCount x_t_unitCount x_t_persons = some r)  (hw : f_PS_find p0 x_t_placeCount x_t_personCount x_t_unitCount x_t_persons = some none) : cN l y_PS_enter w_PS_enter { frames := 1, cells := 0, slots := 0, locals := 21 } G sz [.ref a_t, .int p0, .int p1, .int p2] (ws_PS_enter_no G a_t a_t_right a_t_table a_t_joining a_t_units a_t_draft a_t_reader a_t_persons x_t_placeCount x_t_personCount x_t_unitCount x_t_persons) (some (.int r)) (wB G (ws_PS_enter_no G a_t a_t_right a_t_table a_t_joining a_t_units a_t_draft a_t_reader a_t_persons x_t_placeCount x_t_personCount x_t_unitCount x_t_persons)) 0 0 := by
  refine cN_ofW (cc := prog_1_method_3_code) (maxL := 5) (ret := (some .int)) (by decide) rfl (Nat.le_of_ble_eq_true rfl) ?_
  intro p e s m args below meth c A H locs ls hx hb hr hts hown hlocks hin hml hK hN hP hD hA hS hl
  replace hl : lv_has ls 5 [(0, .ref a_t), (1, .int p0), (2, .int p1), (3, .int p2)] := hl
  replace hown : s.vm.findClass "PlayStates" = some m.cls := hown
  unfold f_PS_enter_no at h
  refine lv_aload_n hx hb d_PS_enter_0 rfl (lv_at hl 0 rfl) ?_
  refine lv_iload_n hx hb d_PS_enter_1 rfl (lv_at hl 1 rfl) ?_
  have hPc := hP.sub (ws' := (ws_PS_find G a_t a_t_right a_t_table a_t_joining a_t_units a_t_draft a_t_reader a_t_persons x_t_placeCount x_t_personCount x_t_unitCount x_t_persons)) [0, 1] rfl
  have hDc := hD.sub (ws' := (ws_PS_find G a_t a_t_right a_t_table a_t_joining a_t_units a_t_draft a_t_reader a_t_persons x_t_placeCount x_t_personCount x_t_unitCount x_t_persons)) [0, 1] (by decide) rfl
  have hFc := va_free (wc := (ws_PS_find G a_t a_t_right a_t_table a_t_joining a_t_units a_t_draft a_t_reader a_t_persons x_t_placeCount x_t_personCount x_t_unitCount x_t_persons)) hD hS hA [0, 1] rfl
  refine q_call1 (va_runV (As := [.int p0]) (rest := []) ⟨hx, hb, hml, hown, hts⟩ (c_PS_find l G H.size a_t a_t_right a_t_table a_t_joining a_t_units a_t_draft a_t_reader a_t_persons p0 x_t_placeCount x_t_personCount x_t_unitCount x_t_persons _ hw) (cwV 1 hts (gV gw_163 gw_164 gw_2 gw_31 gw_165) rfl rfl rfl (by decide +kernel) ⟨Nat.le_of_ble_eq_true rfl, Nat.le_of_ble_eq_true rfl⟩) (pV hK hN hPc hDc (ci := 5) (q0 := 0) rfl rfl) rfl rfl hl.1 rfl (lv_room (Nat.le_of_ble_eq_true rfl)) d_PS_enter_2 ⟨Nat.le_of_ble_eq_true rfl, Nat.le_of_ble_eq_true rfl⟩) hS (fun q _ h => hFc q h) hFc (fun H1 locs hB hz hk hS => ?_)
  obtain ⟨hP, hD⟩ := q_joinA hFc hB.1 hB.2
  generalize H1 = H at hP hS ⊢
  replace hP : va_P G.1 vwCl (ws_PS_enter_no G a_t a_t_right a_t_table a_t_joining a_t_units a_t_draft a_t_reader a_t_persons x_t_placeCount x_t_personCount x_t_unitCount x_t_persons) H := hP
  replace hD : va_D A (ws_PS_enter_no G a_t a_t_right a_t_table a_t_joining a_t_units a_t_draft a_t_reader a_t_persons x_t_placeCount x_t_personCount x_t_unitCount x_t_persons) := hD
  refine lv_astoreN (lv' := [(4, .null), (0, .ref a_t), (1, .int p0), (2, .int p1), (3, .int p2)]) hx hb d_PS_enter_5 hl (by decide) rfl (fun ls hl => ?_)
  refine lv_aloadN hx hb d_PS_enter_7 (lv_at hl 0 rfl) ?_
  refine lv_ifnullN (tgt := 27) hx hb d_PS_enter_9 (by decide) ?_
  refine lv_iconst (v := (-1 : Int32)) hx hb d_PS_enter_27 (by decide) ?_
  cases h
  exact q_iretW hx hb hr hlocks hP hD hS d_PS_enter_28

theorem gw_199 : (.methodLink "PlayStates" 90 ⟨"PlayStates", "isOneToNine", "(I)Z"⟩ : Cond) ∈ GW := gT 225 (by decide +kernel) (by decide +kernel)
theorem d_PS_mark_0 : decode prog_1_method_4_code 0 = .ok (.aload_n 0, 1) := by decide +kernel
theorem d_PS_mark_1 : decode prog_1_method_4_code 1 = .ok (.iload_n 1, 1) := by decide +kernel
theorem d_PS_mark_2 : decode prog_1_method_4_code 2 = .ok (.invokevirtual 75, 3) := by decide +kernel
theorem d_PS_mark_5 : decode prog_1_method_4_code 5 = .ok (.astore 5, 2) := by decide +kernel
theorem d_PS_mark_7 : decode prog_1_method_4_code 7 = .ok (.aload 5, 2) := by decide +kernel
theorem d_PS_mark_9 : decode prog_1_method_4_code 9 = .ok (.ifnull 18, 3) := by decide +kernel
theorem d_PS_mark_12 : decode prog_1_method_4_code 12 = .ok (.aload_n 0, 1) := by decide +kernel
theorem d_PS_mark_13 : decode prog_1_method_4_code 13 = .ok (.iload_n 2, 1) := by decide +kernel
theorem d_PS_mark_14 : decode prog_1_method_4_code 14 = .ok (.invokevirtual 79, 3) := by decide +kernel
theorem d_PS_mark_17 : decode prog_1_method_4_code 17 = .ok (.ifCond .eq 10, 3) := by decide +kernel
theorem d_PS_mark_20 : decode prog_1_method_4_code 20 = .ok (.iload_n 3, 1) := by decide +kernel
theorem d_PS_mark_21 : decode prog_1_method_4_code 21 = .ok (.invokestatic 90, 3) := by decide +kernel
theorem d_PS_mark_24 : decode prog_1_method_4_code 24 = .ok (.ifCond .ne 5, 3) := by decide +kernel
theorem d_PS_mark_27 : decode prog_1_method_4_code 27 = .ok (.iconst (-1), 1) := by decide +kernel
theorem d_PS_mark_28 : decode prog_1_method_4_code 28 = .ok (.ireturn, 1) := by decide +kernel
theorem d_PS_mark_29 : decode prog_1_method_4_code 29 = .ok (.aload_n 0, 1) := by decide +kernel
theorem d_PS_mark_30 : decode prog_1_method_4_code 30 = .ok (.aload 5, 2) := by decide +kernel
theorem d_PS_mark_32 : decode prog_1_method_4_code 32 = .ok (.iload_n 2, 1) := by decide +kernel
theorem d_PS_mark_33 : decode prog_1_method_4_code 33 = .ok (.iload 4, 2) := by decide +kernel
theorem d_PS_mark_35 : decode prog_1_method_4_code 35 = .ok (.ifCond .eq 10, 3) := by decide +kernel
theorem d_PS_mark_38 : decode prog_1_method_4_code 38 = .ok (.bipush 10, 2) := by decide +kernel
theorem d_PS_mark_40 : decode prog_1_method_4_code 40 = .ok (.iload_n 3, 1) := by decide +kernel
theorem d_PS_mark_41 : decode prog_1_method_4_code 41 = .ok (.iadd, 1) := by decide +kernel
theorem d_PS_mark_42 : decode prog_1_method_4_code 42 = .ok (.goto 7, 3) := by decide +kernel
theorem d_PS_mark_45 : decode prog_1_method_4_code 45 = .ok (.bipush 20, 2) := by decide +kernel
theorem d_PS_mark_47 : decode prog_1_method_4_code 47 = .ok (.iload_n 3, 1) := by decide +kernel
theorem d_PS_mark_48 : decode prog_1_method_4_code 48 = .ok (.iadd, 1) := by decide +kernel
theorem d_PS_mark_49 : decode prog_1_method_4_code 49 = .ok (.invokevirtual 86, 3) := by decide +kernel
theorem d_PS_mark_52 : decode prog_1_method_4_code 52 = .ok (.ireturn, 1) := by decide +kernel
-- PlayStates.mark(IIIZ)I 
def ws_PS_mark (G : gG) (a_t a_t_right a_t_joining a_t_units a_t_draft a_t_reader a_t_persons a_t_table a_t_table_place a_t_table_told a_t_table_before a_t_table_behind a_w a_w_clock a_w_board a_w_board_entries a_w_board_markBits : Nat) (n : Nat) (x_t_placeCount : Int32) (x_t_personCount : Int32) (x_t_unitCount : Int32) (x_t_persons : Nat → Option Nat) (x_t_table_count : Int32) (x_t_table_place : Nat → Int32) (x_t_table_told : Nat → Int32) (x_t_table_before : Nat → Int32) (x_t_table_behind : Nat → Int32) (x_w_number : Int32) (x_w_present : Int32) (x_w_helpCount : Int32) (x_w_board_entries : Nat → Int32) (x_w_board_markBits : Nat → Int32) : va_W := [(a_t, .inr (5, [.int x_t_placeCount, .ref a_t_right, .ref a_t_persons, .int x_t_personCount, .ref a_t_table, .ref a_t_joining, .ref a_t_units, .int x_t_unitCount, .ref a_t_draft, .ref a_t_reader])), (a_t_persons, .inl (G.2 3, 8, .inr (.inr (.inr (.inr x_t_persons))))), (a_t_table, .inr (3, [.ref a_t_table_place, .ref a_t_table_told, .ref a_t_table_before, .ref a_t_table_behind, .int x_t_table_count])), (a_t_table_place, .inl (G.2 0, 600, .inl x_t_table_place)), (a_t_table_told, .inl (G.2 0, 600, .inl x_t_table_told)), (a_t_table_before, .inl (G.2 0, 600, .inl x_t_table_before)), (a_t_table_behind, .inl (G.2 0, 600, .inl x_t_table_behind)), (a_w, .inr (2, [.int x_w_number, .ref a_w_board, .ref a_w_clock, .int x_w_present, .int x_w_helpCount])), (a_w_board, .inr (0, [.ref a_w_board_entries, .ref a_w_board_markBits])), (a_w_board_entries, .inl (G.2 0, n, .inl x_w_board_entries)), (a_w_board_markBits, .inl (G.2 0, n, .inl x_w_board_markBits))]
def f_PS_mark (n : Nat) (p0 : Int32) (p1 : Int32) (p2 : Int32) (p3 : Int32) (x_t_placeCount : Int32) (x_t_personCount : Int32) (x_t_unitCount : Int32) (x_t_persons : Nat → Option Nat) (x_t_table_count : Int32) (x_t_table_place : Nat → Int32) (x_t_table_told : Nat → Int32) (x_t_table_before : Nat → Int32) (x_t_table_behind : Nat → Int32) (x_w_number : Int32) (x_w_present : Int32) (x_w_helpCount : Int32) (x_w_board_entries : Nat → Int32) (x_w_board_markBits : Nat → Int32) : Option (Int32 × Int32 × (Nat → Int32) × (Nat → Int32) × (Nat → Int32) × (Nat → Int32) × Int32 × (Nat → Int32) × (Nat → Int32)) :=
  ((f_PS_isPlace p1 x_t_placeCount x_t_personCount x_t_unitCount).bind fun y1 => (if y1 = 0 then some ((-1 : Int32), x_t_table_count, x_t_table_place, x_t_table_told, x_t_table_before, x_t_table_behind, x_w_present, x_w_board_entries, x_w_board_markBits) else ((f_PS_isOneToNine p2).bind fun y3 => (if y3 = 0 then some ((-1 : Int32), x_t_table_count, x_t_table_place, x_t_table_told, x_t_table_before, x_t_table_behind, x_w_present, x_w_board_entries, x_w_board_markBits) else (if p3 = 0 then ((f_PS_tell n p1 ((20 : Int32) + p2) x_t_placeCount x_t_personCount x_t_unitCount x_t_table_count x_t_table_place x_t_table_told x_t_table_before x_t_table_behind x_w_number x_w_present x_w_helpCount x_w_board_entries x_w_board_markBits).bind fun y6 => some (y6.1, y6.2.1, y6.2.2.1, y6.2.2.2.1, y6.2.2.2.2.1, y6.2.2.2.2.2.1, y6.2.2.2.2.2.2.1, y6.2.2.2.2.2.2.2.1, y6.2.2.2.2.2.2.2.2)) else ((f_PS_tell n p1 ((10 : Int32) + p2) x_t_placeCount x_t_personCount x_t_unitCount x_t_table_count x_t_table_place x_t_table_told x_t_table_before x_t_table_behind x_w_number x_w_present x_w_helpCount x_w_board_entries x_w_board_markBits).bind fun y7 => some (y7.1, y7.2.1, y7.2.2.1, y7.2.2.2.1, y7.2.2.2.2.1, y7.2.2.2.2.2.1, y7.2.2.2.2.2.2.1, y7.2.2.2.2.2.2.2.1, y7.2.2.2.2.2.2.2.2)))))))
set_option maxHeartbeats 4000000 in
set_option maxRecDepth 100000 in
theorem c_PS_mark (l : Launch) (G : gG) (sz : Nat) (a_t a_t_right a_t_joining a_t_units a_t_draft a_t_reader a_t_persons a_t_table a_t_table_place a_t_table_told a_t_table_before a_t_table_behind a_w a_w_clock a_w_board a_w_board_entries a_w_board_markBits : Nat) (n : Nat) (p0 : Int32) (p1 : Int32) (p2 : Int32) (p3 : Int32) (x_t_placeCount : Int32) (x_t_personCount : Int32) (x_t_unitCount : Int32) (x_t_persons : Nat → Option Nat) (x_t_table_count : Int32) (x_t_table_place : Nat → Int32) (x_t_table_told : Nat → Int32) (x_t_table_before : Nat → Int32) (x_t_table_behind : Nat → Int32) (x_w_number : Int32) (x_w_present : Int32) (x_w_helpCount : Int32) (x_w_board_entries : Nat → Int32) (x_w_board_markBits : Nat → Int32) (r : Int32) (x_t_table_count' : Int32) (x_t_table_place' : Nat → Int32) (x_t_table_told' : Nat → Int32) (x_t_table_before' : Nat → Int32) (x_t_table_behind' : Nat → Int32) (x_w_present' : Int32) (x_w_board_entries' : Nat → Int32) (x_w_board_markBits' : Nat → Int32) (h : f_PS_mark n p0 p1 p2 p3 x_t_placeCount x_t_personCount x_t_unitCount x_t_persons x_t_table_count x_t_table_place x_t_table_told x_t_table_before x_t_table_behind x_w_number x_w_present x_w_helpCount x_w_board_entries x_w_board_markBits = some (r, x_t_table_count', x_t_table_place', x_t_table_told', x_t_table_before', x_t_table_behind', x_w_present', x_w_board_entries', x_w_board_markBits'))  (hw : f_PS_find p0 x_t_placeCount x_t_personCount x_t_unitCount x_t_persons = some (some a_w)) : cN l y_PS_mark w_PS_mark { frames := 3, cells := 0, slots := 0, locals := 69 } G sz [.ref a_t, .int p0, .int p1, .int p2, .int p3] (ws_PS_mark G a_t a_t_right a_t_joining a_t_units a_t_draft a_t_reader a_t_persons a_t_table a_t_table_place a_t_table_told a_t_table_before a_t_table_behind a_w a_w_clock a_w_board a_w_board_entries a_w_board_markBits n x_t_placeCount x_t_personCount x_t_unitCount x_t_persons x_t_table_count x_t_table_place x_t_table_told x_t_table_before x_t_table_behind x_w_number x_w_present x_w_helpCount x_w_board_entries x_w_board_markBits) (some (.int r)) (wB G (ws_PS_mark G a_t a_t_right a_t_joining a_t_units a_t_draft a_t_reader a_t_persons a_t_table a_t_table_place a_t_table_told a_t_table_before a_t_table_behind a_w a_w_clock a_w_board a_w_board_entries a_w_board_markBits n x_t_placeCount x_t_personCount x_t_unitCount x_t_persons x_t_table_count' x_t_table_place' x_t_table_told' x_t_table_before' x_t_table_behind' x_w_number x_w_present' x_w_helpCount x_w_board_entries' x_w_board_markBits')) 0 0 := by
  refine cN_ofW (cc := prog_1_method_4_code) (maxL := 6) (ret := (some .int)) (by decide) rfl (Nat.le_of_ble_eq_true rfl) ?_
  intro p e s m args below meth c A H locs ls hx hb hr hts hown hlocks hin hml hK hN hP hD hA hS hl
  replace hl : lv_has ls 6 [(0, .ref a_t), (1, .int p0), (2, .int p1), (3, .int p2), (4, .int p3)] := hl
  replace hown : s.vm.findClass "PlayStates" = some m.cls := hown
  unfold f_PS_mark at h
  refine lv_aload_n hx hb d_PS_mark_0 rfl (lv_at hl 0 rfl) ?_
  refine lv_iload_n hx hb d_PS_mark_1 rfl (lv_at hl 1 rfl) ?_
  have hPc := hP.sub (ws' := (ws_PS_find G a_t a_t_right a_t_table a_t_joining a_t_units a_t_draft a_t_reader a_t_persons x_t_placeCount x_t_personCount x_t_unitCount x_t_persons)) [0, 1] rfl
  have hDc := hD.sub (ws' := (ws_PS_find G a_t a_t_right a_t_table a_t_joining a_t_units a_t_draft a_t_reader a_t_persons x_t_placeCount x_t_personCount x_t_unitCount x_t_persons)) [0, 1] (by decide) rfl
  have hFc := va_free (wc := (ws_PS_find G a_t a_t_right a_t_table a_t_joining a_t_units a_t_draft a_t_reader a_t_persons x_t_placeCount x_t_personCount x_t_unitCount x_t_persons)) hD hS hA [0, 1] rfl
  refine q_call1 (va_runV (As := [.int p0]) (rest := []) ⟨hx, hb, hml, hown, hts⟩ (c_PS_find l G H.size a_t a_t_right a_t_table a_t_joining a_t_units a_t_draft a_t_reader a_t_persons p0 x_t_placeCount x_t_personCount x_t_unitCount x_t_persons _ hw) (cwV 1 hts (gV gw_163 gw_164 gw_2 gw_31 gw_165) rfl rfl rfl (by decide +kernel) ⟨Nat.le_of_ble_eq_true rfl, Nat.le_of_ble_eq_true rfl⟩) (pV hK hN hPc hDc (ci := 5) (q0 := 0) rfl rfl) rfl rfl hl.1 rfl (lv_room (Nat.le_of_ble_eq_true rfl)) d_PS_mark_2 ⟨Nat.le_of_ble_eq_true rfl, Nat.le_of_ble_eq_true rfl⟩) hS (fun q _ h => hFc q h) hFc (fun H1 locs hB hz hk hS => ?_)
  obtain ⟨hP, hD⟩ := q_join (wr := [(a_t_table, .inr (3, [.ref a_t_table_place, .ref a_t_table_told, .ref a_t_table_before, .ref a_t_table_behind, .int x_t_table_count])), (a_t_table_place, .inl (G.2 0, 600, .inl x_t_table_place)), (a_t_table_told, .inl (G.2 0, 600, .inl x_t_table_told)), (a_t_table_before, .inl (G.2 0, 600, .inl x_t_table_before)), (a_t_table_behind, .inl (G.2 0, 600, .inl x_t_table_behind)), (a_w, .inr (2, [.int x_w_number, .ref a_w_board, .ref a_w_clock, .int x_w_present, .int x_w_helpCount])), (a_w_board, .inr (0, [.ref a_w_board_entries, .ref a_w_board_markBits])), (a_w_board_entries, .inl (G.2 0, n, .inl x_w_board_entries)), (a_w_board_markBits, .inl (G.2 0, n, .inl x_w_board_markBits))]) (wn := (ws_PS_mark G a_t a_t_right a_t_joining a_t_units a_t_draft a_t_reader a_t_persons a_t_table a_t_table_place a_t_table_told a_t_table_before a_t_table_behind a_w a_w_clock a_w_board a_w_board_entries a_w_board_markBits n x_t_placeCount x_t_personCount x_t_unitCount x_t_persons x_t_table_count x_t_table_place x_t_table_told x_t_table_before x_t_table_behind x_w_number x_w_present x_w_helpCount x_w_board_entries x_w_board_markBits)) hP hD [0, 1] [2, 3, 4, 5, 6, 7, 8, 9, 10] [9, 10, 0, 1, 2, 3, 4, 5, 6, 7, 8] rfl rfl (by decide) (by decide) rfl (by decide) hk hFc hB.1 hB.2
  generalize H1 = H at hP hS ⊢
  replace hP : va_P G.1 vwCl (ws_PS_mark G a_t a_t_right a_t_joining a_t_units a_t_draft a_t_reader a_t_persons a_t_table a_t_table_place a_t_table_told a_t_table_before a_t_table_behind a_w a_w_clock a_w_board a_w_board_entries a_w_board_markBits n x_t_placeCount x_t_personCount x_t_unitCount x_t_persons x_t_table_count x_t_table_place x_t_table_told x_t_table_before x_t_table_behind x_w_number x_w_present x_w_helpCount x_w_board_entries x_w_board_markBits) H := hP
  replace hD : va_D A (ws_PS_mark G a_t a_t_right a_t_joining a_t_units a_t_draft a_t_reader a_t_persons a_t_table a_t_table_place a_t_table_told a_t_table_before a_t_table_behind a_w a_w_clock a_w_board a_w_board_entries a_w_board_markBits n x_t_placeCount x_t_personCount x_t_unitCount x_t_persons x_t_table_count x_t_table_place x_t_table_told x_t_table_before x_t_table_behind x_w_number x_w_present x_w_helpCount x_w_board_entries x_w_board_markBits) := hD
  refine lv_astore (lv' := [(5, .ref a_w), (0, .ref a_t), (1, .int p0), (2, .int p1), (3, .int p2), (4, .int p3)]) hx hb d_PS_mark_5 hl (by decide) rfl (fun ls hl => ?_)
  refine lv_aload hx hb d_PS_mark_7 (lv_at hl 0 rfl) ?_
  refine lv_ifnull hx hb d_PS_mark_9 ?_
  refine lv_aload_n hx hb d_PS_mark_12 rfl (lv_at hl 1 rfl) ?_
  refine lv_iload_n hx hb d_PS_mark_13 rfl (lv_at hl 3 rfl) ?_
  obtain ⟨y1, hy1, h⟩ := o_bind h
  have hPc := hP.sub (ws' := (ws_PS_isPlace G a_t a_t_right a_t_persons a_t_table a_t_joining a_t_units a_t_draft a_t_reader x_t_placeCount x_t_personCount x_t_unitCount)) [0] rfl
  have hDc := hD.sub (ws' := (ws_PS_isPlace G a_t a_t_right a_t_persons a_t_table a_t_joining a_t_units a_t_draft a_t_reader x_t_placeCount x_t_personCount x_t_unitCount)) [0] (by decide) rfl
  have hFc := va_free (wc := (ws_PS_isPlace G a_t a_t_right a_t_persons a_t_table a_t_joining a_t_units a_t_draft a_t_reader x_t_placeCount x_t_personCount x_t_unitCount)) hD hS hA [0] rfl
  refine q_call1 (va_runV (As := [.int p1]) (rest := []) ⟨hx, hb, hml, hown, hts⟩ (c_PS_isPlace l G H.size a_t a_t_right a_t_persons a_t_table a_t_joining a_t_units a_t_draft a_t_reader p1 x_t_placeCount x_t_personCount x_t_unitCount _ hy1) (cwV 1 hts (gV gw_166 gw_167 gw_3 gw_31 gw_168) rfl rfl rfl (by decide +kernel) ⟨Nat.le_of_ble_eq_true rfl, Nat.le_of_ble_eq_true rfl⟩) (pV hK hN hPc hDc (ci := 5) (q0 := 0) rfl rfl) rfl rfl hl.1 rfl (lv_room (Nat.le_of_ble_eq_true rfl)) d_PS_mark_14 ⟨Nat.le_of_ble_eq_true rfl, Nat.le_of_ble_eq_true rfl⟩) hS (fun q _ h => hFc q h) hFc (fun H1 locs hB hz hk hS => ?_)
  obtain ⟨hP, hD⟩ := q_join (wr := [(a_t_persons, .inl (G.2 3, 8, .inr (.inr (.inr (.inr x_t_persons))))), (a_t_table, .inr (3, [.ref a_t_table_place, .ref a_t_table_told, .ref a_t_table_before, .ref a_t_table_behind, .int x_t_table_count])), (a_t_table_place, .inl (G.2 0, 600, .inl x_t_table_place)), (a_t_table_told, .inl (G.2 0, 600, .inl x_t_table_told)), (a_t_table_before, .inl (G.2 0, 600, .inl x_t_table_before)), (a_t_table_behind, .inl (G.2 0, 600, .inl x_t_table_behind)), (a_w, .inr (2, [.int x_w_number, .ref a_w_board, .ref a_w_clock, .int x_w_present, .int x_w_helpCount])), (a_w_board, .inr (0, [.ref a_w_board_entries, .ref a_w_board_markBits])), (a_w_board_entries, .inl (G.2 0, n, .inl x_w_board_entries)), (a_w_board_markBits, .inl (G.2 0, n, .inl x_w_board_markBits))]) (wn := (ws_PS_mark G a_t a_t_right a_t_joining a_t_units a_t_draft a_t_reader a_t_persons a_t_table a_t_table_place a_t_table_told a_t_table_before a_t_table_behind a_w a_w_clock a_w_board a_w_board_entries a_w_board_markBits n x_t_placeCount x_t_personCount x_t_unitCount x_t_persons x_t_table_count x_t_table_place x_t_table_told x_t_table_before x_t_table_behind x_w_number x_w_present x_w_helpCount x_w_board_entries x_w_board_markBits)) hP hD [0] [1, 2, 3, 4, 5, 6, 7, 8, 9, 10] [10, 0, 1, 2, 3, 4, 5, 6, 7, 8, 9] rfl rfl (by decide) (by decide) rfl (by decide) hk hFc hB.1 hB.2
  generalize H1 = H at hP hS ⊢
  replace hP : va_P G.1 vwCl (ws_PS_mark G a_t a_t_right a_t_joining a_t_units a_t_draft a_t_reader a_t_persons a_t_table a_t_table_place a_t_table_told a_t_table_before a_t_table_behind a_w a_w_clock a_w_board a_w_board_entries a_w_board_markBits n x_t_placeCount x_t_personCount x_t_unitCount x_t_persons x_t_table_count x_t_table_place x_t_table_told x_t_table_before x_t_table_behind x_w_number x_w_present x_w_helpCount x_w_board_entries x_w_board_markBits) H := hP
  replace hD : va_D A (ws_PS_mark G a_t a_t_right a_t_joining a_t_units a_t_draft a_t_reader a_t_persons a_t_table a_t_table_place a_t_table_told a_t_table_before a_t_table_behind a_w a_w_clock a_w_board a_w_board_entries a_w_board_markBits n x_t_placeCount x_t_personCount x_t_unitCount x_t_persons x_t_table_count x_t_table_place x_t_table_told x_t_table_before x_t_table_behind x_w_number x_w_present x_w_helpCount x_w_board_entries x_w_board_markBits) := hD
  refine lv_if_eq (tgt := 27) hx hb d_PS_mark_17 (by decide) (fun c2 => ?_) (fun c2 => ?_)
  · replace h := (if_pos c2).symm.trans h
    refine lv_iconst (v := (-1 : Int32)) hx hb d_PS_mark_27 (by decide) ?_
    cases h
    exact q_iretW hx hb hr hlocks hP hD hS d_PS_mark_28
  · replace h := (if_neg c2).symm.trans h
    refine lv_iload_n hx hb d_PS_mark_20 rfl (lv_at hl 4 rfl) ?_
    obtain ⟨y3, hy3, h⟩ := o_bind h
    have hPc := hP.sub (ws' := (ws_PS_isOneToNine G)) [] rfl
    have hDc := hD.sub (ws' := (ws_PS_isOneToNine G)) [] (by decide) rfl
    have hFc := va_free (wc := (ws_PS_isOneToNine G)) hD hS hA [] rfl
    refine q_call1 (va_runS (As := [.int p2]) (rest := []) ⟨hx, hb, hml, hown, hts⟩ (c_PS_isOneToNine l G H.size p2 _ hy3) ⟨callB_of 1 hts (gC gw_201) rfl rfl rfl (hts _ gw_31) (hts _ gw_199) (by decide +kernel) ⟨Nat.le_of_ble_eq_true rfl, Nat.le_of_ble_eq_true rfl⟩, hts _ gw_200⟩ (pS hK hN hPc hDc) rfl rfl hl.1 rfl (lv_room (Nat.le_of_ble_eq_true rfl)) d_PS_mark_21 ⟨Nat.le_of_ble_eq_true rfl, Nat.le_of_ble_eq_true rfl⟩) hS (fun q _ h => hFc q h) hFc (fun H1 locs hB hz hk hS => ?_)
    obtain ⟨hP, hD⟩ := q_join (wr := [(a_t, .inr (5, [.int x_t_placeCount, .ref a_t_right, .ref a_t_persons, .int x_t_personCount, .ref a_t_table, .ref a_t_joining, .ref a_t_units, .int x_t_unitCount, .ref a_t_draft, .ref a_t_reader])), (a_t_persons, .inl (G.2 3, 8, .inr (.inr (.inr (.inr x_t_persons))))), (a_t_table, .inr (3, [.ref a_t_table_place, .ref a_t_table_told, .ref a_t_table_before, .ref a_t_table_behind, .int x_t_table_count])), (a_t_table_place, .inl (G.2 0, 600, .inl x_t_table_place)), (a_t_table_told, .inl (G.2 0, 600, .inl x_t_table_told)), (a_t_table_before, .inl (G.2 0, 600, .inl x_t_table_before)), (a_t_table_behind, .inl (G.2 0, 600, .inl x_t_table_behind)), (a_w, .inr (2, [.int x_w_number, .ref a_w_board, .ref a_w_clock, .int x_w_present, .int x_w_helpCount])), (a_w_board, .inr (0, [.ref a_w_board_entries, .ref a_w_board_markBits])), (a_w_board_entries, .inl (G.2 0, n, .inl x_w_board_entries)), (a_w_board_markBits, .inl (G.2 0, n, .inl x_w_board_markBits))]) (wn := (ws_PS_mark G a_t a_t_right a_t_joining a_t_units a_t_draft a_t_reader a_t_persons a_t_table a_t_table_place a_t_table_told a_t_table_before a_t_table_behind a_w a_w_clock a_w_board a_w_board_entries a_w_board_markBits n x_t_placeCount x_t_personCount x_t_unitCount x_t_persons x_t_table_count x_t_table_place x_t_table_told x_t_table_before x_t_table_behind x_w_number x_w_present x_w_helpCount x_w_board_entries x_w_board_markBits)) hP hD [] [0, 1, 2, 3, 4, 5, 6, 7, 8, 9, 10] [0, 1, 2, 3, 4, 5, 6, 7, 8, 9, 10] rfl rfl (by decide) (by decide) rfl (by decide) hk hFc hB.1 hB.2
    generalize H1 = H at hP hS ⊢
    replace hP : va_P G.1 vwCl (ws_PS_mark G a_t a_t_right a_t_joining a_t_units a_t_draft a_t_reader a_t_persons a_t_table a_t_table_place a_t_table_told a_t_table_before a_t_table_behind a_w a_w_clock a_w_board a_w_board_entries a_w_board_markBits n x_t_placeCount x_t_personCount x_t_unitCount x_t_persons x_t_table_count x_t_table_place x_t_table_told x_t_table_before x_t_table_behind x_w_number x_w_present x_w_helpCount x_w_board_entries x_w_board_markBits) H := hP
    replace hD : va_D A (ws_PS_mark G a_t a_t_right a_t_joining a_t_units a_t_draft a_t_reader a_t_persons a_t_table a_t_table_place a_t_table_told a_t_table_before a_t_table_behind a_w a_w_clock a_w_board a_w_board_entries a_w_board_markBits n x_t_placeCount x_t_personCount x_t_unitCount x_t_persons x_t_table_count x_t_table_place x_t_table_told x_t_table_before x_t_table_behind x_w_number x_w_present x_w_helpCount x_w_board_entries x_w_board_markBits) := hD
    refine lv_if_ne (tgt := 29) hx hb d_PS_mark_24 (by decide) (fun c4 => ?_) (fun c4 => ?_)
    · replace h := (if_neg c4).symm.trans h
      refine lv_aload_n hx hb d_PS_mark_29 rfl (lv_at hl 1 rfl) ?_
      refine lv_aload hx hb d_PS_mark_30 (lv_at hl 0 rfl) ?_
      refine lv_iload_n hx hb d_PS_mark_32 rfl (lv_at hl 3 rfl) ?_
      refine lv_iload hx hb d_PS_mark_33 (lv_at hl 5 rfl) ?_
      refine lv_if_eq (tgt := 45) hx hb d_PS_mark_35 (by decide) (fun c5 => ?_) (fun c5 => ?_)
      · replace h := (if_pos c5).symm.trans h
        refine lv_bipush (v := (20 : Int32)) hx hb d_PS_mark_45 (by decide) ?_
        refine lv_iload_n hx hb d_PS_mark_47 rfl (lv_at hl 4 rfl) ?_
        refine lv_iadd hx hb d_PS_mark_48 ?_
        obtain ⟨y6, hy6, h⟩ := o_bind h
        have hPc := hP.sub (ws' := (ws_PS_tell G a_t a_t_right a_t_persons a_t_joining a_t_units a_t_draft a_t_reader a_t_table a_t_table_place a_t_table_told a_t_table_before a_t_table_behind a_w a_w_clock a_w_board a_w_board_entries a_w_board_markBits n x_t_placeCount x_t_personCount x_t_unitCount x_t_table_count x_t_table_place x_t_table_told x_t_table_before x_t_table_behind x_w_number x_w_present x_w_helpCount x_w_board_entries x_w_board_markBits)) [0, 2, 3, 4, 5, 6, 7, 8, 9, 10] rfl
        have hDc := hD.sub (ws' := (ws_PS_tell G a_t a_t_right a_t_persons a_t_joining a_t_units a_t_draft a_t_reader a_t_table a_t_table_place a_t_table_told a_t_table_before a_t_table_behind a_w a_w_clock a_w_board a_w_board_entries a_w_board_markBits n x_t_placeCount x_t_personCount x_t_unitCount x_t_table_count x_t_table_place x_t_table_told x_t_table_before x_t_table_behind x_w_number x_w_present x_w_helpCount x_w_board_entries x_w_board_markBits)) [0, 2, 3, 4, 5, 6, 7, 8, 9, 10] (by decide) rfl
        have hFc := va_free (wc := (ws_PS_tell G a_t a_t_right a_t_persons a_t_joining a_t_units a_t_draft a_t_reader a_t_table a_t_table_place a_t_table_told a_t_table_before a_t_table_behind a_w a_w_clock a_w_board a_w_board_entries a_w_board_markBits n x_t_placeCount x_t_personCount x_t_unitCount x_t_table_count x_t_table_place x_t_table_told x_t_table_before x_t_table_behind x_w_number x_w_present x_w_helpCount x_w_board_entries x_w_board_markBits)) hD hS hA [0, 2, 3, 4, 5, 6, 7, 8, 9, 10] rfl
        refine q_call1 (va_runV (As := [.ref a_w, .int p1, .int ((20 : Int32) + p2)]) (rest := []) ⟨hx, hb, hml, hown, hts⟩ (c_PS_tell l G H.size a_t a_t_right a_t_persons a_t_joining a_t_units a_t_draft a_t_reader a_t_table a_t_table_place a_t_table_told a_t_table_before a_t_table_behind a_w a_w_clock a_w_board a_w_board_entries a_w_board_markBits n p1 ((20 : Int32) + p2) x_t_placeCount x_t_personCount x_t_unitCount x_t_table_count x_t_table_place x_t_table_told x_t_table_before x_t_table_behind x_w_number x_w_present x_w_helpCount x_w_board_entries x_w_board_markBits _ _ _ _ _ _ _ _ _ hy6) (cwV 3 hts (gV gw_172 gw_173 gw_4 gw_31 gw_174) rfl rfl rfl (by decide +kernel) ⟨Nat.le_of_ble_eq_true rfl, Nat.le_of_ble_eq_true rfl⟩) (pV hK hN hPc hDc (ci := 5) (q0 := 0) rfl rfl) rfl rfl hl.1 rfl (lv_room (Nat.le_of_ble_eq_true rfl)) d_PS_mark_49 ⟨Nat.le_of_ble_eq_true rfl, Nat.le_of_ble_eq_true rfl⟩) hS (fun q _ h => hFc q h) hFc (fun H1 locs hB hz hk hS => ?_)
        obtain ⟨hP, hD⟩ := q_join (wr := [(a_t_persons, .inl (G.2 3, 8, .inr (.inr (.inr (.inr x_t_persons)))))]) (wn := (ws_PS_mark G a_t a_t_right a_t_joining a_t_units a_t_draft a_t_reader a_t_persons a_t_table a_t_table_place a_t_table_told a_t_table_before a_t_table_behind a_w a_w_clock a_w_board a_w_board_entries a_w_board_markBits n x_t_placeCount x_t_personCount x_t_unitCount x_t_persons y6.2.1 y6.2.2.1 y6.2.2.2.1 y6.2.2.2.2.1 y6.2.2.2.2.2.1 x_w_number y6.2.2.2.2.2.2.1 x_w_helpCount y6.2.2.2.2.2.2.2.1 y6.2.2.2.2.2.2.2.2)) hP hD [0, 2, 3, 4, 5, 6, 7, 8, 9, 10] [1] [1, 0, 2, 3, 4, 5, 6, 7, 8, 9, 10] rfl rfl (by decide) (by decide) rfl (by decide) hk hFc hB.1 hB.2
        generalize H1 = H at hP hS ⊢
        replace hP : va_P G.1 vwCl (ws_PS_mark G a_t a_t_right a_t_joining a_t_units a_t_draft a_t_reader a_t_persons a_t_table a_t_table_place a_t_table_told a_t_table_before a_t_table_behind a_w a_w_clock a_w_board a_w_board_entries a_w_board_markBits n x_t_placeCount x_t_personCount x_t_unitCount x_t_persons y6.2.1 y6.2.2.1 y6.2.2.2.1 y6.2.2.2.2.1 y6.2.2.2.2.2.1 x_w_number y6.2.2.2.2.2.2.1 x_w_helpCount y6.2.2.2.2.2.2.2.1 y6.2.2.2.2.2.2.2.2) H := hP
        replace hD : va_D A (ws_PS_mark G a_t a_t_right a_t_joining a_t_units a_t_draft a_t_reader a_t_persons a_t_table a_t_table_place a_t_table_told a_t_table_before a_t_table_behind a_w a_w_clock a_w_board a_w_board_entries a_w_board_markBits n x_t_placeCount x_t_personCount x_t_unitCount x_t_persons y6.2.1 y6.2.2.1 y6.2.2.2.1 y6.2.2.2.2.1 y6.2.2.2.2.2.1 x_w_number y6.2.2.2.2.2.2.1 x_w_helpCount y6.2.2.2.2.2.2.2.1 y6.2.2.2.2.2.2.2.2) := hD
        cases h
        exact q_iretW hx hb hr hlocks hP hD hS d_PS_mark_52
      · replace h := (if_neg c5).symm.trans h
        refine lv_bipush (v := (10 : Int32)) hx hb d_PS_mark_38 (by decide) ?_
        refine lv_iload_n hx hb d_PS_mark_40 rfl (lv_at hl 4 rfl) ?_
        refine lv_iadd hx hb d_PS_mark_41 ?_
        refine lv_goto (tgt := 49) hx hb d_PS_mark_42 (by decide) ?_
        obtain ⟨y7, hy7, h⟩ := o_bind h
        have hPc := hP.sub (ws' := (ws_PS_tell G a_t a_t_right a_t_persons a_t_joining a_t_units a_t_draft a_t_reader a_t_table a_t_table_place a_t_table_told a_t_table_before a_t_table_behind a_w a_w_clock a_w_board a_w_board_entries a_w_board_markBits n x_t_placeCount x_t_personCount x_t_unitCount x_t_table_count x_t_table_place x_t_table_told x_t_table_before x_t_table_behind x_w_number x_w_present x_w_helpCount x_w_board_entries x_w_board_markBits)) [0, 2, 3, 4, 5, 6, 7, 8, 9, 10] rfl
        have hDc := hD.sub (ws' := (ws_PS_tell G a_t a_t_right a_t_persons a_t_joining a_t_units a_t_draft a_t_reader a_t_table a_t_table_place a_t_table_told a_t_table_before a_t_table_behind a_w a_w_clock a_w_board a_w_board_entries a_w_board_markBits n x_t_placeCount x_t_personCount x_t_unitCount x_t_table_count x_t_table_place x_t_table_told x_t_table_before x_t_table_behind x_w_number x_w_present x_w_helpCount x_w_board_entries x_w_board_markBits)) [0, 2, 3, 4, 5, 6, 7, 8, 9, 10] (by decide) rfl
        have hFc := va_free (wc := (ws_PS_tell G a_t a_t_right a_t_persons a_t_joining a_t_units a_t_draft a_t_reader a_t_table a_t_table_place a_t_table_told a_t_table_before a_t_table_behind a_w a_w_clock a_w_board a_w_board_entries a_w_board_markBits n x_t_placeCount x_t_personCount x_t_unitCount x_t_table_count x_t_table_place x_t_table_told x_t_table_before x_t_table_behind x_w_number x_w_present x_w_helpCount x_w_board_entries x_w_board_markBits)) hD hS hA [0, 2, 3, 4, 5, 6, 7, 8, 9, 10] rfl
        refine q_call1 (va_runV (As := [.ref a_w, .int p1, .int ((10 : Int32) + p2)]) (rest := []) ⟨hx, hb, hml, hown, hts⟩ (c_PS_tell l G H.size a_t a_t_right a_t_persons a_t_joining a_t_units a_t_draft a_t_reader a_t_table a_t_table_place a_t_table_told a_t_table_before a_t_table_behind a_w a_w_clock a_w_board a_w_board_entries a_w_board_markBits n p1 ((10 : Int32) + p2) x_t_placeCount x_t_personCount x_t_unitCount x_t_table_count x_t_table_place x_t_table_told x_t_table_before x_t_table_behind x_w_number x_w_present x_w_helpCount x_w_board_entries x_w_board_markBits _ _ _ _ _ _ _ _ _ hy7) (cwV 3 hts (gV gw_172 gw_173 gw_4 gw_31 gw_174) rfl rfl rfl (by decide +kernel) ⟨Nat.le_of_ble_eq_true rfl, Nat.le_of_ble_eq_true rfl⟩) (pV hK hN hPc hDc (ci := 5) (q0 := 0) rfl rfl) rfl rfl hl.1 rfl (lv_room (Nat.le_of_ble_eq_true rfl)) d_PS_mark_49 ⟨Nat.le_of_ble_eq_true rfl, Nat.le_of_ble_eq_true rfl⟩) hS (fun q _ h => hFc q h) hFc (fun H1 locs hB hz hk hS => ?_)
        obtain ⟨hP, hD⟩ := q_join (wr := [(a_t_persons, .inl (G.2 3, 8, .inr (.inr (.inr (.inr x_t_persons)))))]) (wn := (ws_PS_mark G a_t a_t_right a_t_joining a_t_units a_t_draft a_t_reader a_t_persons a_t_table a_t_table_place a_t_table_told a_t_table_before a_t_table_behind a_w a_w_clock a_w_board a_w_board_entries a_w_board_markBits n x_t_placeCount x_t_personCount x_t_unitCount x_t_persons y7.2.1 y7.2.2.1 y7.2.2.2.1 y7.2.2.2.2.1 y7.2.2.2.2.2.1 x_w_number y7.2.2.2.2.2.2.1 x_w_helpCount y7.2.2.2.2.2.2.2.1 y7.2.2.2.2.2.2.2.2)) hP hD [0, 2, 3, 4, 5, 6, 7, 8, 9, 10] [1] [1, 0, 2, 3, 4, 5, 6, 7, 8, 9, 10] rfl rfl (by decide) (by decide) rfl (by decide) hk hFc hB.1 hB.2
        generalize H1 = H at hP hS ⊢
        replace hP : va_P G.1 vwCl (ws_PS_mark G a_t a_t_right a_t_joining a_t_units a_t_draft a_t_reader a_t_persons a_t_table a_t_table_place a_t_table_told a_t_table_before a_t_table_behind a_w a_w_clock a_w_board a_w_board_entries a_w_board_markBits n x_t_placeCount x_t_personCount x_t_unitCount x_t_persons y7.2.1 y7.2.2.1 y7.2.2.2.1 y7.2.2.2.2.1 y7.2.2.2.2.2.1 x_w_number y7.2.2.2.2.2.2.1 x_w_helpCount y7.2.2.2.2.2.2.2.1 y7.2.2.2.2.2.2.2.2) H := hP
        replace hD : va_D A (ws_PS_mark G a_t a_t_right a_t_joining a_t_units a_t_draft a_t_reader a_t_persons a_t_table a_t_table_place a_t_table_told a_t_table_before a_t_table_behind a_w a_w_clock a_w_board a_w_board_entries a_w_board_markBits n x_t_placeCount x_t_personCount x_t_unitCount x_t_persons y7.2.1 y7.2.2.1 y7.2.2.2.1 y7.2.2.2.2.1 y7.2.2.2.2.2.1 x_w_number y7.2.2.2.2.2.2.1 x_w_helpCount y7.2.2.2.2.2.2.2.1 y7.2.2.2.2.2.2.2.2) := hD
        cases h
        exact q_iretW hx hb hr hlocks hP hD hS d_PS_mark_52
    · replace h := (if_pos c4).symm.trans h
      refine lv_iconst (v := (-1 : Int32)) hx hb d_PS_mark_27 (by decide) ?_
      cases h
      exact q_iretW hx hb hr hlocks hP hD hS d_PS_mark_28


-- PlayStates.mark(IIIZ)I 
def ws_PS_mark_no (G : gG) (a_t a_t_right a_t_table a_t_joining a_t_units a_t_draft a_t_reader a_t_persons : Nat)  (x_t_placeCount : Int32) (x_t_personCount : Int32) (x_t_unitCount : Int32) (x_t_persons : Nat → Option Nat) : va_W := [(a_t, .inr (5, [.int x_t_placeCount, .ref a_t_right, .ref a_t_persons, .int x_t_personCount, .ref a_t_table, .ref a_t_joining, .ref a_t_units, .int x_t_unitCount, .ref a_t_draft, .ref a_t_reader])), (a_t_persons, .inl (G.2 3, 8, .inr (.inr (.inr (.inr x_t_persons)))))]
def f_PS_mark_no  (p0 : Int32) (p1 : Int32) (p2 : Int32) (p3 : Int32) (x_t_placeCount : Int32) (x_t_personCount : Int32) (x_t_unitCount : Int32) (x_t_persons : Nat → Option Nat) : Option (Int32) :=
  some (-1 : Int32)
set_option maxHeartbeats 4000000 in
set_option maxRecDepth 100000 in
theorem c_PS_mark_no (l : Launch) (G : gG) (sz : Nat) (a_t a_t_right a_t_table a_t_joining a_t_units a_t_draft a_t_reader a_t_persons : Nat)  (p0 : Int32) (p1 : Int32) (p2 : Int32) (p3 : Int32) (x_t_placeCount : Int32) (x_t_personCount : Int32) (x_t_unitCount : Int32) (x_t_persons : Nat → Option Nat) (r : Int32) (h : f_PS_mark_no p0 p1 p2 p3 x_t_placeCount x_t_personCount x_t_unitCount x_t_persons = some r)  (hw : f_PS_find p0 x_t_placeCount x_t_personCount x_t_unitCount x_t_persons = some none) : cN l y_PS_mark w_PS_mark { frames := 1, cells := 0, slots := 0, locals := 21 } G sz [.ref a_t, .int p0, .int p1, .int p2, .int p3] (ws_PS_mark_no G a_t a_t_right a_t_table a_t_joining a_t_units a_t_draft a_t_reader a_t_persons x_t_placeCount x_t_personCount x_t_unitCount x_t_persons) (some (.int r)) (wB G (ws_PS_mark_no G a_t a_t_right a_t_table a_t_joining a_t_units a_t_draft a_t_reader a_t_persons x_t_placeCount x_t_personCount x_t_unitCount x_t_persons)) 0 0 := by
  refine cN_ofW (cc := prog_1_method_4_code) (maxL := 6) (ret := (some .int)) (by decide) rfl (Nat.le_of_ble_eq_true rfl) ?_
  intro p e s m args below meth c A H locs ls hx hb hr hts hown hlocks hin hml hK hN hP hD hA hS hl
  replace hl : lv_has ls 6 [(0, .ref a_t), (1, .int p0), (2, .int p1), (3, .int p2), (4, .int p3)] := hl
  replace hown : s.vm.findClass "PlayStates" = some m.cls := hown
  unfold f_PS_mark_no at h
  refine lv_aload_n hx hb d_PS_mark_0 rfl (lv_at hl 0 rfl) ?_
  refine lv_iload_n hx hb d_PS_mark_1 rfl (lv_at hl 1 rfl) ?_
  have hPc := hP.sub (ws' := (ws_PS_find G a_t a_t_right a_t_table a_t_joining a_t_units a_t_draft a_t_reader a_t_persons x_t_placeCount x_t_personCount x_t_unitCount x_t_persons)) [0, 1] rfl
  have hDc := hD.sub (ws' := (ws_PS_find G a_t a_t_right a_t_table a_t_joining a_t_units a_t_draft a_t_reader a_t_persons x_t_placeCount x_t_personCount x_t_unitCount x_t_persons)) [0, 1] (by decide) rfl
  have hFc := va_free (wc := (ws_PS_find G a_t a_t_right a_t_table a_t_joining a_t_units a_t_draft a_t_reader a_t_persons x_t_placeCount x_t_personCount x_t_unitCount x_t_persons)) hD hS hA [0, 1] rfl
  refine q_call1 (va_runV (As := [.int p0]) (rest := []) ⟨hx, hb, hml, hown, hts⟩ (c_PS_find l G H.size a_t a_t_right a_t_table a_t_joining a_t_units a_t_draft a_t_reader a_t_persons p0 x_t_placeCount x_t_personCount x_t_unitCount x_t_persons _ hw) (cwV 1 hts (gV gw_163 gw_164 gw_2 gw_31 gw_165) rfl rfl rfl (by decide +kernel) ⟨Nat.le_of_ble_eq_true rfl, Nat.le_of_ble_eq_true rfl⟩) (pV hK hN hPc hDc (ci := 5) (q0 := 0) rfl rfl) rfl rfl hl.1 rfl (lv_room (Nat.le_of_ble_eq_true rfl)) d_PS_mark_2 ⟨Nat.le_of_ble_eq_true rfl, Nat.le_of_ble_eq_true rfl⟩) hS (fun q _ h => hFc q h) hFc (fun H1 locs hB hz hk hS => ?_)
  obtain ⟨hP, hD⟩ := q_joinA hFc hB.1 hB.2
  generalize H1 = H at hP hS ⊢
  replace hP : va_P G.1 vwCl (ws_PS_mark_no G a_t a_t_right a_t_table a_t_joining a_t_units a_t_draft a_t_reader a_t_persons x_t_placeCount x_t_personCount x_t_unitCount x_t_persons) H := hP
  replace hD : va_D A (ws_PS_mark_no G a_t a_t_right a_t_table a_t_joining a_t_units a_t_draft a_t_reader a_t_persons x_t_placeCount x_t_personCount x_t_unitCount x_t_persons) := hD
  refine lv_astoreN (lv' := [(5, .null), (0, .ref a_t), (1, .int p0), (2, .int p1), (3, .int p2), (4, .int p3)]) hx hb d_PS_mark_5 hl (by decide) rfl (fun ls hl => ?_)
  refine lv_aloadN hx hb d_PS_mark_7 (lv_at hl 0 rfl) ?_
  refine lv_ifnullN (tgt := 27) hx hb d_PS_mark_9 (by decide) ?_
  refine lv_iconst (v := (-1 : Int32)) hx hb d_PS_mark_27 (by decide) ?_
  cases h
  exact q_iretW hx hb hr hlocks hP hD hS d_PS_mark_28

theorem d_PS_at_0 : decode prog_1_method_8_code 0 = .ok (.aload_n 0, 1) := by decide +kernel
theorem d_PS_at_1 : decode prog_1_method_8_code 1 = .ok (.iload_n 1, 1) := by decide +kernel
theorem d_PS_at_2 : decode prog_1_method_8_code 2 = .ok (.invokevirtual 75, 3) := by decide +kernel
theorem d_PS_at_5 : decode prog_1_method_8_code 5 = .ok (.astore_n 3, 1) := by decide +kernel
theorem d_PS_at_6 : decode prog_1_method_8_code 6 = .ok (.aload_n 3, 1) := by decide +kernel
theorem d_PS_at_7 : decode prog_1_method_8_code 7 = .ok (.ifnull 11, 3) := by decide +kernel
theorem d_PS_at_10 : decode prog_1_method_8_code 10 = .ok (.aload_n 0, 1) := by decide +kernel
theorem d_PS_at_11 : decode prog_1_method_8_code 11 = .ok (.iload_n 2, 1) := by decide +kernel
theorem d_PS_at_12 : decode prog_1_method_8_code 12 = .ok (.invokevirtual 79, 3) := by decide +kernel
theorem d_PS_at_15 : decode prog_1_method_8_code 15 = .ok (.ifCond .ne 7, 3) := by decide +kernel
theorem d_PS_at_18 : decode prog_1_method_8_code 18 = .ok (.iconst (-1), 1) := by decide +kernel
theorem d_PS_at_19 : decode prog_1_method_8_code 19 = .ok (.goto 12, 3) := by decide +kernel
theorem d_PS_at_22 : decode prog_1_method_8_code 22 = .ok (.aload_n 3, 1) := by decide +kernel
theorem d_PS_at_23 : decode prog_1_method_8_code 23 = .ok (.getfield 99, 3) := by decide +kernel
theorem d_PS_at_26 : decode prog_1_method_8_code 26 = .ok (.getfield 125, 3) := by decide +kernel
theorem d_PS_at_29 : decode prog_1_method_8_code 29 = .ok (.iload_n 2, 1) := by decide +kernel
theorem d_PS_at_30 : decode prog_1_method_8_code 30 = .ok (.iaload, 1) := by decide +kernel
theorem d_PS_at_31 : decode prog_1_method_8_code 31 = .ok (.ireturn, 1) := by decide +kernel
-- PlayStates.at(II)I 
def ws_PS_at (G : gG) (a_t a_t_right a_t_table a_t_joining a_t_units a_t_draft a_t_reader a_t_persons a_w a_w_clock a_w_board a_w_board_markBits a_w_board_entries : Nat) (n : Nat) (x_t_placeCount : Int32) (x_t_personCount : Int32) (x_t_unitCount : Int32) (x_t_persons : Nat → Option Nat) (x_w_number : Int32) (x_w_present : Int32) (x_w_helpCount : Int32) (x_w_board_entries : Nat → Int32) : va_W := [(a_t, .inr (5, [.int x_t_placeCount, .ref a_t_right, .ref a_t_persons, .int x_t_personCount, .ref a_t_table, .ref a_t_joining, .ref a_t_units, .int x_t_unitCount, .ref a_t_draft, .ref a_t_reader])), (a_t_persons, .inl (G.2 3, 8, .inr (.inr (.inr (.inr x_t_persons))))), (a_w, .inr (2, [.int x_w_number, .ref a_w_board, .ref a_w_clock, .int x_w_present, .int x_w_helpCount])), (a_w_board, .inr (0, [.ref a_w_board_entries, .ref a_w_board_markBits])), (a_w_board_entries, .inl (G.2 0, n, .inl x_w_board_entries))]
def f_PS_at (n : Nat) (p0 : Int32) (p1 : Int32) (x_t_placeCount : Int32) (x_t_personCount : Int32) (x_t_unitCount : Int32) (x_t_persons : Nat → Option Nat) (x_w_number : Int32) (x_w_present : Int32) (x_w_helpCount : Int32) (x_w_board_entries : Nat → Int32) : Option (Int32) :=
  ((f_PS_isPlace p1 x_t_placeCount x_t_personCount x_t_unitCount).bind fun y1 => (if y1 = 0 then some (-1 : Int32) else (if inB p1 n then some (x_w_board_entries p1.toNatClampNeg) else none)))
set_option maxHeartbeats 4000000 in
set_option maxRecDepth 100000 in
theorem c_PS_at (l : Launch) (G : gG) (sz : Nat) (a_t a_t_right a_t_table a_t_joining a_t_units a_t_draft a_t_reader a_t_persons a_w a_w_clock a_w_board a_w_board_markBits a_w_board_entries : Nat) (n : Nat) (p0 : Int32) (p1 : Int32) (x_t_placeCount : Int32) (x_t_personCount : Int32) (x_t_unitCount : Int32) (x_t_persons : Nat → Option Nat) (x_w_number : Int32) (x_w_present : Int32) (x_w_helpCount : Int32) (x_w_board_entries : Nat → Int32) (r : Int32) (h : f_PS_at n p0 p1 x_t_placeCount x_t_personCount x_t_unitCount x_t_persons x_w_number x_w_present x_w_helpCount x_w_board_entries = some r)  (hw : f_PS_find p0 x_t_placeCount x_t_personCount x_t_unitCount x_t_persons = some (some a_w)) : cN l y_PS_at w_PS_at { frames := 1, cells := 0, slots := 0, locals := 21 } G sz [.ref a_t, .int p0, .int p1] (ws_PS_at G a_t a_t_right a_t_table a_t_joining a_t_units a_t_draft a_t_reader a_t_persons a_w a_w_clock a_w_board a_w_board_markBits a_w_board_entries n x_t_placeCount x_t_personCount x_t_unitCount x_t_persons x_w_number x_w_present x_w_helpCount x_w_board_entries) (some (.int r)) (wB G (ws_PS_at G a_t a_t_right a_t_table a_t_joining a_t_units a_t_draft a_t_reader a_t_persons a_w a_w_clock a_w_board a_w_board_markBits a_w_board_entries n x_t_placeCount x_t_personCount x_t_unitCount x_t_persons x_w_number x_w_present x_w_helpCount x_w_board_entries)) 0 0 := by
  refine cN_ofW (cc := prog_1_method_8_code) (maxL := 4) (ret := (some .int)) (by decide) rfl (Nat.le_of_ble_eq_true rfl) ?_
  intro p e s m args below meth c A H locs ls hx hb hr hts hown hlocks hin hml hK hN hP hD hA hS hl
  replace hl : lv_has ls 4 [(0, .ref a_t), (1, .int p0), (2, .int p1)] := hl
  replace hown : s.vm.findClass "PlayStates" = some m.cls := hown
  unfold f_PS_at at h
  refine lv_aload_n hx hb d_PS_at_0 rfl (lv_at hl 0 rfl) ?_
  refine lv_iload_n hx hb d_PS_at_1 rfl (lv_at hl 1 rfl) ?_
  have hPc := hP.sub (ws' := (ws_PS_find G a_t a_t_right a_t_table a_t_joining a_t_units a_t_draft a_t_reader a_t_persons x_t_placeCount x_t_personCount x_t_unitCount x_t_persons)) [0, 1] rfl
  have hDc := hD.sub (ws' := (ws_PS_find G a_t a_t_right a_t_table a_t_joining a_t_units a_t_draft a_t_reader a_t_persons x_t_placeCount x_t_personCount x_t_unitCount x_t_persons)) [0, 1] (by decide) rfl
  have hFc := va_free (wc := (ws_PS_find G a_t a_t_right a_t_table a_t_joining a_t_units a_t_draft a_t_reader a_t_persons x_t_placeCount x_t_personCount x_t_unitCount x_t_persons)) hD hS hA [0, 1] rfl
  refine q_call1 (va_runV (As := [.int p0]) (rest := []) ⟨hx, hb, hml, hown, hts⟩ (c_PS_find l G H.size a_t a_t_right a_t_table a_t_joining a_t_units a_t_draft a_t_reader a_t_persons p0 x_t_placeCount x_t_personCount x_t_unitCount x_t_persons _ hw) (cwV 1 hts (gV gw_163 gw_164 gw_2 gw_31 gw_165) rfl rfl rfl (by decide +kernel) ⟨Nat.le_of_ble_eq_true rfl, Nat.le_of_ble_eq_true rfl⟩) (pV hK hN hPc hDc (ci := 5) (q0 := 0) rfl rfl) rfl rfl hl.1 rfl (lv_room (Nat.le_of_ble_eq_true rfl)) d_PS_at_2 ⟨Nat.le_of_ble_eq_true rfl, Nat.le_of_ble_eq_true rfl⟩) hS (fun q _ h => hFc q h) hFc (fun H1 locs hB hz hk hS => ?_)
  obtain ⟨hP, hD⟩ := q_join (wr := [(a_w, .inr (2, [.int x_w_number, .ref a_w_board, .ref a_w_clock, .int x_w_present, .int x_w_helpCount])), (a_w_board, .inr (0, [.ref a_w_board_entries, .ref a_w_board_markBits])), (a_w_board_entries, .inl (G.2 0, n, .inl x_w_board_entries))]) (wn := (ws_PS_at G a_t a_t_right a_t_table a_t_joining a_t_units a_t_draft a_t_reader a_t_persons a_w a_w_clock a_w_board a_w_board_markBits a_w_board_entries n x_t_placeCount x_t_personCount x_t_unitCount x_t_persons x_w_number x_w_present x_w_helpCount x_w_board_entries)) hP hD [0, 1] [2, 3, 4] [3, 4, 0, 1, 2] rfl rfl (by decide) (by decide) rfl (by decide) hk hFc hB.1 hB.2
  generalize H1 = H at hP hS ⊢
  replace hP : va_P G.1 vwCl (ws_PS_at G a_t a_t_right a_t_table a_t_joining a_t_units a_t_draft a_t_reader a_t_persons a_w a_w_clock a_w_board a_w_board_markBits a_w_board_entries n x_t_placeCount x_t_personCount x_t_unitCount x_t_persons x_w_number x_w_present x_w_helpCount x_w_board_entries) H := hP
  replace hD : va_D A (ws_PS_at G a_t a_t_right a_t_table a_t_joining a_t_units a_t_draft a_t_reader a_t_persons a_w a_w_clock a_w_board a_w_board_markBits a_w_board_entries n x_t_placeCount x_t_personCount x_t_unitCount x_t_persons x_w_number x_w_present x_w_helpCount x_w_board_entries) := hD
  refine lv_astore_n (lv' := [(3, .ref a_w), (0, .ref a_t), (1, .int p0), (2, .int p1)]) hx hb d_PS_at_5 rfl hl (by decide) rfl (fun ls hl => ?_)
  refine lv_aload_n hx hb d_PS_at_6 rfl (lv_at hl 0 rfl) ?_
  refine lv_ifnull hx hb d_PS_at_7 ?_
  refine lv_aload_n hx hb d_PS_at_10 rfl (lv_at hl 1 rfl) ?_
  refine lv_iload_n hx hb d_PS_at_11 rfl (lv_at hl 3 rfl) ?_
  obtain ⟨y1, hy1, h⟩ := o_bind h
  have hPc := hP.sub (ws' := (ws_PS_isPlace G a_t a_t_right a_t_persons a_t_table a_t_joining a_t_units a_t_draft a_t_reader x_t_placeCount x_t_personCount x_t_unitCount)) [0] rfl
  have hDc := hD.sub (ws' := (ws_PS_isPlace G a_t a_t_right a_t_persons a_t_table a_t_joining a_t_units a_t_draft a_t_reader x_t_placeCount x_t_personCount x_t_unitCount)) [0] (by decide) rfl
  have hFc := va_free (wc := (ws_PS_isPlace G a_t a_t_right a_t_persons a_t_table a_t_joining a_t_units a_t_draft a_t_reader x_t_placeCount x_t_personCount x_t_unitCount)) hD hS hA [0] rfl
  refine q_call1 (va_runV (As := [.int p1]) (rest := []) ⟨hx, hb, hml, hown, hts⟩ (c_PS_isPlace l G H.size a_t a_t_right a_t_persons a_t_table a_t_joining a_t_units a_t_draft a_t_reader p1 x_t_placeCount x_t_personCount x_t_unitCount _ hy1) (cwV 1 hts (gV gw_166 gw_167 gw_3 gw_31 gw_168) rfl rfl rfl (by decide +kernel) ⟨Nat.le_of_ble_eq_true rfl, Nat.le_of_ble_eq_true rfl⟩) (pV hK hN hPc hDc (ci := 5) (q0 := 0) rfl rfl) rfl rfl hl.1 rfl (lv_room (Nat.le_of_ble_eq_true rfl)) d_PS_at_12 ⟨Nat.le_of_ble_eq_true rfl, Nat.le_of_ble_eq_true rfl⟩) hS (fun q _ h => hFc q h) hFc (fun H1 locs hB hz hk hS => ?_)
  obtain ⟨hP, hD⟩ := q_join (wr := [(a_t_persons, .inl (G.2 3, 8, .inr (.inr (.inr (.inr x_t_persons))))), (a_w, .inr (2, [.int x_w_number, .ref a_w_board, .ref a_w_clock, .int x_w_present, .int x_w_helpCount])), (a_w_board, .inr (0, [.ref a_w_board_entries, .ref a_w_board_markBits])), (a_w_board_entries, .inl (G.2 0, n, .inl x_w_board_entries))]) (wn := (ws_PS_at G a_t a_t_right a_t_table a_t_joining a_t_units a_t_draft a_t_reader a_t_persons a_w a_w_clock a_w_board a_w_board_markBits a_w_board_entries n x_t_placeCount x_t_personCount x_t_unitCount x_t_persons x_w_number x_w_present x_w_helpCount x_w_board_entries)) hP hD [0] [1, 2, 3, 4] [4, 0, 1, 2, 3] rfl rfl (by decide) (by decide) rfl (by decide) hk hFc hB.1 hB.2
  generalize H1 = H at hP hS ⊢
  replace hP : va_P G.1 vwCl (ws_PS_at G a_t a_t_right a_t_table a_t_joining a_t_units a_t_draft a_t_reader a_t_persons a_w a_w_clock a_w_board a_w_board_markBits a_w_board_entries n x_t_placeCount x_t_personCount x_t_unitCount x_t_persons x_w_number x_w_present x_w_helpCount x_w_board_entries) H := hP
  replace hD : va_D A (ws_PS_at G a_t a_t_right a_t_table a_t_joining a_t_units a_t_draft a_t_reader a_t_persons a_w a_w_clock a_w_board a_w_board_markBits a_w_board_entries n x_t_placeCount x_t_personCount x_t_unitCount x_t_persons x_w_number x_w_present x_w_helpCount x_w_board_entries) := hD
  refine lv_if_ne (tgt := 22) hx hb d_PS_at_15 (by decide) (fun c2 => ?_) (fun c2 => ?_)
  · replace h := (if_neg c2).symm.trans h
    refine lv_aload_n hx hb d_PS_at_22 rfl (lv_at hl 0 rfl) ?_
    refine va_getN (D := G.1) (ci := 2) (v := .ref a_w_board) (C := "PlayStates$Person") (T := TPn) (N := 5) hx hb hts iw_2 hown hK hP 2 rfl rfl 1 (by decide) (va_Nw.use rfl (hN.1 ("PlayStates", 99, "PlayStates$Person", "board", "LPlayStates$Board;", "PlayStates") (by decide +kernel))) (fun _ h9 => h9) rfl d_PS_at_23 ?_
    refine va_getN (D := G.1) (ci := 0) (v := .ref a_w_board_entries) (C := "PlayStates$Board") (T := TBd) (N := 2) hx hb hts iw_0 hown hK hP 3 rfl rfl 0 (by decide) (va_Nw.use rfl (hN.1 ("PlayStates", 125, "PlayStates$Board", "entries", "[I", "PlayStates") (by decide +kernel))) (fun _ h9 => h9) rfl d_PS_at_26 ?_
    refine lv_iload_n hx hb d_PS_at_29 rfl (lv_at hl 3 rfl) ?_
    obtain ⟨i3, h⟩ := o_if h
    refine va_iald (n := n) (f := x_w_board_entries) hx hb hK hP 4 0 rfl rfl i3 d_PS_at_30 ?_
    cases h
    exact q_iretW hx hb hr hlocks hP hD hS d_PS_at_31
  · replace h := (if_pos c2).symm.trans h
    refine lv_iconst (v := (-1 : Int32)) hx hb d_PS_at_18 (by decide) ?_
    refine lv_goto (tgt := 31) hx hb d_PS_at_19 (by decide) ?_
    cases h
    exact q_iretW hx hb hr hlocks hP hD hS d_PS_at_31


-- PlayStates.at(II)I 
def ws_PS_at_no (G : gG) (a_t a_t_right a_t_table a_t_joining a_t_units a_t_draft a_t_reader a_t_persons : Nat)  (x_t_placeCount : Int32) (x_t_personCount : Int32) (x_t_unitCount : Int32) (x_t_persons : Nat → Option Nat) : va_W := [(a_t, .inr (5, [.int x_t_placeCount, .ref a_t_right, .ref a_t_persons, .int x_t_personCount, .ref a_t_table, .ref a_t_joining, .ref a_t_units, .int x_t_unitCount, .ref a_t_draft, .ref a_t_reader])), (a_t_persons, .inl (G.2 3, 8, .inr (.inr (.inr (.inr x_t_persons)))))]
def f_PS_at_no  (p0 : Int32) (p1 : Int32) (x_t_placeCount : Int32) (x_t_personCount : Int32) (x_t_unitCount : Int32) (x_t_persons : Nat → Option Nat) : Option (Int32) :=
  some (-1 : Int32)
set_option maxHeartbeats 4000000 in
set_option maxRecDepth 100000 in
theorem c_PS_at_no (l : Launch) (G : gG) (sz : Nat) (a_t a_t_right a_t_table a_t_joining a_t_units a_t_draft a_t_reader a_t_persons : Nat)  (p0 : Int32) (p1 : Int32) (x_t_placeCount : Int32) (x_t_personCount : Int32) (x_t_unitCount : Int32) (x_t_persons : Nat → Option Nat) (r : Int32) (h : f_PS_at_no p0 p1 x_t_placeCount x_t_personCount x_t_unitCount x_t_persons = some r)  (hw : f_PS_find p0 x_t_placeCount x_t_personCount x_t_unitCount x_t_persons = some none) : cN l y_PS_at w_PS_at { frames := 1, cells := 0, slots := 0, locals := 21 } G sz [.ref a_t, .int p0, .int p1] (ws_PS_at_no G a_t a_t_right a_t_table a_t_joining a_t_units a_t_draft a_t_reader a_t_persons x_t_placeCount x_t_personCount x_t_unitCount x_t_persons) (some (.int r)) (wB G (ws_PS_at_no G a_t a_t_right a_t_table a_t_joining a_t_units a_t_draft a_t_reader a_t_persons x_t_placeCount x_t_personCount x_t_unitCount x_t_persons)) 0 0 := by
  refine cN_ofW (cc := prog_1_method_8_code) (maxL := 4) (ret := (some .int)) (by decide) rfl (Nat.le_of_ble_eq_true rfl) ?_
  intro p e s m args below meth c A H locs ls hx hb hr hts hown hlocks hin hml hK hN hP hD hA hS hl
  replace hl : lv_has ls 4 [(0, .ref a_t), (1, .int p0), (2, .int p1)] := hl
  replace hown : s.vm.findClass "PlayStates" = some m.cls := hown
  unfold f_PS_at_no at h
  refine lv_aload_n hx hb d_PS_at_0 rfl (lv_at hl 0 rfl) ?_
  refine lv_iload_n hx hb d_PS_at_1 rfl (lv_at hl 1 rfl) ?_
  have hPc := hP.sub (ws' := (ws_PS_find G a_t a_t_right a_t_table a_t_joining a_t_units a_t_draft a_t_reader a_t_persons x_t_placeCount x_t_personCount x_t_unitCount x_t_persons)) [0, 1] rfl
  have hDc := hD.sub (ws' := (ws_PS_find G a_t a_t_right a_t_table a_t_joining a_t_units a_t_draft a_t_reader a_t_persons x_t_placeCount x_t_personCount x_t_unitCount x_t_persons)) [0, 1] (by decide) rfl
  have hFc := va_free (wc := (ws_PS_find G a_t a_t_right a_t_table a_t_joining a_t_units a_t_draft a_t_reader a_t_persons x_t_placeCount x_t_personCount x_t_unitCount x_t_persons)) hD hS hA [0, 1] rfl
  refine q_call1 (va_runV (As := [.int p0]) (rest := []) ⟨hx, hb, hml, hown, hts⟩ (c_PS_find l G H.size a_t a_t_right a_t_table a_t_joining a_t_units a_t_draft a_t_reader a_t_persons p0 x_t_placeCount x_t_personCount x_t_unitCount x_t_persons _ hw) (cwV 1 hts (gV gw_163 gw_164 gw_2 gw_31 gw_165) rfl rfl rfl (by decide +kernel) ⟨Nat.le_of_ble_eq_true rfl, Nat.le_of_ble_eq_true rfl⟩) (pV hK hN hPc hDc (ci := 5) (q0 := 0) rfl rfl) rfl rfl hl.1 rfl (lv_room (Nat.le_of_ble_eq_true rfl)) d_PS_at_2 ⟨Nat.le_of_ble_eq_true rfl, Nat.le_of_ble_eq_true rfl⟩) hS (fun q _ h => hFc q h) hFc (fun H1 locs hB hz hk hS => ?_)
  obtain ⟨hP, hD⟩ := q_joinA hFc hB.1 hB.2
  generalize H1 = H at hP hS ⊢
  replace hP : va_P G.1 vwCl (ws_PS_at_no G a_t a_t_right a_t_table a_t_joining a_t_units a_t_draft a_t_reader a_t_persons x_t_placeCount x_t_personCount x_t_unitCount x_t_persons) H := hP
  replace hD : va_D A (ws_PS_at_no G a_t a_t_right a_t_table a_t_joining a_t_units a_t_draft a_t_reader a_t_persons x_t_placeCount x_t_personCount x_t_unitCount x_t_persons) := hD
  refine lv_astore_nN (lv' := [(3, .null), (0, .ref a_t), (1, .int p0), (2, .int p1)]) hx hb d_PS_at_5 rfl hl (by decide) rfl (fun ls hl => ?_)
  refine lv_aload_nN hx hb d_PS_at_6 rfl (lv_at hl 0 rfl) ?_
  refine lv_ifnullN (tgt := 18) hx hb d_PS_at_7 (by decide) ?_
  refine lv_iconst (v := (-1 : Int32)) hx hb d_PS_at_18 (by decide) ?_
  refine lv_goto (tgt := 31) hx hb d_PS_at_19 (by decide) ?_
  cases h
  exact q_iretW hx hb hr hlocks hP hD hS d_PS_at_31

theorem d_PS_marks_0 : decode prog_1_method_9_code 0 = .ok (.aload_n 0, 1) := by decide +kernel
theorem d_PS_marks_1 : decode prog_1_method_9_code 1 = .ok (.iload_n 1, 1) := by decide +kernel
theorem d_PS_marks_2 : decode prog_1_method_9_code 2 = .ok (.invokevirtual 75, 3) := by decide +kernel
theorem d_PS_marks_5 : decode prog_1_method_9_code 5 = .ok (.astore_n 3, 1) := by decide +kernel
theorem d_PS_marks_6 : decode prog_1_method_9_code 6 = .ok (.aload_n 3, 1) := by decide +kernel
theorem d_PS_marks_7 : decode prog_1_method_9_code 7 = .ok (.ifnull 11, 3) := by decide +kernel
theorem d_PS_marks_10 : decode prog_1_method_9_code 10 = .ok (.aload_n 0, 1) := by decide +kernel
theorem d_PS_marks_11 : decode prog_1_method_9_code 11 = .ok (.iload_n 2, 1) := by decide +kernel
theorem d_PS_marks_12 : decode prog_1_method_9_code 12 = .ok (.invokevirtual 79, 3) := by decide +kernel
theorem d_PS_marks_15 : decode prog_1_method_9_code 15 = .ok (.ifCond .ne 7, 3) := by decide +kernel
theorem d_PS_marks_18 : decode prog_1_method_9_code 18 = .ok (.iconst (-1), 1) := by decide +kernel
theorem d_PS_marks_19 : decode prog_1_method_9_code 19 = .ok (.goto 12, 3) := by decide +kernel
theorem d_PS_marks_22 : decode prog_1_method_9_code 22 = .ok (.aload_n 3, 1) := by decide +kernel
theorem d_PS_marks_23 : decode prog_1_method_9_code 23 = .ok (.getfield 99, 3) := by decide +kernel
theorem d_PS_marks_26 : decode prog_1_method_9_code 26 = .ok (.getfield 128, 3) := by decide +kernel
theorem d_PS_marks_29 : decode prog_1_method_9_code 29 = .ok (.iload_n 2, 1) := by decide +kernel
theorem d_PS_marks_30 : decode prog_1_method_9_code 30 = .ok (.iaload, 1) := by decide +kernel
theorem d_PS_marks_31 : decode prog_1_method_9_code 31 = .ok (.ireturn, 1) := by decide +kernel
-- PlayStates.marks(II)I 
def ws_PS_marks (G : gG) (a_t a_t_right a_t_table a_t_joining a_t_units a_t_draft a_t_reader a_t_persons a_w a_w_clock a_w_board a_w_board_entries a_w_board_markBits : Nat) (n : Nat) (x_t_placeCount : Int32) (x_t_personCount : Int32) (x_t_unitCount : Int32) (x_t_persons : Nat → Option Nat) (x_w_number : Int32) (x_w_present : Int32) (x_w_helpCount : Int32) (x_w_board_markBits : Nat → Int32) : va_W := [(a_t, .inr (5, [.int x_t_placeCount, .ref a_t_right, .ref a_t_persons, .int x_t_personCount, .ref a_t_table, .ref a_t_joining, .ref a_t_units, .int x_t_unitCount, .ref a_t_draft, .ref a_t_reader])), (a_t_persons, .inl (G.2 3, 8, .inr (.inr (.inr (.inr x_t_persons))))), (a_w, .inr (2, [.int x_w_number, .ref a_w_board, .ref a_w_clock, .int x_w_present, .int x_w_helpCount])), (a_w_board, .inr (0, [.ref a_w_board_entries, .ref a_w_board_markBits])), (a_w_board_markBits, .inl (G.2 0, n, .inl x_w_board_markBits))]
def f_PS_marks (n : Nat) (p0 : Int32) (p1 : Int32) (x_t_placeCount : Int32) (x_t_personCount : Int32) (x_t_unitCount : Int32) (x_t_persons : Nat → Option Nat) (x_w_number : Int32) (x_w_present : Int32) (x_w_helpCount : Int32) (x_w_board_markBits : Nat → Int32) : Option (Int32) :=
  ((f_PS_isPlace p1 x_t_placeCount x_t_personCount x_t_unitCount).bind fun y1 => (if y1 = 0 then some (-1 : Int32) else (if inB p1 n then some (x_w_board_markBits p1.toNatClampNeg) else none)))
set_option maxHeartbeats 4000000 in
set_option maxRecDepth 100000 in
theorem c_PS_marks (l : Launch) (G : gG) (sz : Nat) (a_t a_t_right a_t_table a_t_joining a_t_units a_t_draft a_t_reader a_t_persons a_w a_w_clock a_w_board a_w_board_entries a_w_board_markBits : Nat) (n : Nat) (p0 : Int32) (p1 : Int32) (x_t_placeCount : Int32) (x_t_personCount : Int32) (x_t_unitCount : Int32) (x_t_persons : Nat → Option Nat) (x_w_number : Int32) (x_w_present : Int32) (x_w_helpCount : Int32) (x_w_board_markBits : Nat → Int32) (r : Int32) (h : f_PS_marks n p0 p1 x_t_placeCount x_t_personCount x_t_unitCount x_t_persons x_w_number x_w_present x_w_helpCount x_w_board_markBits = some r)  (hw : f_PS_find p0 x_t_placeCount x_t_personCount x_t_unitCount x_t_persons = some (some a_w)) : cN l y_PS_marks w_PS_marks { frames := 1, cells := 0, slots := 0, locals := 21 } G sz [.ref a_t, .int p0, .int p1] (ws_PS_marks G a_t a_t_right a_t_table a_t_joining a_t_units a_t_draft a_t_reader a_t_persons a_w a_w_clock a_w_board a_w_board_entries a_w_board_markBits n x_t_placeCount x_t_personCount x_t_unitCount x_t_persons x_w_number x_w_present x_w_helpCount x_w_board_markBits) (some (.int r)) (wB G (ws_PS_marks G a_t a_t_right a_t_table a_t_joining a_t_units a_t_draft a_t_reader a_t_persons a_w a_w_clock a_w_board a_w_board_entries a_w_board_markBits n x_t_placeCount x_t_personCount x_t_unitCount x_t_persons x_w_number x_w_present x_w_helpCount x_w_board_markBits)) 0 0 := by
  refine cN_ofW (cc := prog_1_method_9_code) (maxL := 4) (ret := (some .int)) (by decide) rfl (Nat.le_of_ble_eq_true rfl) ?_
  intro p e s m args below meth c A H locs ls hx hb hr hts hown hlocks hin hml hK hN hP hD hA hS hl
  replace hl : lv_has ls 4 [(0, .ref a_t), (1, .int p0), (2, .int p1)] := hl
  replace hown : s.vm.findClass "PlayStates" = some m.cls := hown
  unfold f_PS_marks at h
  refine lv_aload_n hx hb d_PS_marks_0 rfl (lv_at hl 0 rfl) ?_
  refine lv_iload_n hx hb d_PS_marks_1 rfl (lv_at hl 1 rfl) ?_
  have hPc := hP.sub (ws' := (ws_PS_find G a_t a_t_right a_t_table a_t_joining a_t_units a_t_draft a_t_reader a_t_persons x_t_placeCount x_t_personCount x_t_unitCount x_t_persons)) [0, 1] rfl
  have hDc := hD.sub (ws' := (ws_PS_find G a_t a_t_right a_t_table a_t_joining a_t_units a_t_draft a_t_reader a_t_persons x_t_placeCount x_t_personCount x_t_unitCount x_t_persons)) [0, 1] (by decide) rfl
  have hFc := va_free (wc := (ws_PS_find G a_t a_t_right a_t_table a_t_joining a_t_units a_t_draft a_t_reader a_t_persons x_t_placeCount x_t_personCount x_t_unitCount x_t_persons)) hD hS hA [0, 1] rfl
  refine q_call1 (va_runV (As := [.int p0]) (rest := []) ⟨hx, hb, hml, hown, hts⟩ (c_PS_find l G H.size a_t a_t_right a_t_table a_t_joining a_t_units a_t_draft a_t_reader a_t_persons p0 x_t_placeCount x_t_personCount x_t_unitCount x_t_persons _ hw) (cwV 1 hts (gV gw_163 gw_164 gw_2 gw_31 gw_165) rfl rfl rfl (by decide +kernel) ⟨Nat.le_of_ble_eq_true rfl, Nat.le_of_ble_eq_true rfl⟩) (pV hK hN hPc hDc (ci := 5) (q0 := 0) rfl rfl) rfl rfl hl.1 rfl (lv_room (Nat.le_of_ble_eq_true rfl)) d_PS_marks_2 ⟨Nat.le_of_ble_eq_true rfl, Nat.le_of_ble_eq_true rfl⟩) hS (fun q _ h => hFc q h) hFc (fun H1 locs hB hz hk hS => ?_)
  obtain ⟨hP, hD⟩ := q_join (wr := [(a_w, .inr (2, [.int x_w_number, .ref a_w_board, .ref a_w_clock, .int x_w_present, .int x_w_helpCount])), (a_w_board, .inr (0, [.ref a_w_board_entries, .ref a_w_board_markBits])), (a_w_board_markBits, .inl (G.2 0, n, .inl x_w_board_markBits))]) (wn := (ws_PS_marks G a_t a_t_right a_t_table a_t_joining a_t_units a_t_draft a_t_reader a_t_persons a_w a_w_clock a_w_board a_w_board_entries a_w_board_markBits n x_t_placeCount x_t_personCount x_t_unitCount x_t_persons x_w_number x_w_present x_w_helpCount x_w_board_markBits)) hP hD [0, 1] [2, 3, 4] [3, 4, 0, 1, 2] rfl rfl (by decide) (by decide) rfl (by decide) hk hFc hB.1 hB.2
  generalize H1 = H at hP hS ⊢
  replace hP : va_P G.1 vwCl (ws_PS_marks G a_t a_t_right a_t_table a_t_joining a_t_units a_t_draft a_t_reader a_t_persons a_w a_w_clock a_w_board a_w_board_entries a_w_board_markBits n x_t_placeCount x_t_personCount x_t_unitCount x_t_persons x_w_number x_w_present x_w_helpCount x_w_board_markBits) H := hP
  replace hD : va_D A (ws_PS_marks G a_t a_t_right a_t_table a_t_joining a_t_units a_t_draft a_t_reader a_t_persons a_w a_w_clock a_w_board a_w_board_entries a_w_board_markBits n x_t_placeCount x_t_personCount x_t_unitCount x_t_persons x_w_number x_w_present x_w_helpCount x_w_board_markBits) := hD
  refine lv_astore_n (lv' := [(3, .ref a_w), (0, .ref a_t), (1, .int p0), (2, .int p1)]) hx hb d_PS_marks_5 rfl hl (by decide) rfl (fun ls hl => ?_)
  refine lv_aload_n hx hb d_PS_marks_6 rfl (lv_at hl 0 rfl) ?_
  refine lv_ifnull hx hb d_PS_marks_7 ?_
  refine lv_aload_n hx hb d_PS_marks_10 rfl (lv_at hl 1 rfl) ?_
  refine lv_iload_n hx hb d_PS_marks_11 rfl (lv_at hl 3 rfl) ?_
  obtain ⟨y1, hy1, h⟩ := o_bind h
  have hPc := hP.sub (ws' := (ws_PS_isPlace G a_t a_t_right a_t_persons a_t_table a_t_joining a_t_units a_t_draft a_t_reader x_t_placeCount x_t_personCount x_t_unitCount)) [0] rfl
  have hDc := hD.sub (ws' := (ws_PS_isPlace G a_t a_t_right a_t_persons a_t_table a_t_joining a_t_units a_t_draft a_t_reader x_t_placeCount x_t_personCount x_t_unitCount)) [0] (by decide) rfl
  have hFc := va_free (wc := (ws_PS_isPlace G a_t a_t_right a_t_persons a_t_table a_t_joining a_t_units a_t_draft a_t_reader x_t_placeCount x_t_personCount x_t_unitCount)) hD hS hA [0] rfl
  refine q_call1 (va_runV (As := [.int p1]) (rest := []) ⟨hx, hb, hml, hown, hts⟩ (c_PS_isPlace l G H.size a_t a_t_right a_t_persons a_t_table a_t_joining a_t_units a_t_draft a_t_reader p1 x_t_placeCount x_t_personCount x_t_unitCount _ hy1) (cwV 1 hts (gV gw_166 gw_167 gw_3 gw_31 gw_168) rfl rfl rfl (by decide +kernel) ⟨Nat.le_of_ble_eq_true rfl, Nat.le_of_ble_eq_true rfl⟩) (pV hK hN hPc hDc (ci := 5) (q0 := 0) rfl rfl) rfl rfl hl.1 rfl (lv_room (Nat.le_of_ble_eq_true rfl)) d_PS_marks_12 ⟨Nat.le_of_ble_eq_true rfl, Nat.le_of_ble_eq_true rfl⟩) hS (fun q _ h => hFc q h) hFc (fun H1 locs hB hz hk hS => ?_)
  obtain ⟨hP, hD⟩ := q_join (wr := [(a_t_persons, .inl (G.2 3, 8, .inr (.inr (.inr (.inr x_t_persons))))), (a_w, .inr (2, [.int x_w_number, .ref a_w_board, .ref a_w_clock, .int x_w_present, .int x_w_helpCount])), (a_w_board, .inr (0, [.ref a_w_board_entries, .ref a_w_board_markBits])), (a_w_board_markBits, .inl (G.2 0, n, .inl x_w_board_markBits))]) (wn := (ws_PS_marks G a_t a_t_right a_t_table a_t_joining a_t_units a_t_draft a_t_reader a_t_persons a_w a_w_clock a_w_board a_w_board_entries a_w_board_markBits n x_t_placeCount x_t_personCount x_t_unitCount x_t_persons x_w_number x_w_present x_w_helpCount x_w_board_markBits)) hP hD [0] [1, 2, 3, 4] [4, 0, 1, 2, 3] rfl rfl (by decide) (by decide) rfl (by decide) hk hFc hB.1 hB.2
  generalize H1 = H at hP hS ⊢
  replace hP : va_P G.1 vwCl (ws_PS_marks G a_t a_t_right a_t_table a_t_joining a_t_units a_t_draft a_t_reader a_t_persons a_w a_w_clock a_w_board a_w_board_entries a_w_board_markBits n x_t_placeCount x_t_personCount x_t_unitCount x_t_persons x_w_number x_w_present x_w_helpCount x_w_board_markBits) H := hP
  replace hD : va_D A (ws_PS_marks G a_t a_t_right a_t_table a_t_joining a_t_units a_t_draft a_t_reader a_t_persons a_w a_w_clock a_w_board a_w_board_entries a_w_board_markBits n x_t_placeCount x_t_personCount x_t_unitCount x_t_persons x_w_number x_w_present x_w_helpCount x_w_board_markBits) := hD
  refine lv_if_ne (tgt := 22) hx hb d_PS_marks_15 (by decide) (fun c2 => ?_) (fun c2 => ?_)
  · replace h := (if_neg c2).symm.trans h
    refine lv_aload_n hx hb d_PS_marks_22 rfl (lv_at hl 0 rfl) ?_
    refine va_getN (D := G.1) (ci := 2) (v := .ref a_w_board) (C := "PlayStates$Person") (T := TPn) (N := 5) hx hb hts iw_2 hown hK hP 2 rfl rfl 1 (by decide) (va_Nw.use rfl (hN.1 ("PlayStates", 99, "PlayStates$Person", "board", "LPlayStates$Board;", "PlayStates") (by decide +kernel))) (fun _ h9 => h9) rfl d_PS_marks_23 ?_
    refine va_getN (D := G.1) (ci := 0) (v := .ref a_w_board_markBits) (C := "PlayStates$Board") (T := TBd) (N := 2) hx hb hts iw_0 hown hK hP 3 rfl rfl 1 (by decide) (va_Nw.use rfl (hN.1 ("PlayStates", 128, "PlayStates$Board", "markBits", "[I", "PlayStates") (by decide +kernel))) (fun _ h9 => h9) rfl d_PS_marks_26 ?_
    refine lv_iload_n hx hb d_PS_marks_29 rfl (lv_at hl 3 rfl) ?_
    obtain ⟨i3, h⟩ := o_if h
    refine va_iald (n := n) (f := x_w_board_markBits) hx hb hK hP 4 0 rfl rfl i3 d_PS_marks_30 ?_
    cases h
    exact q_iretW hx hb hr hlocks hP hD hS d_PS_marks_31
  · replace h := (if_pos c2).symm.trans h
    refine lv_iconst (v := (-1 : Int32)) hx hb d_PS_marks_18 (by decide) ?_
    refine lv_goto (tgt := 31) hx hb d_PS_marks_19 (by decide) ?_
    cases h
    exact q_iretW hx hb hr hlocks hP hD hS d_PS_marks_31


-- PlayStates.marks(II)I 
def ws_PS_marks_no (G : gG) (a_t a_t_right a_t_table a_t_joining a_t_units a_t_draft a_t_reader a_t_persons : Nat)  (x_t_placeCount : Int32) (x_t_personCount : Int32) (x_t_unitCount : Int32) (x_t_persons : Nat → Option Nat) : va_W := [(a_t, .inr (5, [.int x_t_placeCount, .ref a_t_right, .ref a_t_persons, .int x_t_personCount, .ref a_t_table, .ref a_t_joining, .ref a_t_units, .int x_t_unitCount, .ref a_t_draft, .ref a_t_reader])), (a_t_persons, .inl (G.2 3, 8, .inr (.inr (.inr (.inr x_t_persons)))))]
def f_PS_marks_no  (p0 : Int32) (p1 : Int32) (x_t_placeCount : Int32) (x_t_personCount : Int32) (x_t_unitCount : Int32) (x_t_persons : Nat → Option Nat) : Option (Int32) :=
  some (-1 : Int32)
set_option maxHeartbeats 4000000 in
set_option maxRecDepth 100000 in
theorem c_PS_marks_no (l : Launch) (G : gG) (sz : Nat) (a_t a_t_right a_t_table a_t_joining a_t_units a_t_draft a_t_reader a_t_persons : Nat)  (p0 : Int32) (p1 : Int32) (x_t_placeCount : Int32) (x_t_personCount : Int32) (x_t_unitCount : Int32) (x_t_persons : Nat → Option Nat) (r : Int32) (h : f_PS_marks_no p0 p1 x_t_placeCount x_t_personCount x_t_unitCount x_t_persons = some r)  (hw : f_PS_find p0 x_t_placeCount x_t_personCount x_t_unitCount x_t_persons = some none) : cN l y_PS_marks w_PS_marks { frames := 1, cells := 0, slots := 0, locals := 21 } G sz [.ref a_t, .int p0, .int p1] (ws_PS_marks_no G a_t a_t_right a_t_table a_t_joining a_t_units a_t_draft a_t_reader a_t_persons x_t_placeCount x_t_personCount x_t_unitCount x_t_persons) (some (.int r)) (wB G (ws_PS_marks_no G a_t a_t_right a_t_table a_t_joining a_t_units a_t_draft a_t_reader a_t_persons x_t_placeCount x_t_personCount x_t_unitCount x_t_persons)) 0 0 := by
  refine cN_ofW (cc := prog_1_method_9_code) (maxL := 4) (ret := (some .int)) (by decide) rfl (Nat.le_of_ble_eq_true rfl) ?_
  intro p e s m args below meth c A H locs ls hx hb hr hts hown hlocks hin hml hK hN hP hD hA hS hl
  replace hl : lv_has ls 4 [(0, .ref a_t), (1, .int p0), (2, .int p1)] := hl
  replace hown : s.vm.findClass "PlayStates" = some m.cls := hown
  unfold f_PS_marks_no at h
  refine lv_aload_n hx hb d_PS_marks_0 rfl (lv_at hl 0 rfl) ?_
  refine lv_iload_n hx hb d_PS_marks_1 rfl (lv_at hl 1 rfl) ?_
  have hPc := hP.sub (ws' := (ws_PS_find G a_t a_t_right a_t_table a_t_joining a_t_units a_t_draft a_t_reader a_t_persons x_t_placeCount x_t_personCount x_t_unitCount x_t_persons)) [0, 1] rfl
  have hDc := hD.sub (ws' := (ws_PS_find G a_t a_t_right a_t_table a_t_joining a_t_units a_t_draft a_t_reader a_t_persons x_t_placeCount x_t_personCount x_t_unitCount x_t_persons)) [0, 1] (by decide) rfl
  have hFc := va_free (wc := (ws_PS_find G a_t a_t_right a_t_table a_t_joining a_t_units a_t_draft a_t_reader a_t_persons x_t_placeCount x_t_personCount x_t_unitCount x_t_persons)) hD hS hA [0, 1] rfl
  refine q_call1 (va_runV (As := [.int p0]) (rest := []) ⟨hx, hb, hml, hown, hts⟩ (c_PS_find l G H.size a_t a_t_right a_t_table a_t_joining a_t_units a_t_draft a_t_reader a_t_persons p0 x_t_placeCount x_t_personCount x_t_unitCount x_t_persons _ hw) (cwV 1 hts (gV gw_163 gw_164 gw_2 gw_31 gw_165) rfl rfl rfl (by decide +kernel) ⟨Nat.le_of_ble_eq_true rfl, Nat.le_of_ble_eq_true rfl⟩) (pV hK hN hPc hDc (ci := 5) (q0 := 0) rfl rfl) rfl rfl hl.1 rfl (lv_room (Nat.le_of_ble_eq_true rfl)) d_PS_marks_2 ⟨Nat.le_of_ble_eq_true rfl, Nat.le_of_ble_eq_true rfl⟩) hS (fun q _ h => hFc q h) hFc (fun H1 locs hB hz hk hS => ?_)
  obtain ⟨hP, hD⟩ := q_joinA hFc hB.1 hB.2
  generalize H1 = H at hP hS ⊢
  replace hP : va_P G.1 vwCl (ws_PS_marks_no G a_t a_t_right a_t_table a_t_joining a_t_units a_t_draft a_t_reader a_t_persons x_t_placeCount x_t_personCount x_t_unitCount x_t_persons) H := hP
  replace hD : va_D A (ws_PS_marks_no G a_t a_t_right a_t_table a_t_joining a_t_units a_t_draft a_t_reader a_t_persons x_t_placeCount x_t_personCount x_t_unitCount x_t_persons) := hD
  refine lv_astore_nN (lv' := [(3, .null), (0, .ref a_t), (1, .int p0), (2, .int p1)]) hx hb d_PS_marks_5 rfl hl (by decide) rfl (fun ls hl => ?_)
  refine lv_aload_nN hx hb d_PS_marks_6 rfl (lv_at hl 0 rfl) ?_
  refine lv_ifnullN (tgt := 18) hx hb d_PS_marks_7 (by decide) ?_
  refine lv_iconst (v := (-1 : Int32)) hx hb d_PS_marks_18 (by decide) ?_
  refine lv_goto (tgt := 31) hx hb d_PS_marks_19 (by decide) ?_
  cases h
  exact q_iretW hx hb hr hlocks hP hD hS d_PS_marks_31

theorem d_PS_helps_0 : decode prog_1_method_13_code 0 = .ok (.aload_n 0, 1) := by decide +kernel
theorem d_PS_helps_1 : decode prog_1_method_13_code 1 = .ok (.iload_n 1, 1) := by decide +kernel
theorem d_PS_helps_2 : decode prog_1_method_13_code 2 = .ok (.invokevirtual 75, 3) := by decide +kernel
theorem d_PS_helps_5 : decode prog_1_method_13_code 5 = .ok (.astore_n 2, 1) := by decide +kernel
theorem d_PS_helps_6 : decode prog_1_method_13_code 6 = .ok (.aload_n 2, 1) := by decide +kernel
theorem d_PS_helps_7 : decode prog_1_method_13_code 7 = .ok (.ifnonnull 7, 3) := by decide +kernel
theorem d_PS_helps_10 : decode prog_1_method_13_code 10 = .ok (.iconst (-1), 1) := by decide +kernel
theorem d_PS_helps_11 : decode prog_1_method_13_code 11 = .ok (.goto 7, 3) := by decide +kernel
theorem d_PS_helps_14 : decode prog_1_method_13_code 14 = .ok (.aload_n 2, 1) := by decide +kernel
theorem d_PS_helps_15 : decode prog_1_method_13_code 15 = .ok (.getfield 139, 3) := by decide +kernel
theorem d_PS_helps_18 : decode prog_1_method_13_code 18 = .ok (.ireturn, 1) := by decide +kernel
-- PlayStates.helps(I)I 
def ws_PS_helps (G : gG) (a_t a_t_right a_t_table a_t_joining a_t_units a_t_draft a_t_reader a_t_persons a_w a_w_board a_w_clock : Nat)  (x_t_placeCount : Int32) (x_t_personCount : Int32) (x_t_unitCount : Int32) (x_t_persons : Nat → Option Nat) (x_w_number : Int32) (x_w_present : Int32) (x_w_helpCount : Int32) : va_W := [(a_t, .inr (5, [.int x_t_placeCount, .ref a_t_right, .ref a_t_persons, .int x_t_personCount, .ref a_t_table, .ref a_t_joining, .ref a_t_units, .int x_t_unitCount, .ref a_t_draft, .ref a_t_reader])), (a_t_persons, .inl (G.2 3, 8, .inr (.inr (.inr (.inr x_t_persons))))), (a_w, .inr (2, [.int x_w_number, .ref a_w_board, .ref a_w_clock, .int x_w_present, .int x_w_helpCount]))]
def f_PS_helps  (p0 : Int32) (x_t_placeCount : Int32) (x_t_personCount : Int32) (x_t_unitCount : Int32) (x_t_persons : Nat → Option Nat) (x_w_number : Int32) (x_w_present : Int32) (x_w_helpCount : Int32) : Option (Int32) :=
  some x_w_helpCount
set_option maxHeartbeats 4000000 in
set_option maxRecDepth 100000 in
theorem c_PS_helps (l : Launch) (G : gG) (sz : Nat) (a_t a_t_right a_t_table a_t_joining a_t_units a_t_draft a_t_reader a_t_persons a_w a_w_board a_w_clock : Nat)  (p0 : Int32) (x_t_placeCount : Int32) (x_t_personCount : Int32) (x_t_unitCount : Int32) (x_t_persons : Nat → Option Nat) (x_w_number : Int32) (x_w_present : Int32) (x_w_helpCount : Int32) (r : Int32) (h : f_PS_helps p0 x_t_placeCount x_t_personCount x_t_unitCount x_t_persons x_w_number x_w_present x_w_helpCount = some r)  (hw : f_PS_find p0 x_t_placeCount x_t_personCount x_t_unitCount x_t_persons = some (some a_w)) : cN l y_PS_helps w_PS_helps { frames := 1, cells := 0, slots := 0, locals := 21 } G sz [.ref a_t, .int p0] (ws_PS_helps G a_t a_t_right a_t_table a_t_joining a_t_units a_t_draft a_t_reader a_t_persons a_w a_w_board a_w_clock x_t_placeCount x_t_personCount x_t_unitCount x_t_persons x_w_number x_w_present x_w_helpCount) (some (.int r)) (wB G (ws_PS_helps G a_t a_t_right a_t_table a_t_joining a_t_units a_t_draft a_t_reader a_t_persons a_w a_w_board a_w_clock x_t_placeCount x_t_personCount x_t_unitCount x_t_persons x_w_number x_w_present x_w_helpCount)) 0 0 := by
  refine cN_ofW (cc := prog_1_method_13_code) (maxL := 3) (ret := (some .int)) (by decide) rfl (Nat.le_of_ble_eq_true rfl) ?_
  intro p e s m args below meth c A H locs ls hx hb hr hts hown hlocks hin hml hK hN hP hD hA hS hl
  replace hl : lv_has ls 3 [(0, .ref a_t), (1, .int p0)] := hl
  replace hown : s.vm.findClass "PlayStates" = some m.cls := hown
  unfold f_PS_helps at h
  refine lv_aload_n hx hb d_PS_helps_0 rfl (lv_at hl 0 rfl) ?_
  refine lv_iload_n hx hb d_PS_helps_1 rfl (lv_at hl 1 rfl) ?_
  have hPc := hP.sub (ws' := (ws_PS_find G a_t a_t_right a_t_table a_t_joining a_t_units a_t_draft a_t_reader a_t_persons x_t_placeCount x_t_personCount x_t_unitCount x_t_persons)) [0, 1] rfl
  have hDc := hD.sub (ws' := (ws_PS_find G a_t a_t_right a_t_table a_t_joining a_t_units a_t_draft a_t_reader a_t_persons x_t_placeCount x_t_personCount x_t_unitCount x_t_persons)) [0, 1] (by decide) rfl
  have hFc := va_free (wc := (ws_PS_find G a_t a_t_right a_t_table a_t_joining a_t_units a_t_draft a_t_reader a_t_persons x_t_placeCount x_t_personCount x_t_unitCount x_t_persons)) hD hS hA [0, 1] rfl
  refine q_call1 (va_runV (As := [.int p0]) (rest := []) ⟨hx, hb, hml, hown, hts⟩ (c_PS_find l G H.size a_t a_t_right a_t_table a_t_joining a_t_units a_t_draft a_t_reader a_t_persons p0 x_t_placeCount x_t_personCount x_t_unitCount x_t_persons _ hw) (cwV 1 hts (gV gw_163 gw_164 gw_2 gw_31 gw_165) rfl rfl rfl (by decide +kernel) ⟨Nat.le_of_ble_eq_true rfl, Nat.le_of_ble_eq_true rfl⟩) (pV hK hN hPc hDc (ci := 5) (q0 := 0) rfl rfl) rfl rfl hl.1 rfl (lv_room (Nat.le_of_ble_eq_true rfl)) d_PS_helps_2 ⟨Nat.le_of_ble_eq_true rfl, Nat.le_of_ble_eq_true rfl⟩) hS (fun q _ h => hFc q h) hFc (fun H1 locs hB hz hk hS => ?_)
  obtain ⟨hP, hD⟩ := q_join (wr := [(a_w, .inr (2, [.int x_w_number, .ref a_w_board, .ref a_w_clock, .int x_w_present, .int x_w_helpCount]))]) (wn := (ws_PS_helps G a_t a_t_right a_t_table a_t_joining a_t_units a_t_draft a_t_reader a_t_persons a_w a_w_board a_w_clock x_t_placeCount x_t_personCount x_t_unitCount x_t_persons x_w_number x_w_present x_w_helpCount)) hP hD [0, 1] [2] [1, 2, 0] rfl rfl (by decide) (by decide) rfl (by decide) hk hFc hB.1 hB.2
  generalize H1 = H at hP hS ⊢
  replace hP : va_P G.1 vwCl (ws_PS_helps G a_t a_t_right a_t_table a_t_joining a_t_units a_t_draft a_t_reader a_t_persons a_w a_w_board a_w_clock x_t_placeCount x_t_personCount x_t_unitCount x_t_persons x_w_number x_w_present x_w_helpCount) H := hP
  replace hD : va_D A (ws_PS_helps G a_t a_t_right a_t_table a_t_joining a_t_units a_t_draft a_t_reader a_t_persons a_w a_w_board a_w_clock x_t_placeCount x_t_personCount x_t_unitCount x_t_persons x_w_number x_w_present x_w_helpCount) := hD
  refine lv_astore_n (lv' := [(2, .ref a_w), (0, .ref a_t), (1, .int p0)]) hx hb d_PS_helps_5 rfl hl (by decide) rfl (fun ls hl => ?_)
  refine lv_aload_n hx hb d_PS_helps_6 rfl (lv_at hl 0 rfl) ?_
  refine lv_ifnonnull (tgt := 14) hx hb d_PS_helps_7 (by decide) ?_
  refine lv_aload_n hx hb d_PS_helps_14 rfl (lv_at hl 0 rfl) ?_
  refine va_getN (D := G.1) (ci := 2) (v := .int x_w_helpCount) (C := "PlayStates$Person") (T := TPn) (N := 5) hx hb hts iw_2 hown hK hP 2 rfl rfl 4 (by decide) (va_Nw.use rfl (hN.1 ("PlayStates", 139, "PlayStates$Person", "helpCount", "I", "PlayStates") (by decide +kernel))) (fun _ h9 => h9) rfl d_PS_helps_15 ?_
  cases h
  exact q_iretW hx hb hr hlocks hP hD hS d_PS_helps_18


-- PlayStates.helps(I)I 
def ws_PS_helps_no (G : gG) (a_t a_t_right a_t_table a_t_joining a_t_units a_t_draft a_t_reader a_t_persons : Nat)  (x_t_placeCount : Int32) (x_t_personCount : Int32) (x_t_unitCount : Int32) (x_t_persons : Nat → Option Nat) : va_W := [(a_t, .inr (5, [.int x_t_placeCount, .ref a_t_right, .ref a_t_persons, .int x_t_personCount, .ref a_t_table, .ref a_t_joining, .ref a_t_units, .int x_t_unitCount, .ref a_t_draft, .ref a_t_reader])), (a_t_persons, .inl (G.2 3, 8, .inr (.inr (.inr (.inr x_t_persons)))))]
def f_PS_helps_no  (p0 : Int32) (x_t_placeCount : Int32) (x_t_personCount : Int32) (x_t_unitCount : Int32) (x_t_persons : Nat → Option Nat) : Option (Int32) :=
  some (-1 : Int32)
set_option maxHeartbeats 4000000 in
set_option maxRecDepth 100000 in
theorem c_PS_helps_no (l : Launch) (G : gG) (sz : Nat) (a_t a_t_right a_t_table a_t_joining a_t_units a_t_draft a_t_reader a_t_persons : Nat)  (p0 : Int32) (x_t_placeCount : Int32) (x_t_personCount : Int32) (x_t_unitCount : Int32) (x_t_persons : Nat → Option Nat) (r : Int32) (h : f_PS_helps_no p0 x_t_placeCount x_t_personCount x_t_unitCount x_t_persons = some r)  (hw : f_PS_find p0 x_t_placeCount x_t_personCount x_t_unitCount x_t_persons = some none) : cN l y_PS_helps w_PS_helps { frames := 1, cells := 0, slots := 0, locals := 21 } G sz [.ref a_t, .int p0] (ws_PS_helps_no G a_t a_t_right a_t_table a_t_joining a_t_units a_t_draft a_t_reader a_t_persons x_t_placeCount x_t_personCount x_t_unitCount x_t_persons) (some (.int r)) (wB G (ws_PS_helps_no G a_t a_t_right a_t_table a_t_joining a_t_units a_t_draft a_t_reader a_t_persons x_t_placeCount x_t_personCount x_t_unitCount x_t_persons)) 0 0 := by
  refine cN_ofW (cc := prog_1_method_13_code) (maxL := 3) (ret := (some .int)) (by decide) rfl (Nat.le_of_ble_eq_true rfl) ?_
  intro p e s m args below meth c A H locs ls hx hb hr hts hown hlocks hin hml hK hN hP hD hA hS hl
  replace hl : lv_has ls 3 [(0, .ref a_t), (1, .int p0)] := hl
  replace hown : s.vm.findClass "PlayStates" = some m.cls := hown
  unfold f_PS_helps_no at h
  refine lv_aload_n hx hb d_PS_helps_0 rfl (lv_at hl 0 rfl) ?_
  refine lv_iload_n hx hb d_PS_helps_1 rfl (lv_at hl 1 rfl) ?_
  have hPc := hP.sub (ws' := (ws_PS_find G a_t a_t_right a_t_table a_t_joining a_t_units a_t_draft a_t_reader a_t_persons x_t_placeCount x_t_personCount x_t_unitCount x_t_persons)) [0, 1] rfl
  have hDc := hD.sub (ws' := (ws_PS_find G a_t a_t_right a_t_table a_t_joining a_t_units a_t_draft a_t_reader a_t_persons x_t_placeCount x_t_personCount x_t_unitCount x_t_persons)) [0, 1] (by decide) rfl
  have hFc := va_free (wc := (ws_PS_find G a_t a_t_right a_t_table a_t_joining a_t_units a_t_draft a_t_reader a_t_persons x_t_placeCount x_t_personCount x_t_unitCount x_t_persons)) hD hS hA [0, 1] rfl
  refine q_call1 (va_runV (As := [.int p0]) (rest := []) ⟨hx, hb, hml, hown, hts⟩ (c_PS_find l G H.size a_t a_t_right a_t_table a_t_joining a_t_units a_t_draft a_t_reader a_t_persons p0 x_t_placeCount x_t_personCount x_t_unitCount x_t_persons _ hw) (cwV 1 hts (gV gw_163 gw_164 gw_2 gw_31 gw_165) rfl rfl rfl (by decide +kernel) ⟨Nat.le_of_ble_eq_true rfl, Nat.le_of_ble_eq_true rfl⟩) (pV hK hN hPc hDc (ci := 5) (q0 := 0) rfl rfl) rfl rfl hl.1 rfl (lv_room (Nat.le_of_ble_eq_true rfl)) d_PS_helps_2 ⟨Nat.le_of_ble_eq_true rfl, Nat.le_of_ble_eq_true rfl⟩) hS (fun q _ h => hFc q h) hFc (fun H1 locs hB hz hk hS => ?_)
  obtain ⟨hP, hD⟩ := q_joinA hFc hB.1 hB.2
  generalize H1 = H at hP hS ⊢
  replace hP : va_P G.1 vwCl (ws_PS_helps_no G a_t a_t_right a_t_table a_t_joining a_t_units a_t_draft a_t_reader a_t_persons x_t_placeCount x_t_personCount x_t_unitCount x_t_persons) H := hP
  replace hD : va_D A (ws_PS_helps_no G a_t a_t_right a_t_table a_t_joining a_t_units a_t_draft a_t_reader a_t_persons x_t_placeCount x_t_personCount x_t_unitCount x_t_persons) := hD
  refine lv_astore_nN (lv' := [(2, .null), (0, .ref a_t), (1, .int p0)]) hx hb d_PS_helps_5 rfl hl (by decide) rfl (fun ls hl => ?_)
  refine lv_aload_nN hx hb d_PS_helps_6 rfl (lv_at hl 0 rfl) ?_
  refine lv_ifnonnullN hx hb d_PS_helps_7 ?_
  refine lv_iconst (v := (-1 : Int32)) hx hb d_PS_helps_10 (by decide) ?_
  refine lv_goto (tgt := 18) hx hb d_PS_helps_11 (by decide) ?_
  cases h
  exact q_iretW hx hb hr hlocks hP hD hS d_PS_helps_18

theorem gw_225 : (.code ⟨"PlayStates$RowTable", "countBranches", "(I)I"⟩ prog_5_method_5_code 4 (some .int) : Cond) ∈ GW := gT 251 (by decide +kernel) (by decide +kernel)
theorem gw_222 : (.methodLink "PlayStates" 121 ⟨"PlayStates$RowTable", "countBranches", "(I)I"⟩ : Cond) ∈ GW := gT 248 (by decide +kernel) (by decide +kernel)
theorem gw_223 : (.instanceMethod ⟨"PlayStates$RowTable", "countBranches", "(I)I"⟩ : Cond) ∈ GW := gT 249 (by decide +kernel) (by decide +kernel)
theorem gw_224 : (.selects "PlayStates$RowTable" ⟨"PlayStates$RowTable", "countBranches", "(I)I"⟩ ⟨"PlayStates$RowTable", "countBranches", "(I)I"⟩ : Cond) ∈ GW := gT 250 (by decide +kernel) (by decide +kernel)
theorem d_PS_branches_0 : decode prog_1_method_7_code 0 = .ok (.aload_n 0, 1) := by decide +kernel
theorem d_PS_branches_1 : decode prog_1_method_7_code 1 = .ok (.iload_n 1, 1) := by decide +kernel
theorem d_PS_branches_2 : decode prog_1_method_7_code 2 = .ok (.invokevirtual 75, 3) := by decide +kernel
theorem d_PS_branches_5 : decode prog_1_method_7_code 5 = .ok (.astore_n 2, 1) := by decide +kernel
theorem d_PS_branches_6 : decode prog_1_method_7_code 6 = .ok (.aload_n 2, 1) := by decide +kernel
theorem d_PS_branches_7 : decode prog_1_method_7_code 7 = .ok (.ifnonnull 7, 3) := by decide +kernel
theorem d_PS_branches_10 : decode prog_1_method_7_code 10 = .ok (.iconst (-1), 1) := by decide +kernel
theorem d_PS_branches_11 : decode prog_1_method_7_code 11 = .ok (.goto 14, 3) := by decide +kernel
theorem d_PS_branches_14 : decode prog_1_method_7_code 14 = .ok (.aload_n 0, 1) := by decide +kernel
theorem d_PS_branches_15 : decode prog_1_method_7_code 15 = .ok (.getfield 35, 3) := by decide +kernel
theorem d_PS_branches_18 : decode prog_1_method_7_code 18 = .ok (.aload_n 2, 1) := by decide +kernel
theorem d_PS_branches_19 : decode prog_1_method_7_code 19 = .ok (.getfield 93, 3) := by decide +kernel
theorem d_PS_branches_22 : decode prog_1_method_7_code 22 = .ok (.invokevirtual 121, 3) := by decide +kernel
theorem d_PS_branches_25 : decode prog_1_method_7_code 25 = .ok (.ireturn, 1) := by decide +kernel
-- PlayStates.branches(I)I 
def ws_PS_branches (G : gG) (a_t a_t_right a_t_joining a_t_units a_t_draft a_t_reader a_t_persons a_t_table a_t_table_place a_t_table_told a_t_table_before a_t_table_behind a_w a_w_board a_w_clock : Nat)  (x_t_placeCount : Int32) (x_t_personCount : Int32) (x_t_unitCount : Int32) (x_t_persons : Nat → Option Nat) (x_t_table_count : Int32) (x_t_table_behind : Nat → Int32) (x_w_number : Int32) (x_w_present : Int32) (x_w_helpCount : Int32) : va_W := [(a_t, .inr (5, [.int x_t_placeCount, .ref a_t_right, .ref a_t_persons, .int x_t_personCount, .ref a_t_table, .ref a_t_joining, .ref a_t_units, .int x_t_unitCount, .ref a_t_draft, .ref a_t_reader])), (a_t_persons, .inl (G.2 3, 8, .inr (.inr (.inr (.inr x_t_persons))))), (a_t_table, .inr (3, [.ref a_t_table_place, .ref a_t_table_told, .ref a_t_table_before, .ref a_t_table_behind, .int x_t_table_count])), (a_t_table_behind, .inl (G.2 0, 600, .inl x_t_table_behind)), (a_w, .inr (2, [.int x_w_number, .ref a_w_board, .ref a_w_clock, .int x_w_present, .int x_w_helpCount]))]
def f_PS_branches (fu : Nat)  (p0 : Int32) (x_t_placeCount : Int32) (x_t_personCount : Int32) (x_t_unitCount : Int32) (x_t_persons : Nat → Option Nat) (x_t_table_count : Int32) (x_t_table_behind : Nat → Int32) (x_w_number : Int32) (x_w_present : Int32) (x_w_helpCount : Int32) : Option (Int32) :=
  ((f_Rt_countBranches fu x_w_present x_t_table_count x_t_table_behind).bind fun y1 => some y1)
set_option maxHeartbeats 4000000 in
set_option maxRecDepth 100000 in
theorem c_PS_branches (l : Launch) (G : gG) (sz : Nat) (a_t a_t_right a_t_joining a_t_units a_t_draft a_t_reader a_t_persons a_t_table a_t_table_place a_t_table_told a_t_table_before a_t_table_behind a_w a_w_board a_w_clock : Nat) (fu : Nat)  (p0 : Int32) (x_t_placeCount : Int32) (x_t_personCount : Int32) (x_t_unitCount : Int32) (x_t_persons : Nat → Option Nat) (x_t_table_count : Int32) (x_t_table_behind : Nat → Int32) (x_w_number : Int32) (x_w_present : Int32) (x_w_helpCount : Int32) (r : Int32) (h : f_PS_branches fu p0 x_t_placeCount x_t_personCount x_t_unitCount x_t_persons x_t_table_count x_t_table_behind x_w_number x_w_present x_w_helpCount = some r)  (hw : f_PS_find p0 x_t_placeCount x_t_personCount x_t_unitCount x_t_persons = some (some a_w)) : cN l y_PS_branches w_PS_branches { frames := 1, cells := 0, slots := 0, locals := 23 } G sz [.ref a_t, .int p0] (ws_PS_branches G a_t a_t_right a_t_joining a_t_units a_t_draft a_t_reader a_t_persons a_t_table a_t_table_place a_t_table_told a_t_table_before a_t_table_behind a_w a_w_board a_w_clock x_t_placeCount x_t_personCount x_t_unitCount x_t_persons x_t_table_count x_t_table_behind x_w_number x_w_present x_w_helpCount) (some (.int r)) (wB G (ws_PS_branches G a_t a_t_right a_t_joining a_t_units a_t_draft a_t_reader a_t_persons a_t_table a_t_table_place a_t_table_told a_t_table_before a_t_table_behind a_w a_w_board a_w_clock x_t_placeCount x_t_personCount x_t_unitCount x_t_persons x_t_table_count x_t_table_behind x_w_number x_w_present x_w_helpCount)) 0 0 := by
  refine cN_ofW (cc := prog_1_method_7_code) (maxL := 3) (ret := (some .int)) (by decide) rfl (Nat.le_of_ble_eq_true rfl) ?_
  intro p e s m args below meth c A H locs ls hx hb hr hts hown hlocks hin hml hK hN hP hD hA hS hl
  replace hl : lv_has ls 3 [(0, .ref a_t), (1, .int p0)] := hl
  replace hown : s.vm.findClass "PlayStates" = some m.cls := hown
  unfold f_PS_branches at h
  refine lv_aload_n hx hb d_PS_branches_0 rfl (lv_at hl 0 rfl) ?_
  refine lv_iload_n hx hb d_PS_branches_1 rfl (lv_at hl 1 rfl) ?_
  have hPc := hP.sub (ws' := (ws_PS_find G a_t a_t_right a_t_table a_t_joining a_t_units a_t_draft a_t_reader a_t_persons x_t_placeCount x_t_personCount x_t_unitCount x_t_persons)) [0, 1] rfl
  have hDc := hD.sub (ws' := (ws_PS_find G a_t a_t_right a_t_table a_t_joining a_t_units a_t_draft a_t_reader a_t_persons x_t_placeCount x_t_personCount x_t_unitCount x_t_persons)) [0, 1] (by decide) rfl
  have hFc := va_free (wc := (ws_PS_find G a_t a_t_right a_t_table a_t_joining a_t_units a_t_draft a_t_reader a_t_persons x_t_placeCount x_t_personCount x_t_unitCount x_t_persons)) hD hS hA [0, 1] rfl
  refine q_call1 (va_runV (As := [.int p0]) (rest := []) ⟨hx, hb, hml, hown, hts⟩ (c_PS_find l G H.size a_t a_t_right a_t_table a_t_joining a_t_units a_t_draft a_t_reader a_t_persons p0 x_t_placeCount x_t_personCount x_t_unitCount x_t_persons _ hw) (cwV 1 hts (gV gw_163 gw_164 gw_2 gw_31 gw_165) rfl rfl rfl (by decide +kernel) ⟨Nat.le_of_ble_eq_true rfl, Nat.le_of_ble_eq_true rfl⟩) (pV hK hN hPc hDc (ci := 5) (q0 := 0) rfl rfl) rfl rfl hl.1 rfl (lv_room (Nat.le_of_ble_eq_true rfl)) d_PS_branches_2 ⟨Nat.le_of_ble_eq_true rfl, Nat.le_of_ble_eq_true rfl⟩) hS (fun q _ h => hFc q h) hFc (fun H1 locs hB hz hk hS => ?_)
  obtain ⟨hP, hD⟩ := q_join (wr := [(a_t_table, .inr (3, [.ref a_t_table_place, .ref a_t_table_told, .ref a_t_table_before, .ref a_t_table_behind, .int x_t_table_count])), (a_t_table_behind, .inl (G.2 0, 600, .inl x_t_table_behind)), (a_w, .inr (2, [.int x_w_number, .ref a_w_board, .ref a_w_clock, .int x_w_present, .int x_w_helpCount]))]) (wn := (ws_PS_branches G a_t a_t_right a_t_joining a_t_units a_t_draft a_t_reader a_t_persons a_t_table a_t_table_place a_t_table_told a_t_table_before a_t_table_behind a_w a_w_board a_w_clock x_t_placeCount x_t_personCount x_t_unitCount x_t_persons x_t_table_count x_t_table_behind x_w_number x_w_present x_w_helpCount)) hP hD [0, 1] [2, 3, 4] [3, 4, 0, 1, 2] rfl rfl (by decide) (by decide) rfl (by decide) hk hFc hB.1 hB.2
  generalize H1 = H at hP hS ⊢
  replace hP : va_P G.1 vwCl (ws_PS_branches G a_t a_t_right a_t_joining a_t_units a_t_draft a_t_reader a_t_persons a_t_table a_t_table_place a_t_table_told a_t_table_before a_t_table_behind a_w a_w_board a_w_clock x_t_placeCount x_t_personCount x_t_unitCount x_t_persons x_t_table_count x_t_table_behind x_w_number x_w_present x_w_helpCount) H := hP
  replace hD : va_D A (ws_PS_branches G a_t a_t_right a_t_joining a_t_units a_t_draft a_t_reader a_t_persons a_t_table a_t_table_place a_t_table_told a_t_table_before a_t_table_behind a_w a_w_board a_w_clock x_t_placeCount x_t_personCount x_t_unitCount x_t_persons x_t_table_count x_t_table_behind x_w_number x_w_present x_w_helpCount) := hD
  refine lv_astore_n (lv' := [(2, .ref a_w), (0, .ref a_t), (1, .int p0)]) hx hb d_PS_branches_5 rfl hl (by decide) rfl (fun ls hl => ?_)
  refine lv_aload_n hx hb d_PS_branches_6 rfl (lv_at hl 0 rfl) ?_
  refine lv_ifnonnull (tgt := 14) hx hb d_PS_branches_7 (by decide) ?_
  refine lv_aload_n hx hb d_PS_branches_14 rfl (lv_at hl 1 rfl) ?_
  refine va_get (D := G.1) (ci := 5) (v := .ref a_t_table) (C := "PlayStates") (T := TPS) (N := 10) hx hb hts iw_5 hown hK hP 0 rfl rfl 4 (by decide) (hts _ gw_106) (fun _ h9 => h9) rfl d_PS_branches_15 ?_
  refine lv_aload_n hx hb d_PS_branches_18 rfl (lv_at hl 0 rfl) ?_
  refine va_getN (D := G.1) (ci := 2) (v := .int x_w_present) (C := "PlayStates$Person") (T := TPn) (N := 5) hx hb hts iw_2 hown hK hP 4 rfl rfl 3 (by decide) (va_Nw.use rfl (hN.1 ("PlayStates", 93, "PlayStates$Person", "present", "I", "PlayStates") (by decide +kernel))) (fun _ h9 => h9) rfl d_PS_branches_19 ?_
  obtain ⟨y1, hy1, h⟩ := o_bind h
  have hPc := hP.sub (ws' := (ws_Rt_countBranches G a_t_table a_t_table_place a_t_table_told a_t_table_before a_t_table_behind x_t_table_count x_t_table_behind)) [2, 3] rfl
  have hDc := hD.sub (ws' := (ws_Rt_countBranches G a_t_table a_t_table_place a_t_table_told a_t_table_before a_t_table_behind x_t_table_count x_t_table_behind)) [2, 3] (by decide) rfl
  have hFc := va_free (wc := (ws_Rt_countBranches G a_t_table a_t_table_place a_t_table_told a_t_table_before a_t_table_behind x_t_table_count x_t_table_behind)) hD hS hA [2, 3] rfl
  refine q_call1 (va_runV (As := [.int x_w_present]) (rest := []) ⟨hx, hb, hml, hown, hts⟩ (c_Rt_countBranches l G H.size a_t_table a_t_table_place a_t_table_told a_t_table_before a_t_table_behind fu x_w_present x_t_table_count x_t_table_behind _ hy1) (cwV 1 hts (gV gw_222 gw_223 gw_224 gw_33 gw_225) rfl rfl rfl (by decide +kernel) ⟨Nat.le_of_ble_eq_true rfl, Nat.le_of_ble_eq_true rfl⟩) (pV hK hN hPc hDc (ci := 3) (q0 := 0) rfl rfl) rfl rfl hl.1 rfl (lv_room (Nat.le_of_ble_eq_true rfl)) d_PS_branches_22 ⟨Nat.le_of_ble_eq_true rfl, Nat.le_of_ble_eq_true rfl⟩) hS (fun q _ h => hFc q h) hFc (fun H1 locs hB hz hk hS => ?_)
  obtain ⟨hP, hD⟩ := q_join (wr := [(a_t, .inr (5, [.int x_t_placeCount, .ref a_t_right, .ref a_t_persons, .int x_t_personCount, .ref a_t_table, .ref a_t_joining, .ref a_t_units, .int x_t_unitCount, .ref a_t_draft, .ref a_t_reader])), (a_t_persons, .inl (G.2 3, 8, .inr (.inr (.inr (.inr x_t_persons))))), (a_w, .inr (2, [.int x_w_number, .ref a_w_board, .ref a_w_clock, .int x_w_present, .int x_w_helpCount]))]) (wn := (ws_PS_branches G a_t a_t_right a_t_joining a_t_units a_t_draft a_t_reader a_t_persons a_t_table a_t_table_place a_t_table_told a_t_table_before a_t_table_behind a_w a_w_board a_w_clock x_t_placeCount x_t_personCount x_t_unitCount x_t_persons x_t_table_count x_t_table_behind x_w_number x_w_present x_w_helpCount)) hP hD [2, 3] [0, 1, 4] [0, 1, 3, 4, 2] rfl rfl (by decide) (by decide) rfl (by decide) hk hFc hB.1 hB.2
  generalize H1 = H at hP hS ⊢
  replace hP : va_P G.1 vwCl (ws_PS_branches G a_t a_t_right a_t_joining a_t_units a_t_draft a_t_reader a_t_persons a_t_table a_t_table_place a_t_table_told a_t_table_before a_t_table_behind a_w a_w_board a_w_clock x_t_placeCount x_t_personCount x_t_unitCount x_t_persons x_t_table_count x_t_table_behind x_w_number x_w_present x_w_helpCount) H := hP
  replace hD : va_D A (ws_PS_branches G a_t a_t_right a_t_joining a_t_units a_t_draft a_t_reader a_t_persons a_t_table a_t_table_place a_t_table_told a_t_table_before a_t_table_behind a_w a_w_board a_w_clock x_t_placeCount x_t_personCount x_t_unitCount x_t_persons x_t_table_count x_t_table_behind x_w_number x_w_present x_w_helpCount) := hD
  cases h
  exact q_iretW hx hb hr hlocks hP hD hS d_PS_branches_25


-- PlayStates.branches(I)I 
def ws_PS_branches_no (G : gG) (a_t a_t_right a_t_table a_t_joining a_t_units a_t_draft a_t_reader a_t_persons : Nat)  (x_t_placeCount : Int32) (x_t_personCount : Int32) (x_t_unitCount : Int32) (x_t_persons : Nat → Option Nat) : va_W := [(a_t, .inr (5, [.int x_t_placeCount, .ref a_t_right, .ref a_t_persons, .int x_t_personCount, .ref a_t_table, .ref a_t_joining, .ref a_t_units, .int x_t_unitCount, .ref a_t_draft, .ref a_t_reader])), (a_t_persons, .inl (G.2 3, 8, .inr (.inr (.inr (.inr x_t_persons)))))]
def f_PS_branches_no  (p0 : Int32) (x_t_placeCount : Int32) (x_t_personCount : Int32) (x_t_unitCount : Int32) (x_t_persons : Nat → Option Nat) : Option (Int32) :=
  some (-1 : Int32)
set_option maxHeartbeats 4000000 in
set_option maxRecDepth 100000 in
theorem c_PS_branches_no (l : Launch) (G : gG) (sz : Nat) (a_t a_t_right a_t_table a_t_joining a_t_units a_t_draft a_t_reader a_t_persons : Nat)  (p0 : Int32) (x_t_placeCount : Int32) (x_t_personCount : Int32) (x_t_unitCount : Int32) (x_t_persons : Nat → Option Nat) (r : Int32) (h : f_PS_branches_no p0 x_t_placeCount x_t_personCount x_t_unitCount x_t_persons = some r)  (hw : f_PS_find p0 x_t_placeCount x_t_personCount x_t_unitCount x_t_persons = some none) : cN l y_PS_branches w_PS_branches { frames := 1, cells := 0, slots := 0, locals := 21 } G sz [.ref a_t, .int p0] (ws_PS_branches_no G a_t a_t_right a_t_table a_t_joining a_t_units a_t_draft a_t_reader a_t_persons x_t_placeCount x_t_personCount x_t_unitCount x_t_persons) (some (.int r)) (wB G (ws_PS_branches_no G a_t a_t_right a_t_table a_t_joining a_t_units a_t_draft a_t_reader a_t_persons x_t_placeCount x_t_personCount x_t_unitCount x_t_persons)) 0 0 := by
  refine cN_ofW (cc := prog_1_method_7_code) (maxL := 3) (ret := (some .int)) (by decide) rfl (Nat.le_of_ble_eq_true rfl) ?_
  intro p e s m args below meth c A H locs ls hx hb hr hts hown hlocks hin hml hK hN hP hD hA hS hl
  replace hl : lv_has ls 3 [(0, .ref a_t), (1, .int p0)] := hl
  replace hown : s.vm.findClass "PlayStates" = some m.cls := hown
  unfold f_PS_branches_no at h
  refine lv_aload_n hx hb d_PS_branches_0 rfl (lv_at hl 0 rfl) ?_
  refine lv_iload_n hx hb d_PS_branches_1 rfl (lv_at hl 1 rfl) ?_
  have hPc := hP.sub (ws' := (ws_PS_find G a_t a_t_right a_t_table a_t_joining a_t_units a_t_draft a_t_reader a_t_persons x_t_placeCount x_t_personCount x_t_unitCount x_t_persons)) [0, 1] rfl
  have hDc := hD.sub (ws' := (ws_PS_find G a_t a_t_right a_t_table a_t_joining a_t_units a_t_draft a_t_reader a_t_persons x_t_placeCount x_t_personCount x_t_unitCount x_t_persons)) [0, 1] (by decide) rfl
  have hFc := va_free (wc := (ws_PS_find G a_t a_t_right a_t_table a_t_joining a_t_units a_t_draft a_t_reader a_t_persons x_t_placeCount x_t_personCount x_t_unitCount x_t_persons)) hD hS hA [0, 1] rfl
  refine q_call1 (va_runV (As := [.int p0]) (rest := []) ⟨hx, hb, hml, hown, hts⟩ (c_PS_find l G H.size a_t a_t_right a_t_table a_t_joining a_t_units a_t_draft a_t_reader a_t_persons p0 x_t_placeCount x_t_personCount x_t_unitCount x_t_persons _ hw) (cwV 1 hts (gV gw_163 gw_164 gw_2 gw_31 gw_165) rfl rfl rfl (by decide +kernel) ⟨Nat.le_of_ble_eq_true rfl, Nat.le_of_ble_eq_true rfl⟩) (pV hK hN hPc hDc (ci := 5) (q0 := 0) rfl rfl) rfl rfl hl.1 rfl (lv_room (Nat.le_of_ble_eq_true rfl)) d_PS_branches_2 ⟨Nat.le_of_ble_eq_true rfl, Nat.le_of_ble_eq_true rfl⟩) hS (fun q _ h => hFc q h) hFc (fun H1 locs hB hz hk hS => ?_)
  obtain ⟨hP, hD⟩ := q_joinA hFc hB.1 hB.2
  generalize H1 = H at hP hS ⊢
  replace hP : va_P G.1 vwCl (ws_PS_branches_no G a_t a_t_right a_t_table a_t_joining a_t_units a_t_draft a_t_reader a_t_persons x_t_placeCount x_t_personCount x_t_unitCount x_t_persons) H := hP
  replace hD : va_D A (ws_PS_branches_no G a_t a_t_right a_t_table a_t_joining a_t_units a_t_draft a_t_reader a_t_persons x_t_placeCount x_t_personCount x_t_unitCount x_t_persons) := hD
  refine lv_astore_nN (lv' := [(2, .null), (0, .ref a_t), (1, .int p0)]) hx hb d_PS_branches_5 rfl hl (by decide) rfl (fun ls hl => ?_)
  refine lv_aload_nN hx hb d_PS_branches_6 rfl (lv_at hl 0 rfl) ?_
  refine lv_ifnonnullN hx hb d_PS_branches_7 ?_
  refine lv_iconst (v := (-1 : Int32)) hx hb d_PS_branches_10 (by decide) ?_
  refine lv_goto (tgt := 25) hx hb d_PS_branches_11 (by decide) ?_
  cases h
  exact q_iretW hx hb hr hlocks hP hD hS d_PS_branches_25

theorem d_PS_truth_0 : decode prog_1_method_10_code 0 = .ok (.aload_n 0, 1) := by decide +kernel
theorem d_PS_truth_1 : decode prog_1_method_10_code 1 = .ok (.iload_n 1, 1) := by decide +kernel
theorem d_PS_truth_2 : decode prog_1_method_10_code 2 = .ok (.invokevirtual 79, 3) := by decide +kernel
theorem d_PS_truth_5 : decode prog_1_method_10_code 5 = .ok (.ifCond .eq 10, 3) := by decide +kernel
theorem d_PS_truth_8 : decode prog_1_method_10_code 8 = .ok (.iload_n 2, 1) := by decide +kernel
theorem d_PS_truth_9 : decode prog_1_method_10_code 9 = .ok (.invokestatic 83, 3) := by decide +kernel
theorem d_PS_truth_12 : decode prog_1_method_10_code 12 = .ok (.ifCond .ne 5, 3) := by decide +kernel
theorem d_PS_truth_15 : decode prog_1_method_10_code 15 = .ok (.iconst 0, 1) := by decide +kernel
theorem d_PS_truth_16 : decode prog_1_method_10_code 16 = .ok (.ireturn, 1) := by decide +kernel
theorem d_PS_truth_17 : decode prog_1_method_10_code 17 = .ok (.aload_n 0, 1) := by decide +kernel
theorem d_PS_truth_18 : decode prog_1_method_10_code 18 = .ok (.getfield 22, 3) := by decide +kernel
theorem d_PS_truth_21 : decode prog_1_method_10_code 21 = .ok (.iload_n 1, 1) := by decide +kernel
theorem d_PS_truth_22 : decode prog_1_method_10_code 22 = .ok (.iload_n 2, 1) := by decide +kernel
theorem d_PS_truth_23 : decode prog_1_method_10_code 23 = .ok (.iastore, 1) := by decide +kernel
theorem d_PS_truth_24 : decode prog_1_method_10_code 24 = .ok (.iconst 1, 1) := by decide +kernel
theorem d_PS_truth_25 : decode prog_1_method_10_code 25 = .ok (.ireturn, 1) := by decide +kernel
-- PlayStates.truth(II)Z 
def ws_PS_truth (G : gG) (a_t a_t_persons a_t_table a_t_joining a_t_units a_t_draft a_t_reader a_t_right : Nat) (n : Nat) (x_t_placeCount : Int32) (x_t_personCount : Int32) (x_t_unitCount : Int32) (x_t_right : Nat → Int32) : va_W := [(a_t, .inr (5, [.int x_t_placeCount, .ref a_t_right, .ref a_t_persons, .int x_t_personCount, .ref a_t_table, .ref a_t_joining, .ref a_t_units, .int x_t_unitCount, .ref a_t_draft, .ref a_t_reader])), (a_t_right, .inl (G.2 0, n, .inl x_t_right))]
def f_PS_truth (n : Nat) (p0 : Int32) (p1 : Int32) (x_t_placeCount : Int32) (x_t_personCount : Int32) (x_t_unitCount : Int32) (x_t_right : Nat → Int32) : Option (Int32 × (Nat → Int32)) :=
  ((f_PS_isPlace p0 x_t_placeCount x_t_personCount x_t_unitCount).bind fun y1 => (if y1 = 0 then some ((0 : Int32), x_t_right) else ((f_PS_isZeroToNine p1).bind fun y3 => (if y3 = 0 then some ((0 : Int32), x_t_right) else (if inB p0 n then some ((1 : Int32), (upd x_t_right p0.toNatClampNeg p1)) else none)))))
set_option maxHeartbeats 4000000 in
set_option maxRecDepth 100000 in
theorem c_PS_truth (l : Launch) (G : gG) (sz : Nat) (a_t a_t_persons a_t_table a_t_joining a_t_units a_t_draft a_t_reader a_t_right : Nat) (n : Nat) (p0 : Int32) (p1 : Int32) (x_t_placeCount : Int32) (x_t_personCount : Int32) (x_t_unitCount : Int32) (x_t_right : Nat → Int32) (r : Int32) (x_t_right' : Nat → Int32) (h : f_PS_truth n p0 p1 x_t_placeCount x_t_personCount x_t_unitCount x_t_right = some (r, x_t_right'))  : cN l y_PS_truth w_PS_truth { frames := 1, cells := 0, slots := 0, locals := 21 } G sz [.ref a_t, .int p0, .int p1] (ws_PS_truth G a_t a_t_persons a_t_table a_t_joining a_t_units a_t_draft a_t_reader a_t_right n x_t_placeCount x_t_personCount x_t_unitCount x_t_right) (some (.int r)) (wB G (ws_PS_truth G a_t a_t_persons a_t_table a_t_joining a_t_units a_t_draft a_t_reader a_t_right n x_t_placeCount x_t_personCount x_t_unitCount x_t_right')) 0 0 := by
  refine cN_ofW (cc := prog_1_method_10_code) (maxL := 3) (ret := (some .boolean)) (by decide) rfl (Nat.le_of_ble_eq_true rfl) ?_
  intro p e s m args below meth c A H locs ls hx hb hr hts hown hlocks hin hml hK hN hP hD hA hS hl
  replace hl : lv_has ls 3 [(0, .ref a_t), (1, .int p0), (2, .int p1)] := hl
  replace hown : s.vm.findClass "PlayStates" = some m.cls := hown
  unfold f_PS_truth at h
  refine lv_aload_n hx hb d_PS_truth_0 rfl (lv_at hl 0 rfl) ?_
  refine lv_iload_n hx hb d_PS_truth_1 rfl (lv_at hl 1 rfl) ?_
  obtain ⟨y1, hy1, h⟩ := o_bind h
  have hPc := hP.sub (ws' := (ws_PS_isPlace G a_t a_t_right a_t_persons a_t_table a_t_joining a_t_units a_t_draft a_t_reader x_t_placeCount x_t_personCount x_t_unitCount)) [0] rfl
  have hDc := hD.sub (ws' := (ws_PS_isPlace G a_t a_t_right a_t_persons a_t_table a_t_joining a_t_units a_t_draft a_t_reader x_t_placeCount x_t_personCount x_t_unitCount)) [0] (by decide) rfl
  have hFc := va_free (wc := (ws_PS_isPlace G a_t a_t_right a_t_persons a_t_table a_t_joining a_t_units a_t_draft a_t_reader x_t_placeCount x_t_personCount x_t_unitCount)) hD hS hA [0] rfl
  refine q_call1 (va_runV (As := [.int p0]) (rest := []) ⟨hx, hb, hml, hown, hts⟩ (c_PS_isPlace l G H.size a_t a_t_right a_t_persons a_t_table a_t_joining a_t_units a_t_draft a_t_reader p0 x_t_placeCount x_t_personCount x_t_unitCount _ hy1) (cwV 1 hts (gV gw_166 gw_167 gw_3 gw_31 gw_168) rfl rfl rfl (by decide +kernel) ⟨Nat.le_of_ble_eq_true rfl, Nat.le_of_ble_eq_true rfl⟩) (pV hK hN hPc hDc (ci := 5) (q0 := 0) rfl rfl) rfl rfl hl.1 rfl (lv_room (Nat.le_of_ble_eq_true rfl)) d_PS_truth_2 ⟨Nat.le_of_ble_eq_true rfl, Nat.le_of_ble_eq_true rfl⟩) hS (fun q _ h => hFc q h) hFc (fun H1 locs hB hz hk hS => ?_)
  obtain ⟨hP, hD⟩ := q_join (wr := [(a_t_right, .inl (G.2 0, n, .inl x_t_right))]) (wn := (ws_PS_truth G a_t a_t_persons a_t_table a_t_joining a_t_units a_t_draft a_t_reader a_t_right n x_t_placeCount x_t_personCount x_t_unitCount x_t_right)) hP hD [0] [1] [1, 0] rfl rfl (by decide) (by decide) rfl (by decide) hk hFc hB.1 hB.2
  generalize H1 = H at hP hS ⊢
  replace hP : va_P G.1 vwCl (ws_PS_truth G a_t a_t_persons a_t_table a_t_joining a_t_units a_t_draft a_t_reader a_t_right n x_t_placeCount x_t_personCount x_t_unitCount x_t_right) H := hP
  replace hD : va_D A (ws_PS_truth G a_t a_t_persons a_t_table a_t_joining a_t_units a_t_draft a_t_reader a_t_right n x_t_placeCount x_t_personCount x_t_unitCount x_t_right) := hD
  refine lv_if_eq (tgt := 15) hx hb d_PS_truth_5 (by decide) (fun c2 => ?_) (fun c2 => ?_)
  · replace h := (if_pos c2).symm.trans h
    refine lv_iconst (v := (0 : Int32)) hx hb d_PS_truth_15 (by decide) ?_
    cases h
    exact q_zretW hx hb hr hlocks (by decide) hP hD hS d_PS_truth_16
  · replace h := (if_neg c2).symm.trans h
    refine lv_iload_n hx hb d_PS_truth_8 rfl (lv_at hl 2 rfl) ?_
    obtain ⟨y3, hy3, h⟩ := o_bind h
    have hPc := hP.sub (ws' := (ws_PS_isZeroToNine G)) [] rfl
    have hDc := hD.sub (ws' := (ws_PS_isZeroToNine G)) [] (by decide) rfl
    have hFc := va_free (wc := (ws_PS_isZeroToNine G)) hD hS hA [] rfl
    refine q_call1 (va_runS (As := [.int p1]) (rest := []) ⟨hx, hb, hml, hown, hts⟩ (c_PS_isZeroToNine l G H.size p1 _ hy3) ⟨callB_of 1 hts (gC gw_171) rfl rfl rfl (hts _ gw_31) (hts _ gw_169) (by decide +kernel) ⟨Nat.le_of_ble_eq_true rfl, Nat.le_of_ble_eq_true rfl⟩, hts _ gw_170⟩ (pS hK hN hPc hDc) rfl rfl hl.1 rfl (lv_room (Nat.le_of_ble_eq_true rfl)) d_PS_truth_9 ⟨Nat.le_of_ble_eq_true rfl, Nat.le_of_ble_eq_true rfl⟩) hS (fun q _ h => hFc q h) hFc (fun H1 locs hB hz hk hS => ?_)
    obtain ⟨hP, hD⟩ := q_join (wr := [(a_t, .inr (5, [.int x_t_placeCount, .ref a_t_right, .ref a_t_persons, .int x_t_personCount, .ref a_t_table, .ref a_t_joining, .ref a_t_units, .int x_t_unitCount, .ref a_t_draft, .ref a_t_reader])), (a_t_right, .inl (G.2 0, n, .inl x_t_right))]) (wn := (ws_PS_truth G a_t a_t_persons a_t_table a_t_joining a_t_units a_t_draft a_t_reader a_t_right n x_t_placeCount x_t_personCount x_t_unitCount x_t_right)) hP hD [] [0, 1] [0, 1] rfl rfl (by decide) (by decide) rfl (by decide) hk hFc hB.1 hB.2
    generalize H1 = H at hP hS ⊢
    replace hP : va_P G.1 vwCl (ws_PS_truth G a_t a_t_persons a_t_table a_t_joining a_t_units a_t_draft a_t_reader a_t_right n x_t_placeCount x_t_personCount x_t_unitCount x_t_right) H := hP
    replace hD : va_D A (ws_PS_truth G a_t a_t_persons a_t_table a_t_joining a_t_units a_t_draft a_t_reader a_t_right n x_t_placeCount x_t_personCount x_t_unitCount x_t_right) := hD
    refine lv_if_ne (tgt := 17) hx hb d_PS_truth_12 (by decide) (fun c4 => ?_) (fun c4 => ?_)
    · replace h := (if_neg c4).symm.trans h
      refine lv_aload_n hx hb d_PS_truth_17 rfl (lv_at hl 0 rfl) ?_
      refine va_get (D := G.1) (ci := 5) (v := .ref a_t_right) (C := "PlayStates") (T := TPS) (N := 10) hx hb hts iw_5 hown hK hP 0 rfl rfl 1 (by decide) (hts _ gw_103) (fun _ h9 => h9) rfl d_PS_truth_18 ?_
      refine lv_iload_n hx hb d_PS_truth_21 rfl (lv_at hl 1 rfl) ?_
      refine lv_iload_n hx hb d_PS_truth_22 rfl (lv_at hl 2 rfl) ?_
      obtain ⟨i5, h⟩ := o_if h
      refine va_iast (n := n) (f := x_t_right) hx hb hK hP hD hS 1 0 rfl rfl i5 d_PS_truth_23 (fun H locs hP hD hS => ?_)
      replace hP : va_P G.1 vwCl (ws_PS_truth G a_t a_t_persons a_t_table a_t_joining a_t_units a_t_draft a_t_reader a_t_right n x_t_placeCount x_t_personCount x_t_unitCount (upd x_t_right p0.toNatClampNeg p1)) H := hP
      replace hD : va_D A (ws_PS_truth G a_t a_t_persons a_t_table a_t_joining a_t_units a_t_draft a_t_reader a_t_right n x_t_placeCount x_t_personCount x_t_unitCount (upd x_t_right p0.toNatClampNeg p1)) := hD
      refine lv_iconst (v := (1 : Int32)) hx hb d_PS_truth_24 (by decide) ?_
      cases h
      exact q_zretW hx hb hr hlocks (by decide) hP hD hS d_PS_truth_25
    · replace h := (if_pos c4).symm.trans h
      refine lv_iconst (v := (0 : Int32)) hx hb d_PS_truth_15 (by decide) ?_
      cases h
      exact q_zretW hx hb hr hlocks (by decide) hP hD hS d_PS_truth_16

theorem gw_109 : (.fieldLink "PlayStates" 182 "PlayStates" "unitCount" "I" : Cond) ∈ GW := gT 103 (by decide +kernel) (by decide +kernel)
theorem gw_108 : (.fieldLink "PlayStates" 43 "PlayStates" "units" "[I" : Cond) ∈ GW := gT 102 (by decide +kernel) (by decide +kernel)
theorem d_PS_unit_0 : decode prog_1_method_18_code 0 = .ok (.iload_n 1, 1) := by decide +kernel
theorem d_PS_unit_1 : decode prog_1_method_18_code 1 = .ok (.ifCond .lt 20, 3) := by decide +kernel
theorem d_PS_unit_4 : decode prog_1_method_18_code 4 = .ok (.iload_n 1, 1) := by decide +kernel
theorem d_PS_unit_5 : decode prog_1_method_18_code 5 = .ok (.sipush 255, 3) := by decide +kernel
theorem d_PS_unit_8 : decode prog_1_method_18_code 8 = .ok (.if_icmp .gt 13, 3) := by decide +kernel
theorem d_PS_unit_11 : decode prog_1_method_18_code 11 = .ok (.aload_n 0, 1) := by decide +kernel
theorem d_PS_unit_12 : decode prog_1_method_18_code 12 = .ok (.getfield 182, 3) := by decide +kernel
theorem d_PS_unit_15 : decode prog_1_method_18_code 15 = .ok (.sipush 1000, 3) := by decide +kernel
theorem d_PS_unit_18 : decode prog_1_method_18_code 18 = .ok (.if_icmp .lt 5, 3) := by decide +kernel
theorem d_PS_unit_21 : decode prog_1_method_18_code 21 = .ok (.iconst 0, 1) := by decide +kernel
theorem d_PS_unit_22 : decode prog_1_method_18_code 22 = .ok (.ireturn, 1) := by decide +kernel
theorem d_PS_unit_23 : decode prog_1_method_18_code 23 = .ok (.aload_n 0, 1) := by decide +kernel
theorem d_PS_unit_24 : decode prog_1_method_18_code 24 = .ok (.getfield 43, 3) := by decide +kernel
theorem d_PS_unit_27 : decode prog_1_method_18_code 27 = .ok (.aload_n 0, 1) := by decide +kernel
theorem d_PS_unit_28 : decode prog_1_method_18_code 28 = .ok (.getfield 182, 3) := by decide +kernel
theorem d_PS_unit_31 : decode prog_1_method_18_code 31 = .ok (.iload_n 1, 1) := by decide +kernel
theorem d_PS_unit_32 : decode prog_1_method_18_code 32 = .ok (.iastore, 1) := by decide +kernel
theorem d_PS_unit_33 : decode prog_1_method_18_code 33 = .ok (.aload_n 0, 1) := by decide +kernel
theorem d_PS_unit_34 : decode prog_1_method_18_code 34 = .ok (.dup, 1) := by decide +kernel
theorem d_PS_unit_35 : decode prog_1_method_18_code 35 = .ok (.getfield 182, 3) := by decide +kernel
theorem d_PS_unit_38 : decode prog_1_method_18_code 38 = .ok (.iconst 1, 1) := by decide +kernel
theorem d_PS_unit_39 : decode prog_1_method_18_code 39 = .ok (.iadd, 1) := by decide +kernel
theorem d_PS_unit_40 : decode prog_1_method_18_code 40 = .ok (.putfield 182, 3) := by decide +kernel
theorem d_PS_unit_43 : decode prog_1_method_18_code 43 = .ok (.iconst 1, 1) := by decide +kernel
theorem d_PS_unit_44 : decode prog_1_method_18_code 44 = .ok (.ireturn, 1) := by decide +kernel
-- PlayStates.unit(I)Z 
def ws_PS_unit (G : gG) (a_t a_t_right a_t_persons a_t_table a_t_joining a_t_draft a_t_reader a_t_units : Nat)  (x_t_placeCount : Int32) (x_t_personCount : Int32) (x_t_unitCount : Int32) (x_t_units : Nat → Int32) : va_W := [(a_t, .inr (5, [.int x_t_placeCount, .ref a_t_right, .ref a_t_persons, .int x_t_personCount, .ref a_t_table, .ref a_t_joining, .ref a_t_units, .int x_t_unitCount, .ref a_t_draft, .ref a_t_reader])), (a_t_units, .inl (G.2 0, 1000, .inl x_t_units))]
def f_PS_unit  (p0 : Int32) (x_t_placeCount : Int32) (x_t_personCount : Int32) (x_t_unitCount : Int32) (x_t_units : Nat → Int32) : Option (Int32 × Int32 × (Nat → Int32)) :=
  (if p0 < 0 then some ((0 : Int32), x_t_unitCount, x_t_units) else (if (255 : Int32) < p0 then some ((0 : Int32), x_t_unitCount, x_t_units) else (if x_t_unitCount < (1000 : Int32) then (if inB x_t_unitCount 1000 then some ((1 : Int32), (x_t_unitCount + (1 : Int32)), (upd x_t_units x_t_unitCount.toNatClampNeg p0)) else none) else some ((0 : Int32), x_t_unitCount, x_t_units))))
set_option maxHeartbeats 4000000 in
set_option maxRecDepth 100000 in
theorem c_PS_unit (l : Launch) (G : gG) (sz : Nat) (a_t a_t_right a_t_persons a_t_table a_t_joining a_t_draft a_t_reader a_t_units : Nat)  (p0 : Int32) (x_t_placeCount : Int32) (x_t_personCount : Int32) (x_t_unitCount : Int32) (x_t_units : Nat → Int32) (r : Int32) (x_t_unitCount' : Int32) (x_t_units' : Nat → Int32) (h : f_PS_unit p0 x_t_placeCount x_t_personCount x_t_unitCount x_t_units = some (r, x_t_unitCount', x_t_units'))  : cN l y_PS_unit w_PS_unit { frames := 0, cells := 0, slots := 0, locals := 0 } G sz [.ref a_t, .int p0] (ws_PS_unit G a_t a_t_right a_t_persons a_t_table a_t_joining a_t_draft a_t_reader a_t_units x_t_placeCount x_t_personCount x_t_unitCount x_t_units) (some (.int r)) (wB G (ws_PS_unit G a_t a_t_right a_t_persons a_t_table a_t_joining a_t_draft a_t_reader a_t_units x_t_placeCount x_t_personCount x_t_unitCount' x_t_units')) 0 0 := by
  refine cN_ofW (cc := prog_1_method_18_code) (maxL := 2) (ret := (some .boolean)) (by decide) rfl (Nat.le_of_ble_eq_true rfl) ?_
  intro p e s m args below meth c A H locs ls hx hb hr hts hown hlocks hin hml hK hN hP hD hA hS hl
  replace hl : lv_has ls 2 [(0, .ref a_t), (1, .int p0)] := hl
  replace hown : s.vm.findClass "PlayStates" = some m.cls := hown
  unfold f_PS_unit at h
  refine lv_iload_n hx hb d_PS_unit_0 rfl (lv_at hl 1 rfl) ?_
  refine lv_if_lt (tgt := 21) hx hb d_PS_unit_1 (by decide) (fun c1 => ?_) (fun c1 => ?_)
  · replace h := (if_pos c1).symm.trans h
    refine lv_iconst (v := (0 : Int32)) hx hb d_PS_unit_21 (by decide) ?_
    cases h
    exact q_zretW hx hb hr hlocks (by decide) hP hD hS d_PS_unit_22
  · replace h := (if_neg c1).symm.trans h
    refine lv_iload_n hx hb d_PS_unit_4 rfl (lv_at hl 1 rfl) ?_
    refine lv_sipush (v := (255 : Int32)) hx hb d_PS_unit_5 (by decide) ?_
    refine lv_icmp_gt (tgt := 21) hx hb d_PS_unit_8 (by decide) (fun c2 => ?_) (fun c2 => ?_)
    · replace h := (if_pos c2).symm.trans h
      refine lv_iconst (v := (0 : Int32)) hx hb d_PS_unit_21 (by decide) ?_
      cases h
      exact q_zretW hx hb hr hlocks (by decide) hP hD hS d_PS_unit_22
    · replace h := (if_neg c2).symm.trans h
      refine lv_aload_n hx hb d_PS_unit_11 rfl (lv_at hl 0 rfl) ?_
      refine va_get (D := G.1) (ci := 5) (v := .int x_t_unitCount) (C := "PlayStates") (T := TPS) (N := 10) hx hb hts iw_5 hown hK hP 0 rfl rfl 7 (by decide) (hts _ gw_109) (fun _ h9 => h9) rfl d_PS_unit_12 ?_
      refine lv_sipush (v := (1000 : Int32)) hx hb d_PS_unit_15 (by decide) ?_
      refine lv_icmp_lt (tgt := 23) hx hb d_PS_unit_18 (by decide) (fun c3 => ?_) (fun c3 => ?_)
      · replace h := (if_pos c3).symm.trans h
        refine lv_aload_n hx hb d_PS_unit_23 rfl (lv_at hl 0 rfl) ?_
        refine va_get (D := G.1) (ci := 5) (v := .ref a_t_units) (C := "PlayStates") (T := TPS) (N := 10) hx hb hts iw_5 hown hK hP 0 rfl rfl 6 (by decide) (hts _ gw_108) (fun _ h9 => h9) rfl d_PS_unit_24 ?_
        refine lv_aload_n hx hb d_PS_unit_27 rfl (lv_at hl 0 rfl) ?_
        refine va_get (D := G.1) (ci := 5) (v := .int x_t_unitCount) (C := "PlayStates") (T := TPS) (N := 10) hx hb hts iw_5 hown hK hP 0 rfl rfl 7 (by decide) (hts _ gw_109) (fun _ h9 => h9) rfl d_PS_unit_28 ?_
        refine lv_iload_n hx hb d_PS_unit_31 rfl (lv_at hl 1 rfl) ?_
        obtain ⟨i4, h⟩ := o_if h
        refine va_iast (n := 1000) (f := x_t_units) hx hb hK hP hD hS 1 0 rfl rfl i4 d_PS_unit_32 (fun H locs hP hD hS => ?_)
        replace hP : va_P G.1 vwCl (ws_PS_unit G a_t a_t_right a_t_persons a_t_table a_t_joining a_t_draft a_t_reader a_t_units x_t_placeCount x_t_personCount x_t_unitCount (upd x_t_units x_t_unitCount.toNatClampNeg p0)) H := hP
        replace hD : va_D A (ws_PS_unit G a_t a_t_right a_t_persons a_t_table a_t_joining a_t_draft a_t_reader a_t_units x_t_placeCount x_t_personCount x_t_unitCount (upd x_t_units x_t_unitCount.toNatClampNeg p0)) := hD
        refine lv_aload_n hx hb d_PS_unit_33 rfl (lv_at hl 0 rfl) ?_
        refine lv_dup hx hb d_PS_unit_34 rfl ?_
        refine va_get (D := G.1) (ci := 5) (v := .int x_t_unitCount) (C := "PlayStates") (T := TPS) (N := 10) hx hb hts iw_5 hown hK hP 0 rfl rfl 7 (by decide) (hts _ gw_109) (fun _ h9 => h9) rfl d_PS_unit_35 ?_
        refine lv_iconst (v := (1 : Int32)) hx hb d_PS_unit_38 (by decide) ?_
        refine lv_iadd hx hb d_PS_unit_39 ?_
        refine va_put (D := G.1) (ci := 5) (v := .int (x_t_unitCount + (1 : Int32))) (ty := .int) (C := "PlayStates") (T := TPS) (N := 10) hx hb hts iw_5 tyPS tyPS_ok nmPS hown hK hP hD hS 0 rfl rfl 7 (by decide) (hts _ gw_109) (fun _ h9 => h9) rfl (by decide +kernel) (by rfl) (by rfl) (Nat.le_of_ble_eq_true rfl) d_PS_unit_40 (fun H locs hP hD hS => ?_)
        replace hP : va_P G.1 vwCl (ws_PS_unit G a_t a_t_right a_t_persons a_t_table a_t_joining a_t_draft a_t_reader a_t_units x_t_placeCount x_t_personCount (x_t_unitCount + (1 : Int32)) (upd x_t_units x_t_unitCount.toNatClampNeg p0)) H := hP
        replace hD : va_D A (ws_PS_unit G a_t a_t_right a_t_persons a_t_table a_t_joining a_t_draft a_t_reader a_t_units x_t_placeCount x_t_personCount (x_t_unitCount + (1 : Int32)) (upd x_t_units x_t_unitCount.toNatClampNeg p0)) := hD
        refine lv_iconst (v := (1 : Int32)) hx hb d_PS_unit_43 (by decide) ?_
        cases h
        exact q_zretW hx hb hr hlocks (by decide) hP hD hS d_PS_unit_44
      · replace h := (if_neg c3).symm.trans h
        refine lv_iconst (v := (0 : Int32)) hx hb d_PS_unit_21 (by decide) ?_
        cases h
        exact q_zretW hx hb hr hlocks (by decide) hP hD hS d_PS_unit_22

theorem d_PS_rows_0 : decode prog_1_method_20_code 0 = .ok (.aload_n 0, 1) := by decide +kernel
theorem d_PS_rows_1 : decode prog_1_method_20_code 1 = .ok (.getfield 35, 3) := by decide +kernel
theorem d_PS_rows_4 : decode prog_1_method_20_code 4 = .ok (.getfield 197, 3) := by decide +kernel
theorem d_PS_rows_7 : decode prog_1_method_20_code 7 = .ok (.ireturn, 1) := by decide +kernel
-- PlayStates.rows()I 
def ws_PS_rows (G : gG) (a_t a_t_right a_t_persons a_t_joining a_t_units a_t_draft a_t_reader a_t_table a_t_table_place a_t_table_told a_t_table_before a_t_table_behind : Nat)  (x_t_placeCount : Int32) (x_t_personCount : Int32) (x_t_unitCount : Int32) (x_t_table_count : Int32) : va_W := [(a_t, .inr (5, [.int x_t_placeCount, .ref a_t_right, .ref a_t_persons, .int x_t_personCount, .ref a_t_table, .ref a_t_joining, .ref a_t_units, .int x_t_unitCount, .ref a_t_draft, .ref a_t_reader])), (a_t_table, .inr (3, [.ref a_t_table_place, .ref a_t_table_told, .ref a_t_table_before, .ref a_t_table_behind, .int x_t_table_count]))]
def f_PS_rows   (x_t_placeCount : Int32) (x_t_personCount : Int32) (x_t_unitCount : Int32) (x_t_table_count : Int32) : Option (Int32) :=
  some x_t_table_count
set_option maxHeartbeats 4000000 in
set_option maxRecDepth 100000 in
theorem c_PS_rows (l : Launch) (G : gG) (sz : Nat) (a_t a_t_right a_t_persons a_t_joining a_t_units a_t_draft a_t_reader a_t_table a_t_table_place a_t_table_told a_t_table_before a_t_table_behind : Nat)   (x_t_placeCount : Int32) (x_t_personCount : Int32) (x_t_unitCount : Int32) (x_t_table_count : Int32) (r : Int32) (h : f_PS_rows x_t_placeCount x_t_personCount x_t_unitCount x_t_table_count = some r)  : cN l y_PS_rows w_PS_rows { frames := 0, cells := 0, slots := 0, locals := 0 } G sz [.ref a_t] (ws_PS_rows G a_t a_t_right a_t_persons a_t_joining a_t_units a_t_draft a_t_reader a_t_table a_t_table_place a_t_table_told a_t_table_before a_t_table_behind x_t_placeCount x_t_personCount x_t_unitCount x_t_table_count) (some (.int r)) (wB G (ws_PS_rows G a_t a_t_right a_t_persons a_t_joining a_t_units a_t_draft a_t_reader a_t_table a_t_table_place a_t_table_told a_t_table_before a_t_table_behind x_t_placeCount x_t_personCount x_t_unitCount x_t_table_count)) 0 0 := by
  refine cN_ofW (cc := prog_1_method_20_code) (maxL := 1) (ret := (some .int)) (by decide) rfl (Nat.le_of_ble_eq_true rfl) ?_
  intro p e s m args below meth c A H locs ls hx hb hr hts hown hlocks hin hml hK hN hP hD hA hS hl
  replace hl : lv_has ls 1 [(0, .ref a_t)] := hl
  replace hown : s.vm.findClass "PlayStates" = some m.cls := hown
  unfold f_PS_rows at h
  refine lv_aload_n hx hb d_PS_rows_0 rfl (lv_at hl 0 rfl) ?_
  refine va_get (D := G.1) (ci := 5) (v := .ref a_t_table) (C := "PlayStates") (T := TPS) (N := 10) hx hb hts iw_5 hown hK hP 0 rfl rfl 4 (by decide) (hts _ gw_106) (fun _ h9 => h9) rfl d_PS_rows_1 ?_
  refine va_getN (D := G.1) (ci := 3) (v := .int x_t_table_count) (C := "PlayStates$RowTable") (T := TRt) (N := 5) hx hb hts iw_3 hown hK hP 1 rfl rfl 4 (by decide) (va_Nw.use rfl (hN.1 ("PlayStates", 197, "PlayStates$RowTable", "count", "I", "PlayStates") (by decide +kernel))) (fun _ h9 => h9) rfl d_PS_rows_4 ?_
  cases h
  exact q_iretW hx hb hr hlocks hP hD hS d_PS_rows_7
end
section
theorem gw_209 : (.code ⟨"PlayStates$RowTable", "holds", "(I)Z"⟩ prog_5_method_2_code 2 (some .boolean) : Cond) ∈ GW := gT 235 (by decide +kernel) (by decide +kernel)
theorem gw_206 : (.methodLink "PlayStates" 96 ⟨"PlayStates$RowTable", "holds", "(I)Z"⟩ : Cond) ∈ GW := gT 232 (by decide +kernel) (by decide +kernel)
theorem gw_207 : (.instanceMethod ⟨"PlayStates$RowTable", "holds", "(I)Z"⟩ : Cond) ∈ GW := gT 233 (by decide +kernel) (by decide +kernel)
theorem gw_208 : (.selects "PlayStates$RowTable" ⟨"PlayStates$RowTable", "holds", "(I)Z"⟩ ⟨"PlayStates$RowTable", "holds", "(I)Z"⟩ : Cond) ∈ GW := gT 234 (by decide +kernel) (by decide +kernel)
theorem d_PS_undo_0 : decode prog_1_method_5_code 0 = .ok (.aload_n 0, 1) := by decide +kernel
theorem d_PS_undo_1 : decode prog_1_method_5_code 1 = .ok (.iload_n 1, 1) := by decide +kernel
theorem d_PS_undo_2 : decode prog_1_method_5_code 2 = .ok (.invokevirtual 75, 3) := by decide +kernel
theorem d_PS_undo_5 : decode prog_1_method_5_code 5 = .ok (.astore_n 2, 1) := by decide +kernel
theorem d_PS_undo_6 : decode prog_1_method_5_code 6 = .ok (.aload_n 2, 1) := by decide +kernel
theorem d_PS_undo_7 : decode prog_1_method_5_code 7 = .ok (.ifnull 17, 3) := by decide +kernel
theorem d_PS_undo_10 : decode prog_1_method_5_code 10 = .ok (.aload_n 0, 1) := by decide +kernel
theorem d_PS_undo_11 : decode prog_1_method_5_code 11 = .ok (.getfield 35, 3) := by decide +kernel
theorem d_PS_undo_14 : decode prog_1_method_5_code 14 = .ok (.aload_n 2, 1) := by decide +kernel
theorem d_PS_undo_15 : decode prog_1_method_5_code 15 = .ok (.getfield 93, 3) := by decide +kernel
theorem d_PS_undo_18 : decode prog_1_method_5_code 18 = .ok (.invokevirtual 96, 3) := by decide +kernel
theorem d_PS_undo_21 : decode prog_1_method_5_code 21 = .ok (.ifCond .ne 5, 3) := by decide +kernel
theorem d_PS_undo_24 : decode prog_1_method_5_code 24 = .ok (.iconst (-1), 1) := by decide +kernel
theorem d_PS_undo_25 : decode prog_1_method_5_code 25 = .ok (.ireturn, 1) := by decide +kernel
theorem d_PS_undo_26 : decode prog_1_method_5_code 26 = .ok (.aload_n 2, 1) := by decide +kernel
theorem d_PS_undo_27 : decode prog_1_method_5_code 27 = .ok (.getfield 93, 3) := by decide +kernel
theorem d_PS_undo_30 : decode prog_1_method_5_code 30 = .ok (.istore_n 3, 1) := by decide +kernel
theorem d_PS_undo_31 : decode prog_1_method_5_code 31 = .ok (.aload_n 2, 1) := by decide +kernel
theorem d_PS_undo_32 : decode prog_1_method_5_code 32 = .ok (.getfield 99, 3) := by decide +kernel
theorem d_PS_undo_35 : decode prog_1_method_5_code 35 = .ok (.aload_n 0, 1) := by decide +kernel
theorem d_PS_undo_36 : decode prog_1_method_5_code 36 = .ok (.getfield 35, 3) := by decide +kernel
theorem d_PS_undo_39 : decode prog_1_method_5_code 39 = .ok (.getfield 102, 3) := by decide +kernel
theorem d_PS_undo_42 : decode prog_1_method_5_code 42 = .ok (.iload_n 3, 1) := by decide +kernel
theorem d_PS_undo_43 : decode prog_1_method_5_code 43 = .ok (.iaload, 1) := by decide +kernel
theorem d_PS_undo_44 : decode prog_1_method_5_code 44 = .ok (.aload_n 0, 1) := by decide +kernel
theorem d_PS_undo_45 : decode prog_1_method_5_code 45 = .ok (.getfield 35, 3) := by decide +kernel
theorem d_PS_undo_48 : decode prog_1_method_5_code 48 = .ok (.getfield 105, 3) := by decide +kernel
theorem d_PS_undo_51 : decode prog_1_method_5_code 51 = .ok (.iload_n 3, 1) := by decide +kernel
theorem d_PS_undo_52 : decode prog_1_method_5_code 52 = .ok (.iaload, 1) := by decide +kernel
theorem d_PS_undo_53 : decode prog_1_method_5_code 53 = .ok (.invokevirtual 108, 3) := by decide +kernel
theorem d_PS_undo_56 : decode prog_1_method_5_code 56 = .ok (.aload_n 2, 1) := by decide +kernel
theorem d_PS_undo_57 : decode prog_1_method_5_code 57 = .ok (.aload_n 0, 1) := by decide +kernel
theorem d_PS_undo_58 : decode prog_1_method_5_code 58 = .ok (.getfield 35, 3) := by decide +kernel
theorem d_PS_undo_61 : decode prog_1_method_5_code 61 = .ok (.getfield 112, 3) := by decide +kernel
theorem d_PS_undo_64 : decode prog_1_method_5_code 64 = .ok (.iload_n 3, 1) := by decide +kernel
theorem d_PS_undo_65 : decode prog_1_method_5_code 65 = .ok (.iaload, 1) := by decide +kernel
theorem d_PS_undo_66 : decode prog_1_method_5_code 66 = .ok (.putfield 93, 3) := by decide +kernel
theorem d_PS_undo_69 : decode prog_1_method_5_code 69 = .ok (.iload_n 3, 1) := by decide +kernel
theorem d_PS_undo_70 : decode prog_1_method_5_code 70 = .ok (.ireturn, 1) := by decide +kernel
-- PlayStates.undo(I)I 
def ws_PS_undo (G : gG) (a_t a_t_right a_t_joining a_t_units a_t_draft a_t_reader a_t_persons a_t_table a_t_table_told a_t_table_place a_t_table_before a_t_table_behind a_w a_w_clock a_w_board a_w_board_entries a_w_board_markBits : Nat) (n : Nat) (x_t_placeCount : Int32) (x_t_personCount : Int32) (x_t_unitCount : Int32) (x_t_persons : Nat → Option Nat) (x_t_table_count : Int32) (x_t_table_place : Nat → Int32) (x_t_table_before : Nat → Int32) (x_t_table_behind : Nat → Int32) (x_w_number : Int32) (x_w_present : Int32) (x_w_helpCount : Int32) (x_w_board_entries : Nat → Int32) (x_w_board_markBits : Nat → Int32) : va_W := [(a_t, .inr (5, [.int x_t_placeCount, .ref a_t_right, .ref a_t_persons, .int x_t_personCount, .ref a_t_table, .ref a_t_joining, .ref a_t_units, .int x_t_unitCount, .ref a_t_draft, .ref a_t_reader])), (a_t_persons, .inl (G.2 3, 8, .inr (.inr (.inr (.inr x_t_persons))))), (a_t_table, .inr (3, [.ref a_t_table_place, .ref a_t_table_told, .ref a_t_table_before, .ref a_t_table_behind, .int x_t_table_count])), (a_t_table_place, .inl (G.2 0, 600, .inl x_t_table_place)), (a_t_table_before, .inl (G.2 0, 600, .inl x_t_table_before)), (a_t_table_behind, .inl (G.2 0, 600, .inl x_t_table_behind)), (a_w, .inr (2, [.int x_w_number, .ref a_w_board, .ref a_w_clock, .int x_w_present, .int x_w_helpCount])), (a_w_board, .inr (0, [.ref a_w_board_entries, .ref a_w_board_markBits])), (a_w_board_entries, .inl (G.2 0, n, .inl x_w_board_entries)), (a_w_board_markBits, .inl (G.2 0, n, .inl x_w_board_markBits))]
def f_PS_undo (n : Nat) (p0 : Int32) (x_t_placeCount : Int32) (x_t_personCount : Int32) (x_t_unitCount : Int32) (x_t_persons : Nat → Option Nat) (x_t_table_count : Int32) (x_t_table_place : Nat → Int32) (x_t_table_before : Nat → Int32) (x_t_table_behind : Nat → Int32) (x_w_number : Int32) (x_w_present : Int32) (x_w_helpCount : Int32) (x_w_board_entries : Nat → Int32) (x_w_board_markBits : Nat → Int32) : Option (Int32 × Int32 × (Nat → Int32) × (Nat → Int32)) :=
  ((f_Rt_holds x_w_present x_t_table_count).bind fun y1 => (if y1 = 0 then some ((-1 : Int32), x_w_present, x_w_board_entries, x_w_board_markBits) else (if inB x_w_present 600 then (if inB x_w_present 600 then ((f_Bd_put n (x_t_table_place x_w_present.toNatClampNeg) (x_t_table_before x_w_present.toNatClampNeg) x_w_board_entries x_w_board_markBits).bind fun y5 => (if inB x_w_present 600 then some (x_w_present, (x_t_table_behind x_w_present.toNatClampNeg), y5.1, y5.2) else none)) else none) else none)))
set_option maxHeartbeats 4000000 in
set_option maxRecDepth 100000 in
theorem c_PS_undo (l : Launch) (G : gG) (sz : Nat) (a_t a_t_right a_t_joining a_t_units a_t_draft a_t_reader a_t_persons a_t_table a_t_table_told a_t_table_place a_t_table_before a_t_table_behind a_w a_w_clock a_w_board a_w_board_entries a_w_board_markBits : Nat) (n : Nat) (p0 : Int32) (x_t_placeCount : Int32) (x_t_personCount : Int32) (x_t_unitCount : Int32) (x_t_persons : Nat → Option Nat) (x_t_table_count : Int32) (x_t_table_place : Nat → Int32) (x_t_table_before : Nat → Int32) (x_t_table_behind : Nat → Int32) (x_w_number : Int32) (x_w_present : Int32) (x_w_helpCount : Int32) (x_w_board_entries : Nat → Int32) (x_w_board_markBits : Nat → Int32) (r : Int32) (x_w_present' : Int32) (x_w_board_entries' : Nat → Int32) (x_w_board_markBits' : Nat → Int32) (h : f_PS_undo n p0 x_t_placeCount x_t_personCount x_t_unitCount x_t_persons x_t_table_count x_t_table_place x_t_table_before x_t_table_behind x_w_number x_w_present x_w_helpCount x_w_board_entries x_w_board_markBits = some (r, x_w_present', x_w_board_entries', x_w_board_markBits'))  (hw : f_PS_find p0 x_t_placeCount x_t_personCount x_t_unitCount x_t_persons = some (some a_w)) : cN l y_PS_undo w_PS_undo { frames := 1, cells := 0, slots := 0, locals := 22 } G sz [.ref a_t, .int p0] (ws_PS_undo G a_t a_t_right a_t_joining a_t_units a_t_draft a_t_reader a_t_persons a_t_table a_t_table_told a_t_table_place a_t_table_before a_t_table_behind a_w a_w_clock a_w_board a_w_board_entries a_w_board_markBits n x_t_placeCount x_t_personCount x_t_unitCount x_t_persons x_t_table_count x_t_table_place x_t_table_before x_t_table_behind x_w_number x_w_present x_w_helpCount x_w_board_entries x_w_board_markBits) (some (.int r)) (wB G (ws_PS_undo G a_t a_t_right a_t_joining a_t_units a_t_draft a_t_reader a_t_persons a_t_table a_t_table_told a_t_table_place a_t_table_before a_t_table_behind a_w a_w_clock a_w_board a_w_board_entries a_w_board_markBits n x_t_placeCount x_t_personCount x_t_unitCount x_t_persons x_t_table_count x_t_table_place x_t_table_before x_t_table_behind x_w_number x_w_present' x_w_helpCount x_w_board_entries' x_w_board_markBits')) 0 0 := by
  refine cN_ofW (cc := prog_1_method_5_code) (maxL := 4) (ret := (some .int)) (by decide) rfl (Nat.le_of_ble_eq_true rfl) ?_
  intro p e s m args below meth c A H locs ls hx hb hr hts hown hlocks hin hml hK hN hP hD hA hS hl
  replace hl : lv_has ls 4 [(0, .ref a_t), (1, .int p0)] := hl
  replace hown : s.vm.findClass "PlayStates" = some m.cls := hown
  unfold f_PS_undo at h
  refine lv_aload_n hx hb d_PS_undo_0 rfl (lv_at hl 0 rfl) ?_
  refine lv_iload_n hx hb d_PS_undo_1 rfl (lv_at hl 1 rfl) ?_
  have hPc := hP.sub (ws' := (ws_PS_find G a_t a_t_right a_t_table a_t_joining a_t_units a_t_draft a_t_reader a_t_persons x_t_placeCount x_t_personCount x_t_unitCount x_t_persons)) [0, 1] rfl
  have hDc := hD.sub (ws' := (ws_PS_find G a_t a_t_right a_t_table a_t_joining a_t_units a_t_draft a_t_reader a_t_persons x_t_placeCount x_t_personCount x_t_unitCount x_t_persons)) [0, 1] (by decide) rfl
  have hFc := va_free (wc := (ws_PS_find G a_t a_t_right a_t_table a_t_joining a_t_units a_t_draft a_t_reader a_t_persons x_t_placeCount x_t_personCount x_t_unitCount x_t_persons)) hD hS hA [0, 1] rfl
  refine q_call1 (va_runV (As := [.int p0]) (rest := []) ⟨hx, hb, hml, hown, hts⟩ (c_PS_find l G H.size a_t a_t_right a_t_table a_t_joining a_t_units a_t_draft a_t_reader a_t_persons p0 x_t_placeCount x_t_personCount x_t_unitCount x_t_persons _ hw) (cwV 1 hts (gV gw_163 gw_164 gw_2 gw_31 gw_165) rfl rfl rfl (by decide +kernel) ⟨Nat.le_of_ble_eq_true rfl, Nat.le_of_ble_eq_true rfl⟩) (pV hK hN hPc hDc (ci := 5) (q0 := 0) rfl rfl) rfl rfl hl.1 rfl (lv_room (Nat.le_of_ble_eq_true rfl)) d_PS_undo_2 ⟨Nat.le_of_ble_eq_true rfl, Nat.le_of_ble_eq_true rfl⟩) hS (fun q _ h => hFc q h) hFc (fun H1 locs hB hz hk hS => ?_)
  obtain ⟨hP, hD⟩ := q_join (wr := [(a_t_table, .inr (3, [.ref a_t_table_place, .ref a_t_table_told, .ref a_t_table_before, .ref a_t_table_behind, .int x_t_table_count])), (a_t_table_place, .inl (G.2 0, 600, .inl x_t_table_place)), (a_t_table_before, .inl (G.2 0, 600, .inl x_t_table_before)), (a_t_table_behind, .inl (G.2 0, 600, .inl x_t_table_behind)), (a_w, .inr (2, [.int x_w_number, .ref a_w_board, .ref a_w_clock, .int x_w_present, .int x_w_helpCount])), (a_w_board, .inr (0, [.ref a_w_board_entries, .ref a_w_board_markBits])), (a_w_board_entries, .inl (G.2 0, n, .inl x_w_board_entries)), (a_w_board_markBits, .inl (G.2 0, n, .inl x_w_board_markBits))]) (wn := (ws_PS_undo G a_t a_t_right a_t_joining a_t_units a_t_draft a_t_reader a_t_persons a_t_table a_t_table_told a_t_table_place a_t_table_before a_t_table_behind a_w a_w_clock a_w_board a_w_board_entries a_w_board_markBits n x_t_placeCount x_t_personCount x_t_unitCount x_t_persons x_t_table_count x_t_table_place x_t_table_before x_t_table_behind x_w_number x_w_present x_w_helpCount x_w_board_entries x_w_board_markBits)) hP hD [0, 1] [2, 3, 4, 5, 6, 7, 8, 9] [8, 9, 0, 1, 2, 3, 4, 5, 6, 7] rfl rfl (by decide) (by decide) rfl (by decide) hk hFc hB.1 hB.2
  generalize H1 = H at hP hS ⊢
  replace hP : va_P G.1 vwCl (ws_PS_undo G a_t a_t_right a_t_joining a_t_units a_t_draft a_t_reader a_t_persons a_t_table a_t_table_told a_t_table_place a_t_table_before a_t_table_behind a_w a_w_clock a_w_board a_w_board_entries a_w_board_markBits n x_t_placeCount x_t_personCount x_t_unitCount x_t_persons x_t_table_count x_t_table_place x_t_table_before x_t_table_behind x_w_number x_w_present x_w_helpCount x_w_board_entries x_w_board_markBits) H := hP
  replace hD : va_D A (ws_PS_undo G a_t a_t_right a_t_joining a_t_units a_t_draft a_t_reader a_t_persons a_t_table a_t_table_told a_t_table_place a_t_table_before a_t_table_behind a_w a_w_clock a_w_board a_w_board_entries a_w_board_markBits n x_t_placeCount x_t_personCount x_t_unitCount x_t_persons x_t_table_count x_t_table_place x_t_table_before x_t_table_behind x_w_number x_w_present x_w_helpCount x_w_board_entries x_w_board_markBits) := hD
  refine lv_astore_n (lv' := [(2, .ref a_w), (0, .ref a_t), (1, .int p0)]) hx hb d_PS_undo_5 rfl hl (by decide) rfl (fun ls hl => ?_)
  refine lv_aload_n hx hb d_PS_undo_6 rfl (lv_at hl 0 rfl) ?_
  refine lv_ifnull hx hb d_PS_undo_7 ?_
  refine lv_aload_n hx hb d_PS_undo_10 rfl (lv_at hl 1 rfl) ?_
  refine va_get (D := G.1) (ci := 5) (v := .ref a_t_table) (C := "PlayStates") (T := TPS) (N := 10) hx hb hts iw_5 hown hK hP 0 rfl rfl 4 (by decide) (hts _ gw_106) (fun _ h9 => h9) rfl d_PS_undo_11 ?_
  refine lv_aload_n hx hb d_PS_undo_14 rfl (lv_at hl 0 rfl) ?_
  refine va_getN (D := G.1) (ci := 2) (v := .int x_w_present) (C := "PlayStates$Person") (T := TPn) (N := 5) hx hb hts iw_2 hown hK hP 6 rfl rfl 3 (by decide) (va_Nw.use rfl (hN.1 ("PlayStates", 93, "PlayStates$Person", "present", "I", "PlayStates") (by decide +kernel))) (fun _ h9 => h9) rfl d_PS_undo_15 ?_
  obtain ⟨y1, hy1, h⟩ := o_bind h
  have hPc := hP.sub (ws' := (ws_Rt_holds G a_t_table a_t_table_place a_t_table_told a_t_table_before a_t_table_behind x_t_table_count)) [2] rfl
  have hDc := hD.sub (ws' := (ws_Rt_holds G a_t_table a_t_table_place a_t_table_told a_t_table_before a_t_table_behind x_t_table_count)) [2] (by decide) rfl
  have hFc := va_free (wc := (ws_Rt_holds G a_t_table a_t_table_place a_t_table_told a_t_table_before a_t_table_behind x_t_table_count)) hD hS hA [2] rfl
  refine q_call1 (va_runV (As := [.int x_w_present]) (rest := []) ⟨hx, hb, hml, hown, hts⟩ (c_Rt_holds l G H.size a_t_table a_t_table_place a_t_table_told a_t_table_before a_t_table_behind x_w_present x_t_table_count _ hy1) (cwV 1 hts (gV gw_206 gw_207 gw_208 gw_33 gw_209) rfl rfl rfl (by decide +kernel) ⟨Nat.le_of_ble_eq_true rfl, Nat.le_of_ble_eq_true rfl⟩) (pV hK hN hPc hDc (ci := 3) (q0 := 0) rfl rfl) rfl rfl hl.1 rfl (lv_room (Nat.le_of_ble_eq_true rfl)) d_PS_undo_18 ⟨Nat.le_of_ble_eq_true rfl, Nat.le_of_ble_eq_true rfl⟩) hS (fun q _ h => hFc q h) hFc (fun H1 locs hB hz hk hS => ?_)
  obtain ⟨hP, hD⟩ := q_join (wr := [(a_t, .inr (5, [.int x_t_placeCount, .ref a_t_right, .ref a_t_persons, .int x_t_personCount, .ref a_t_table, .ref a_t_joining, .ref a_t_units, .int x_t_unitCount, .ref a_t_draft, .ref a_t_reader])), (a_t_persons, .inl (G.2 3, 8, .inr (.inr (.inr (.inr x_t_persons))))), (a_t_table_place, .inl (G.2 0, 600, .inl x_t_table_place)), (a_t_table_before, .inl (G.2 0, 600, .inl x_t_table_before)), (a_t_table_behind, .inl (G.2 0, 600, .inl x_t_table_behind)), (a_w, .inr (2, [.int x_w_number, .ref a_w_board, .ref a_w_clock, .int x_w_present, .int x_w_helpCount])), (a_w_board, .inr (0, [.ref a_w_board_entries, .ref a_w_board_markBits])), (a_w_board_entries, .inl (G.2 0, n, .inl x_w_board_entries)), (a_w_board_markBits, .inl (G.2 0, n, .inl x_w_board_markBits))]) (wn := (ws_PS_undo G a_t a_t_right a_t_joining a_t_units a_t_draft a_t_reader a_t_persons a_t_table a_t_table_told a_t_table_place a_t_table_before a_t_table_behind a_w a_w_clock a_w_board a_w_board_entries a_w_board_markBits n x_t_placeCount x_t_personCount x_t_unitCount x_t_persons x_t_table_count x_t_table_place x_t_table_before x_t_table_behind x_w_number x_w_present x_w_helpCount x_w_board_entries x_w_board_markBits)) hP hD [2] [0, 1, 3, 4, 5, 6, 7, 8, 9] [0, 1, 9, 2, 3, 4, 5, 6, 7, 8] rfl rfl (by decide) (by decide) rfl (by decide) hk hFc hB.1 hB.2
  generalize H1 = H at hP hS ⊢
  replace hP : va_P G.1 vwCl (ws_PS_undo G a_t a_t_right a_t_joining a_t_units a_t_draft a_t_reader a_t_persons a_t_table a_t_table_told a_t_table_place a_t_table_before a_t_table_behind a_w a_w_clock a_w_board a_w_board_entries a_w_board_markBits n x_t_placeCount x_t_personCount x_t_unitCount x_t_persons x_t_table_count x_t_table_place x_t_table_before x_t_table_behind x_w_number x_w_present x_w_helpCount x_w_board_entries x_w_board_markBits) H := hP
  replace hD : va_D A (ws_PS_undo G a_t a_t_right a_t_joining a_t_units a_t_draft a_t_reader a_t_persons a_t_table a_t_table_told a_t_table_place a_t_table_before a_t_table_behind a_w a_w_clock a_w_board a_w_board_entries a_w_board_markBits n x_t_placeCount x_t_personCount x_t_unitCount x_t_persons x_t_table_count x_t_table_place x_t_table_before x_t_table_behind x_w_number x_w_present x_w_helpCount x_w_board_entries x_w_board_markBits) := hD
  refine lv_if_ne (tgt := 26) hx hb d_PS_undo_21 (by decide) (fun c2 => ?_) (fun c2 => ?_)
  · replace h := (if_neg c2).symm.trans h
    refine lv_aload_n hx hb d_PS_undo_26 rfl (lv_at hl 0 rfl) ?_
    refine va_getN (D := G.1) (ci := 2) (v := .int x_w_present) (C := "PlayStates$Person") (T := TPn) (N := 5) hx hb hts iw_2 hown hK hP 6 rfl rfl 3 (by decide) (va_Nw.use rfl (hN.1 ("PlayStates", 93, "PlayStates$Person", "present", "I", "PlayStates") (by decide +kernel))) (fun _ h9 => h9) rfl d_PS_undo_27 ?_
    refine lv_istore_n (lv' := [(3, .int x_w_present), (2, .ref a_w), (0, .ref a_t), (1, .int p0)]) hx hb d_PS_undo_30 rfl hl (by decide) rfl (fun ls hl => ?_)
    refine lv_aload_n hx hb d_PS_undo_31 rfl (lv_at hl 1 rfl) ?_
    refine va_getN (D := G.1) (ci := 2) (v := .ref a_w_board) (C := "PlayStates$Person") (T := TPn) (N := 5) hx hb hts iw_2 hown hK hP 6 rfl rfl 1 (by decide) (va_Nw.use rfl (hN.1 ("PlayStates", 99, "PlayStates$Person", "board", "LPlayStates$Board;", "PlayStates") (by decide +kernel))) (fun _ h9 => h9) rfl d_PS_undo_32 ?_
    refine lv_aload_n hx hb d_PS_undo_35 rfl (lv_at hl 2 rfl) ?_
    refine va_get (D := G.1) (ci := 5) (v := .ref a_t_table) (C := "PlayStates") (T := TPS) (N := 10) hx hb hts iw_5 hown hK hP 0 rfl rfl 4 (by decide) (hts _ gw_106) (fun _ h9 => h9) rfl d_PS_undo_36 ?_
    refine va_getN (D := G.1) (ci := 3) (v := .ref a_t_table_place) (C := "PlayStates$RowTable") (T := TRt) (N := 5) hx hb hts iw_3 hown hK hP 2 rfl rfl 0 (by decide) (va_Nw.use rfl (hN.1 ("PlayStates", 102, "PlayStates$RowTable", "place", "[I", "PlayStates") (by decide +kernel))) (fun _ h9 => h9) rfl d_PS_undo_39 ?_
    refine lv_iload_n hx hb d_PS_undo_42 rfl (lv_at hl 0 rfl) ?_
    obtain ⟨i3, h⟩ := o_if h
    refine va_iald (n := 600) (f := x_t_table_place) hx hb hK hP 3 0 rfl rfl i3 d_PS_undo_43 ?_
    refine lv_aload_n hx hb d_PS_undo_44 rfl (lv_at hl 2 rfl) ?_
    refine va_get (D := G.1) (ci := 5) (v := .ref a_t_table) (C := "PlayStates") (T := TPS) (N := 10) hx hb hts iw_5 hown hK hP 0 rfl rfl 4 (by decide) (hts _ gw_106) (fun _ h9 => h9) rfl d_PS_undo_45 ?_
    refine va_getN (D := G.1) (ci := 3) (v := .ref a_t_table_before) (C := "PlayStates$RowTable") (T := TRt) (N := 5) hx hb hts iw_3 hown hK hP 2 rfl rfl 2 (by decide) (va_Nw.use rfl (hN.1 ("PlayStates", 105, "PlayStates$RowTable", "before", "[I", "PlayStates") (by decide +kernel))) (fun _ h9 => h9) rfl d_PS_undo_48 ?_
    refine lv_iload_n hx hb d_PS_undo_51 rfl (lv_at hl 0 rfl) ?_
    obtain ⟨i4, h⟩ := o_if h
    refine va_iald (n := 600) (f := x_t_table_before) hx hb hK hP 4 0 rfl rfl i4 d_PS_undo_52 ?_
    obtain ⟨y5, hy5, h⟩ := o_bind h
    have hPc := hP.sub (ws' := (ws_Bd_put G a_w_board a_w_board_entries a_w_board_markBits n x_w_board_entries x_w_board_markBits)) [7, 8, 9] rfl
    have hDc := hD.sub (ws' := (ws_Bd_put G a_w_board a_w_board_entries a_w_board_markBits n x_w_board_entries x_w_board_markBits)) [7, 8, 9] (by decide) rfl
    have hFc := va_free (wc := (ws_Bd_put G a_w_board a_w_board_entries a_w_board_markBits n x_w_board_entries x_w_board_markBits)) hD hS hA [7, 8, 9] rfl
    refine q_call0 (va_runV (As := [.int (x_t_table_place x_w_present.toNatClampNeg), .int (x_t_table_before x_w_present.toNatClampNeg)]) (rest := []) ⟨hx, hb, hml, hown, hts⟩ (c_Bd_put l G H.size a_w_board a_w_board_entries a_w_board_markBits n (x_t_table_place x_w_present.toNatClampNeg) (x_t_table_before x_w_present.toNatClampNeg) x_w_board_entries x_w_board_markBits _ _ hy5) (cwV 2 hts (gV gw_191 gw_192 gw_193 gw_34 gw_194) rfl rfl rfl (by decide +kernel) ⟨Nat.le_of_ble_eq_true rfl, Nat.le_of_ble_eq_true rfl⟩) (pV hK hN hPc hDc (ci := 0) (q0 := 0) rfl rfl) rfl rfl hl.1 rfl (lv_room (Nat.le_of_ble_eq_true rfl)) d_PS_undo_53 ⟨Nat.le_of_ble_eq_true rfl, Nat.le_of_ble_eq_true rfl⟩) hS (fun q _ h => hFc q h) hFc (fun H1 locs hB hz hk hS => ?_)
    obtain ⟨hP, hD⟩ := q_join (wr := [(a_t, .inr (5, [.int x_t_placeCount, .ref a_t_right, .ref a_t_persons, .int x_t_personCount, .ref a_t_table, .ref a_t_joining, .ref a_t_units, .int x_t_unitCount, .ref a_t_draft, .ref a_t_reader])), (a_t_persons, .inl (G.2 3, 8, .inr (.inr (.inr (.inr x_t_persons))))), (a_t_table, .inr (3, [.ref a_t_table_place, .ref a_t_table_told, .ref a_t_table_before, .ref a_t_table_behind, .int x_t_table_count])), (a_t_table_place, .inl (G.2 0, 600, .inl x_t_table_place)), (a_t_table_before, .inl (G.2 0, 600, .inl x_t_table_before)), (a_t_table_behind, .inl (G.2 0, 600, .inl x_t_table_behind)), (a_w, .inr (2, [.int x_w_number, .ref a_w_board, .ref a_w_clock, .int x_w_present, .int x_w_helpCount]))]) (wn := (ws_PS_undo G a_t a_t_right a_t_joining a_t_units a_t_draft a_t_reader a_t_persons a_t_table a_t_table_told a_t_table_place a_t_table_before a_t_table_behind a_w a_w_clock a_w_board a_w_board_entries a_w_board_markBits n x_t_placeCount x_t_personCount x_t_unitCount x_t_persons x_t_table_count x_t_table_place x_t_table_before x_t_table_behind x_w_number x_w_present x_w_helpCount y5.1 y5.2)) hP hD [7, 8, 9] [0, 1, 2, 3, 4, 5, 6] [0, 1, 2, 3, 4, 5, 6, 7, 8, 9] rfl rfl (by decide) (by decide) rfl (by decide) hk hFc hB.1 hB.2
    generalize H1 = H at hP hS ⊢
    replace hP : va_P G.1 vwCl (ws_PS_undo G a_t a_t_right a_t_joining a_t_units a_t_draft a_t_reader a_t_persons a_t_table a_t_table_told a_t_table_place a_t_table_before a_t_table_behind a_w a_w_clock a_w_board a_w_board_entries a_w_board_markBits n x_t_placeCount x_t_personCount x_t_unitCount x_t_persons x_t_table_count x_t_table_place x_t_table_before x_t_table_behind x_w_number x_w_present x_w_helpCount y5.1 y5.2) H := hP
    replace hD : va_D A (ws_PS_undo G a_t a_t_right a_t_joining a_t_units a_t_draft a_t_reader a_t_persons a_t_table a_t_table_told a_t_table_place a_t_table_before a_t_table_behind a_w a_w_clock a_w_board a_w_board_entries a_w_board_markBits n x_t_placeCount x_t_personCount x_t_unitCount x_t_persons x_t_table_count x_t_table_place x_t_table_before x_t_table_behind x_w_number x_w_present x_w_helpCount y5.1 y5.2) := hD
    refine lv_aload_n hx hb d_PS_undo_56 rfl (lv_at hl 1 rfl) ?_
    refine lv_aload_n hx hb d_PS_undo_57 rfl (lv_at hl 2 rfl) ?_
    refine va_get (D := G.1) (ci := 5) (v := .ref a_t_table) (C := "PlayStates") (T := TPS) (N := 10) hx hb hts iw_5 hown hK hP 0 rfl rfl 4 (by decide) (hts _ gw_106) (fun _ h9 => h9) rfl d_PS_undo_58 ?_
    refine va_getN (D := G.1) (ci := 3) (v := .ref a_t_table_behind) (C := "PlayStates$RowTable") (T := TRt) (N := 5) hx hb hts iw_3 hown hK hP 2 rfl rfl 3 (by decide) (va_Nw.use rfl (hN.1 ("PlayStates", 112, "PlayStates$RowTable", "behind", "[I", "PlayStates") (by decide +kernel))) (fun _ h9 => h9) rfl d_PS_undo_61 ?_
    refine lv_iload_n hx hb d_PS_undo_64 rfl (lv_at hl 0 rfl) ?_
    obtain ⟨i6, h⟩ := o_if h
    refine va_iald (n := 600) (f := x_t_table_behind) hx hb hK hP 5 0 rfl rfl i6 d_PS_undo_65 ?_
    refine va_putN (D := G.1) (ci := 2) (v := .int (x_t_table_behind x_w_present.toNatClampNeg)) (ty := .int) (C := "PlayStates$Person") (T := TPn) (N := 5) hx hb hts iw_2 tyPn tyPn_ok nmPn hown hK hP hD hS 6 rfl rfl 3 (by decide) (va_Nw.use rfl (hN.1 ("PlayStates", 93, "PlayStates$Person", "present", "I", "PlayStates") (by decide +kernel))) (fun _ h9 => h9) rfl (by decide +kernel) (by rfl) (by rfl) (Nat.le_of_ble_eq_true rfl) d_PS_undo_66 (fun H locs hP hD hS => ?_)
    replace hP : va_P G.1 vwCl (ws_PS_undo G a_t a_t_right a_t_joining a_t_units a_t_draft a_t_reader a_t_persons a_t_table a_t_table_told a_t_table_place a_t_table_before a_t_table_behind a_w a_w_clock a_w_board a_w_board_entries a_w_board_markBits n x_t_placeCount x_t_personCount x_t_unitCount x_t_persons x_t_table_count x_t_table_place x_t_table_before x_t_table_behind x_w_number (x_t_table_behind x_w_present.toNatClampNeg) x_w_helpCount y5.1 y5.2) H := hP
    replace hD : va_D A (ws_PS_undo G a_t a_t_right a_t_joining a_t_units a_t_draft a_t_reader a_t_persons a_t_table a_t_table_told a_t_table_place a_t_table_before a_t_table_behind a_w a_w_clock a_w_board a_w_board_entries a_w_board_markBits n x_t_placeCount x_t_personCount x_t_unitCount x_t_persons x_t_table_count x_t_table_place x_t_table_before x_t_table_behind x_w_number (x_t_table_behind x_w_present.toNatClampNeg) x_w_helpCount y5.1 y5.2) := hD
    refine lv_iload_n hx hb d_PS_undo_69 rfl (lv_at hl 0 rfl) ?_
    cases h
    exact q_iretW hx hb hr hlocks hP hD hS d_PS_undo_70
  · replace h := (if_pos c2).symm.trans h
    refine lv_iconst (v := (-1 : Int32)) hx hb d_PS_undo_24 (by decide) ?_
    cases h
    exact q_iretW hx hb hr hlocks hP hD hS d_PS_undo_25


-- PlayStates.undo(I)I 
def ws_PS_undo_no (G : gG) (a_t a_t_right a_t_table a_t_joining a_t_units a_t_draft a_t_reader a_t_persons : Nat)  (x_t_placeCount : Int32) (x_t_personCount : Int32) (x_t_unitCount : Int32) (x_t_persons : Nat → Option Nat) : va_W := [(a_t, .inr (5, [.int x_t_placeCount, .ref a_t_right, .ref a_t_persons, .int x_t_personCount, .ref a_t_table, .ref a_t_joining, .ref a_t_units, .int x_t_unitCount, .ref a_t_draft, .ref a_t_reader])), (a_t_persons, .inl (G.2 3, 8, .inr (.inr (.inr (.inr x_t_persons)))))]
def f_PS_undo_no  (p0 : Int32) (x_t_placeCount : Int32) (x_t_personCount : Int32) (x_t_unitCount : Int32) (x_t_persons : Nat → Option Nat) : Option (Int32) :=
  some (-1 : Int32)
set_option maxHeartbeats 4000000 in
set_option maxRecDepth 100000 in
theorem c_PS_undo_no (l : Launch) (G : gG) (sz : Nat) (a_t a_t_right a_t_table a_t_joining a_t_units a_t_draft a_t_reader a_t_persons : Nat)  (p0 : Int32) (x_t_placeCount : Int32) (x_t_personCount : Int32) (x_t_unitCount : Int32) (x_t_persons : Nat → Option Nat) (r : Int32) (h : f_PS_undo_no p0 x_t_placeCount x_t_personCount x_t_unitCount x_t_persons = some r)  (hw : f_PS_find p0 x_t_placeCount x_t_personCount x_t_unitCount x_t_persons = some none) : cN l y_PS_undo w_PS_undo { frames := 1, cells := 0, slots := 0, locals := 21 } G sz [.ref a_t, .int p0] (ws_PS_undo_no G a_t a_t_right a_t_table a_t_joining a_t_units a_t_draft a_t_reader a_t_persons x_t_placeCount x_t_personCount x_t_unitCount x_t_persons) (some (.int r)) (wB G (ws_PS_undo_no G a_t a_t_right a_t_table a_t_joining a_t_units a_t_draft a_t_reader a_t_persons x_t_placeCount x_t_personCount x_t_unitCount x_t_persons)) 0 0 := by
  refine cN_ofW (cc := prog_1_method_5_code) (maxL := 4) (ret := (some .int)) (by decide) rfl (Nat.le_of_ble_eq_true rfl) ?_
  intro p e s m args below meth c A H locs ls hx hb hr hts hown hlocks hin hml hK hN hP hD hA hS hl
  replace hl : lv_has ls 4 [(0, .ref a_t), (1, .int p0)] := hl
  replace hown : s.vm.findClass "PlayStates" = some m.cls := hown
  unfold f_PS_undo_no at h
  refine lv_aload_n hx hb d_PS_undo_0 rfl (lv_at hl 0 rfl) ?_
  refine lv_iload_n hx hb d_PS_undo_1 rfl (lv_at hl 1 rfl) ?_
  have hPc := hP.sub (ws' := (ws_PS_find G a_t a_t_right a_t_table a_t_joining a_t_units a_t_draft a_t_reader a_t_persons x_t_placeCount x_t_personCount x_t_unitCount x_t_persons)) [0, 1] rfl
  have hDc := hD.sub (ws' := (ws_PS_find G a_t a_t_right a_t_table a_t_joining a_t_units a_t_draft a_t_reader a_t_persons x_t_placeCount x_t_personCount x_t_unitCount x_t_persons)) [0, 1] (by decide) rfl
  have hFc := va_free (wc := (ws_PS_find G a_t a_t_right a_t_table a_t_joining a_t_units a_t_draft a_t_reader a_t_persons x_t_placeCount x_t_personCount x_t_unitCount x_t_persons)) hD hS hA [0, 1] rfl
  refine q_call1 (va_runV (As := [.int p0]) (rest := []) ⟨hx, hb, hml, hown, hts⟩ (c_PS_find l G H.size a_t a_t_right a_t_table a_t_joining a_t_units a_t_draft a_t_reader a_t_persons p0 x_t_placeCount x_t_personCount x_t_unitCount x_t_persons _ hw) (cwV 1 hts (gV gw_163 gw_164 gw_2 gw_31 gw_165) rfl rfl rfl (by decide +kernel) ⟨Nat.le_of_ble_eq_true rfl, Nat.le_of_ble_eq_true rfl⟩) (pV hK hN hPc hDc (ci := 5) (q0 := 0) rfl rfl) rfl rfl hl.1 rfl (lv_room (Nat.le_of_ble_eq_true rfl)) d_PS_undo_2 ⟨Nat.le_of_ble_eq_true rfl, Nat.le_of_ble_eq_true rfl⟩) hS (fun q _ h => hFc q h) hFc (fun H1 locs hB hz hk hS => ?_)
  obtain ⟨hP, hD⟩ := q_joinA hFc hB.1 hB.2
  generalize H1 = H at hP hS ⊢
  replace hP : va_P G.1 vwCl (ws_PS_undo_no G a_t a_t_right a_t_table a_t_joining a_t_units a_t_draft a_t_reader a_t_persons x_t_placeCount x_t_personCount x_t_unitCount x_t_persons) H := hP
  replace hD : va_D A (ws_PS_undo_no G a_t a_t_right a_t_table a_t_joining a_t_units a_t_draft a_t_reader a_t_persons x_t_placeCount x_t_personCount x_t_unitCount x_t_persons) := hD
  refine lv_astore_nN (lv' := [(2, .null), (0, .ref a_t), (1, .int p0)]) hx hb d_PS_undo_5 rfl hl (by decide) rfl (fun ls hl => ?_)
  refine lv_aload_nN hx hb d_PS_undo_6 rfl (lv_at hl 0 rfl) ?_
  refine lv_ifnullN (tgt := 24) hx hb d_PS_undo_7 (by decide) ?_
  refine lv_iconst (v := (-1 : Int32)) hx hb d_PS_undo_24 (by decide) ?_
  cases h
  exact q_iretW hx hb hr hlocks hP hD hS d_PS_undo_25

theorem gw_217 : (.code ⟨"PlayStates$RowTable", "findBranch", "(II)I"⟩ prog_5_method_6_code 5 (some .int) : Cond) ∈ GW := gT 243 (by decide +kernel) (by decide +kernel)
theorem gw_214 : (.methodLink "PlayStates" 115 ⟨"PlayStates$RowTable", "findBranch", "(II)I"⟩ : Cond) ∈ GW := gT 240 (by decide +kernel) (by decide +kernel)
theorem gw_215 : (.instanceMethod ⟨"PlayStates$RowTable", "findBranch", "(II)I"⟩ : Cond) ∈ GW := gT 241 (by decide +kernel) (by decide +kernel)
theorem gw_216 : (.selects "PlayStates$RowTable" ⟨"PlayStates$RowTable", "findBranch", "(II)I"⟩ ⟨"PlayStates$RowTable", "findBranch", "(II)I"⟩ : Cond) ∈ GW := gT 242 (by decide +kernel) (by decide +kernel)
theorem d_PS_redo_0 : decode prog_1_method_6_code 0 = .ok (.aload_n 0, 1) := by decide +kernel
theorem d_PS_redo_1 : decode prog_1_method_6_code 1 = .ok (.iload_n 1, 1) := by decide +kernel
theorem d_PS_redo_2 : decode prog_1_method_6_code 2 = .ok (.invokevirtual 75, 3) := by decide +kernel
theorem d_PS_redo_5 : decode prog_1_method_6_code 5 = .ok (.astore_n 3, 1) := by decide +kernel
theorem d_PS_redo_6 : decode prog_1_method_6_code 6 = .ok (.aload_n 3, 1) := by decide +kernel
theorem d_PS_redo_7 : decode prog_1_method_6_code 7 = .ok (.ifnonnull 5, 3) := by decide +kernel
theorem d_PS_redo_10 : decode prog_1_method_6_code 10 = .ok (.iconst (-1), 1) := by decide +kernel
theorem d_PS_redo_11 : decode prog_1_method_6_code 11 = .ok (.ireturn, 1) := by decide +kernel
theorem d_PS_redo_12 : decode prog_1_method_6_code 12 = .ok (.aload_n 0, 1) := by decide +kernel
theorem d_PS_redo_13 : decode prog_1_method_6_code 13 = .ok (.getfield 35, 3) := by decide +kernel
theorem d_PS_redo_16 : decode prog_1_method_6_code 16 = .ok (.aload_n 3, 1) := by decide +kernel
theorem d_PS_redo_17 : decode prog_1_method_6_code 17 = .ok (.getfield 93, 3) := by decide +kernel
theorem d_PS_redo_20 : decode prog_1_method_6_code 20 = .ok (.iload_n 2, 1) := by decide +kernel
theorem d_PS_redo_21 : decode prog_1_method_6_code 21 = .ok (.invokevirtual 115, 3) := by decide +kernel
theorem d_PS_redo_24 : decode prog_1_method_6_code 24 = .ok (.istore 4, 2) := by decide +kernel
theorem d_PS_redo_26 : decode prog_1_method_6_code 26 = .ok (.aload_n 0, 1) := by decide +kernel
theorem d_PS_redo_27 : decode prog_1_method_6_code 27 = .ok (.getfield 35, 3) := by decide +kernel
theorem d_PS_redo_30 : decode prog_1_method_6_code 30 = .ok (.iload 4, 2) := by decide +kernel
theorem d_PS_redo_32 : decode prog_1_method_6_code 32 = .ok (.invokevirtual 96, 3) := by decide +kernel
theorem d_PS_redo_35 : decode prog_1_method_6_code 35 = .ok (.ifCond .ne 5, 3) := by decide +kernel
theorem d_PS_redo_38 : decode prog_1_method_6_code 38 = .ok (.iconst (-1), 1) := by decide +kernel
theorem d_PS_redo_39 : decode prog_1_method_6_code 39 = .ok (.ireturn, 1) := by decide +kernel
theorem d_PS_redo_40 : decode prog_1_method_6_code 40 = .ok (.aload_n 3, 1) := by decide +kernel
theorem d_PS_redo_41 : decode prog_1_method_6_code 41 = .ok (.getfield 99, 3) := by decide +kernel
theorem d_PS_redo_44 : decode prog_1_method_6_code 44 = .ok (.aload_n 0, 1) := by decide +kernel
theorem d_PS_redo_45 : decode prog_1_method_6_code 45 = .ok (.getfield 35, 3) := by decide +kernel
theorem d_PS_redo_48 : decode prog_1_method_6_code 48 = .ok (.getfield 102, 3) := by decide +kernel
theorem d_PS_redo_51 : decode prog_1_method_6_code 51 = .ok (.iload 4, 2) := by decide +kernel
theorem d_PS_redo_53 : decode prog_1_method_6_code 53 = .ok (.iaload, 1) := by decide +kernel
theorem d_PS_redo_54 : decode prog_1_method_6_code 54 = .ok (.aload_n 0, 1) := by decide +kernel
theorem d_PS_redo_55 : decode prog_1_method_6_code 55 = .ok (.getfield 35, 3) := by decide +kernel
theorem d_PS_redo_58 : decode prog_1_method_6_code 58 = .ok (.getfield 118, 3) := by decide +kernel
theorem d_PS_redo_61 : decode prog_1_method_6_code 61 = .ok (.iload 4, 2) := by decide +kernel
theorem d_PS_redo_63 : decode prog_1_method_6_code 63 = .ok (.iaload, 1) := by decide +kernel
theorem d_PS_redo_64 : decode prog_1_method_6_code 64 = .ok (.invokevirtual 108, 3) := by decide +kernel
theorem d_PS_redo_67 : decode prog_1_method_6_code 67 = .ok (.aload_n 3, 1) := by decide +kernel
theorem d_PS_redo_68 : decode prog_1_method_6_code 68 = .ok (.iload 4, 2) := by decide +kernel
theorem d_PS_redo_70 : decode prog_1_method_6_code 70 = .ok (.putfield 93, 3) := by decide +kernel
theorem d_PS_redo_73 : decode prog_1_method_6_code 73 = .ok (.iload 4, 2) := by decide +kernel
theorem d_PS_redo_75 : decode prog_1_method_6_code 75 = .ok (.ireturn, 1) := by decide +kernel
-- PlayStates.redo(II)I 
def ws_PS_redo (G : gG) (a_t a_t_right a_t_joining a_t_units a_t_draft a_t_reader a_t_persons a_t_table a_t_table_before a_t_table_place a_t_table_told a_t_table_behind a_w a_w_clock a_w_board a_w_board_entries a_w_board_markBits : Nat) (n : Nat) (x_t_placeCount : Int32) (x_t_personCount : Int32) (x_t_unitCount : Int32) (x_t_persons : Nat → Option Nat) (x_t_table_count : Int32) (x_t_table_place : Nat → Int32) (x_t_table_told : Nat → Int32) (x_t_table_behind : Nat → Int32) (x_w_number : Int32) (x_w_present : Int32) (x_w_helpCount : Int32) (x_w_board_entries : Nat → Int32) (x_w_board_markBits : Nat → Int32) : va_W := [(a_t, .inr (5, [.int x_t_placeCount, .ref a_t_right, .ref a_t_persons, .int x_t_personCount, .ref a_t_table, .ref a_t_joining, .ref a_t_units, .int x_t_unitCount, .ref a_t_draft, .ref a_t_reader])), (a_t_persons, .inl (G.2 3, 8, .inr (.inr (.inr (.inr x_t_persons))))), (a_t_table, .inr (3, [.ref a_t_table_place, .ref a_t_table_told, .ref a_t_table_before, .ref a_t_table_behind, .int x_t_table_count])), (a_t_table_place, .inl (G.2 0, 600, .inl x_t_table_place)), (a_t_table_told, .inl (G.2 0, 600, .inl x_t_table_told)), (a_t_table_behind, .inl (G.2 0, 600, .inl x_t_table_behind)), (a_w, .inr (2, [.int x_w_number, .ref a_w_board, .ref a_w_clock, .int x_w_present, .int x_w_helpCount])), (a_w_board, .inr (0, [.ref a_w_board_entries, .ref a_w_board_markBits])), (a_w_board_entries, .inl (G.2 0, n, .inl x_w_board_entries)), (a_w_board_markBits, .inl (G.2 0, n, .inl x_w_board_markBits))]
def f_PS_redo (fu : Nat) (n : Nat) (p0 : Int32) (p1 : Int32) (x_t_placeCount : Int32) (x_t_personCount : Int32) (x_t_unitCount : Int32) (x_t_persons : Nat → Option Nat) (x_t_table_count : Int32) (x_t_table_place : Nat → Int32) (x_t_table_told : Nat → Int32) (x_t_table_behind : Nat → Int32) (x_w_number : Int32) (x_w_present : Int32) (x_w_helpCount : Int32) (x_w_board_entries : Nat → Int32) (x_w_board_markBits : Nat → Int32) : Option (Int32 × Int32 × (Nat → Int32) × (Nat → Int32)) :=
  ((f_Rt_findBranch fu x_w_present p1 x_t_table_count x_t_table_behind).bind fun y1 => ((f_Rt_holds y1 x_t_table_count).bind fun y2 => (if y2 = 0 then some ((-1 : Int32), x_w_present, x_w_board_entries, x_w_board_markBits) else (if inB y1 600 then (if inB y1 600 then ((f_Bd_put n (x_t_table_place y1.toNatClampNeg) (x_t_table_told y1.toNatClampNeg) x_w_board_entries x_w_board_markBits).bind fun y6 => some (y1, y1, y6.1, y6.2)) else none) else none))))
set_option maxHeartbeats 4000000 in
set_option maxRecDepth 100000 in
theorem c_PS_redo (l : Launch) (G : gG) (sz : Nat) (a_t a_t_right a_t_joining a_t_units a_t_draft a_t_reader a_t_persons a_t_table a_t_table_before a_t_table_place a_t_table_told a_t_table_behind a_w a_w_clock a_w_board a_w_board_entries a_w_board_markBits : Nat) (fu : Nat) (n : Nat) (p0 : Int32) (p1 : Int32) (x_t_placeCount : Int32) (x_t_personCount : Int32) (x_t_unitCount : Int32) (x_t_persons : Nat → Option Nat) (x_t_table_count : Int32) (x_t_table_place : Nat → Int32) (x_t_table_told : Nat → Int32) (x_t_table_behind : Nat → Int32) (x_w_number : Int32) (x_w_present : Int32) (x_w_helpCount : Int32) (x_w_board_entries : Nat → Int32) (x_w_board_markBits : Nat → Int32) (r : Int32) (x_w_present' : Int32) (x_w_board_entries' : Nat → Int32) (x_w_board_markBits' : Nat → Int32) (h : f_PS_redo fu n p0 p1 x_t_placeCount x_t_personCount x_t_unitCount x_t_persons x_t_table_count x_t_table_place x_t_table_told x_t_table_behind x_w_number x_w_present x_w_helpCount x_w_board_entries x_w_board_markBits = some (r, x_w_present', x_w_board_entries', x_w_board_markBits'))  (hw : f_PS_find p0 x_t_placeCount x_t_personCount x_t_unitCount x_t_persons = some (some a_w)) : cN l y_PS_redo w_PS_redo { frames := 1, cells := 0, slots := 0, locals := 24 } G sz [.ref a_t, .int p0, .int p1] (ws_PS_redo G a_t a_t_right a_t_joining a_t_units a_t_draft a_t_reader a_t_persons a_t_table a_t_table_before a_t_table_place a_t_table_told a_t_table_behind a_w a_w_clock a_w_board a_w_board_entries a_w_board_markBits n x_t_placeCount x_t_personCount x_t_unitCount x_t_persons x_t_table_count x_t_table_place x_t_table_told x_t_table_behind x_w_number x_w_present x_w_helpCount x_w_board_entries x_w_board_markBits) (some (.int r)) (wB G (ws_PS_redo G a_t a_t_right a_t_joining a_t_units a_t_draft a_t_reader a_t_persons a_t_table a_t_table_before a_t_table_place a_t_table_told a_t_table_behind a_w a_w_clock a_w_board a_w_board_entries a_w_board_markBits n x_t_placeCount x_t_personCount x_t_unitCount x_t_persons x_t_table_count x_t_table_place x_t_table_told x_t_table_behind x_w_number x_w_present' x_w_helpCount x_w_board_entries' x_w_board_markBits')) 0 0 := by
  refine cN_ofW (cc := prog_1_method_6_code) (maxL := 5) (ret := (some .int)) (by decide) rfl (Nat.le_of_ble_eq_true rfl) ?_
  intro p e s m args below meth c A H locs ls hx hb hr hts hown hlocks hin hml hK hN hP hD hA hS hl
  replace hl : lv_has ls 5 [(0, .ref a_t), (1, .int p0), (2, .int p1)] := hl
  replace hown : s.vm.findClass "PlayStates" = some m.cls := hown
  unfold f_PS_redo at h
  refine lv_aload_n hx hb d_PS_redo_0 rfl (lv_at hl 0 rfl) ?_
  refine lv_iload_n hx hb d_PS_redo_1 rfl (lv_at hl 1 rfl) ?_
  have hPc := hP.sub (ws' := (ws_PS_find G a_t a_t_right a_t_table a_t_joining a_t_units a_t_draft a_t_reader a_t_persons x_t_placeCount x_t_personCount x_t_unitCount x_t_persons)) [0, 1] rfl
  have hDc := hD.sub (ws' := (ws_PS_find G a_t a_t_right a_t_table a_t_joining a_t_units a_t_draft a_t_reader a_t_persons x_t_placeCount x_t_personCount x_t_unitCount x_t_persons)) [0, 1] (by decide) rfl
  have hFc := va_free (wc := (ws_PS_find G a_t a_t_right a_t_table a_t_joining a_t_units a_t_draft a_t_reader a_t_persons x_t_placeCount x_t_personCount x_t_unitCount x_t_persons)) hD hS hA [0, 1] rfl
  refine q_call1 (va_runV (As := [.int p0]) (rest := []) ⟨hx, hb, hml, hown, hts⟩ (c_PS_find l G H.size a_t a_t_right a_t_table a_t_joining a_t_units a_t_draft a_t_reader a_t_persons p0 x_t_placeCount x_t_personCount x_t_unitCount x_t_persons _ hw) (cwV 1 hts (gV gw_163 gw_164 gw_2 gw_31 gw_165) rfl rfl rfl (by decide +kernel) ⟨Nat.le_of_ble_eq_true rfl, Nat.le_of_ble_eq_true rfl⟩) (pV hK hN hPc hDc (ci := 5) (q0 := 0) rfl rfl) rfl rfl hl.1 rfl (lv_room (Nat.le_of_ble_eq_true rfl)) d_PS_redo_2 ⟨Nat.le_of_ble_eq_true rfl, Nat.le_of_ble_eq_true rfl⟩) hS (fun q _ h => hFc q h) hFc (fun H1 locs hB hz hk hS => ?_)
  obtain ⟨hP, hD⟩ := q_join (wr := [(a_t_table, .inr (3, [.ref a_t_table_place, .ref a_t_table_told, .ref a_t_table_before, .ref a_t_table_behind, .int x_t_table_count])), (a_t_table_place, .inl (G.2 0, 600, .inl x_t_table_place)), (a_t_table_told, .inl (G.2 0, 600, .inl x_t_table_told)), (a_t_table_behind, .inl (G.2 0, 600, .inl x_t_table_behind)), (a_w, .inr (2, [.int x_w_number, .ref a_w_board, .ref a_w_clock, .int x_w_present, .int x_w_helpCount])), (a_w_board, .inr (0, [.ref a_w_board_entries, .ref a_w_board_markBits])), (a_w_board_entries, .inl (G.2 0, n, .inl x_w_board_entries)), (a_w_board_markBits, .inl (G.2 0, n, .inl x_w_board_markBits))]) (wn := (ws_PS_redo G a_t a_t_right a_t_joining a_t_units a_t_draft a_t_reader a_t_persons a_t_table a_t_table_before a_t_table_place a_t_table_told a_t_table_behind a_w a_w_clock a_w_board a_w_board_entries a_w_board_markBits n x_t_placeCount x_t_personCount x_t_unitCount x_t_persons x_t_table_count x_t_table_place x_t_table_told x_t_table_behind x_w_number x_w_present x_w_helpCount x_w_board_entries x_w_board_markBits)) hP hD [0, 1] [2, 3, 4, 5, 6, 7, 8, 9] [8, 9, 0, 1, 2, 3, 4, 5, 6, 7] rfl rfl (by decide) (by decide) rfl (by decide) hk hFc hB.1 hB.2
  generalize H1 = H at hP hS ⊢
  replace hP : va_P G.1 vwCl (ws_PS_redo G a_t a_t_right a_t_joining a_t_units a_t_draft a_t_reader a_t_persons a_t_table a_t_table_before a_t_table_place a_t_table_told a_t_table_behind a_w a_w_clock a_w_board a_w_board_entries a_w_board_markBits n x_t_placeCount x_t_personCount x_t_unitCount x_t_persons x_t_table_count x_t_table_place x_t_table_told x_t_table_behind x_w_number x_w_present x_w_helpCount x_w_board_entries x_w_board_markBits) H := hP
  replace hD : va_D A (ws_PS_redo G a_t a_t_right a_t_joining a_t_units a_t_draft a_t_reader a_t_persons a_t_table a_t_table_before a_t_table_place a_t_table_told a_t_table_behind a_w a_w_clock a_w_board a_w_board_entries a_w_board_markBits n x_t_placeCount x_t_personCount x_t_unitCount x_t_persons x_t_table_count x_t_table_place x_t_table_told x_t_table_behind x_w_number x_w_present x_w_helpCount x_w_board_entries x_w_board_markBits) := hD
  refine lv_astore_n (lv' := [(3, .ref a_w), (0, .ref a_t), (1, .int p0), (2, .int p1)]) hx hb d_PS_redo_5 rfl hl (by decide) rfl (fun ls hl => ?_)
  refine lv_aload_n hx hb d_PS_redo_6 rfl (lv_at hl 0 rfl) ?_
  refine lv_ifnonnull (tgt := 12) hx hb d_PS_redo_7 (by decide) ?_
  refine lv_aload_n hx hb d_PS_redo_12 rfl (lv_at hl 1 rfl) ?_
  refine va_get (D := G.1) (ci := 5) (v := .ref a_t_table) (C := "PlayStates") (T := TPS) (N := 10) hx hb hts iw_5 hown hK hP 0 rfl rfl 4 (by decide) (hts _ gw_106) (fun _ h9 => h9) rfl d_PS_redo_13 ?_
  refine lv_aload_n hx hb d_PS_redo_16 rfl (lv_at hl 0 rfl) ?_
  refine va_getN (D := G.1) (ci := 2) (v := .int x_w_present) (C := "PlayStates$Person") (T := TPn) (N := 5) hx hb hts iw_2 hown hK hP 6 rfl rfl 3 (by decide) (va_Nw.use rfl (hN.1 ("PlayStates", 93, "PlayStates$Person", "present", "I", "PlayStates") (by decide +kernel))) (fun _ h9 => h9) rfl d_PS_redo_17 ?_
  refine lv_iload_n hx hb d_PS_redo_20 rfl (lv_at hl 3 rfl) ?_
  obtain ⟨y1, hy1, h⟩ := o_bind h
  have hPc := hP.sub (ws' := (ws_Rt_findBranch G a_t_table a_t_table_place a_t_table_told a_t_table_before a_t_table_behind x_t_table_count x_t_table_behind)) [2, 5] rfl
  have hDc := hD.sub (ws' := (ws_Rt_findBranch G a_t_table a_t_table_place a_t_table_told a_t_table_before a_t_table_behind x_t_table_count x_t_table_behind)) [2, 5] (by decide) rfl
  have hFc := va_free (wc := (ws_Rt_findBranch G a_t_table a_t_table_place a_t_table_told a_t_table_before a_t_table_behind x_t_table_count x_t_table_behind)) hD hS hA [2, 5] rfl
  refine q_call1 (va_runV (As := [.int x_w_present, .int p1]) (rest := []) ⟨hx, hb, hml, hown, hts⟩ (c_Rt_findBranch l G H.size a_t_table a_t_table_place a_t_table_told a_t_table_before a_t_table_behind fu x_w_present p1 x_t_table_count x_t_table_behind _ hy1) (cwV 2 hts (gV gw_214 gw_215 gw_216 gw_33 gw_217) rfl rfl rfl (by decide +kernel) ⟨Nat.le_of_ble_eq_true rfl, Nat.le_of_ble_eq_true rfl⟩) (pV hK hN hPc hDc (ci := 3) (q0 := 0) rfl rfl) rfl rfl hl.1 rfl (lv_room (Nat.le_of_ble_eq_true rfl)) d_PS_redo_21 ⟨Nat.le_of_ble_eq_true rfl, Nat.le_of_ble_eq_true rfl⟩) hS (fun q _ h => hFc q h) hFc (fun H1 locs hB hz hk hS => ?_)
  obtain ⟨hP, hD⟩ := q_join (wr := [(a_t, .inr (5, [.int x_t_placeCount, .ref a_t_right, .ref a_t_persons, .int x_t_personCount, .ref a_t_table, .ref a_t_joining, .ref a_t_units, .int x_t_unitCount, .ref a_t_draft, .ref a_t_reader])), (a_t_persons, .inl (G.2 3, 8, .inr (.inr (.inr (.inr x_t_persons))))), (a_t_table_place, .inl (G.2 0, 600, .inl x_t_table_place)), (a_t_table_told, .inl (G.2 0, 600, .inl x_t_table_told)), (a_w, .inr (2, [.int x_w_number, .ref a_w_board, .ref a_w_clock, .int x_w_present, .int x_w_helpCount])), (a_w_board, .inr (0, [.ref a_w_board_entries, .ref a_w_board_markBits])), (a_w_board_entries, .inl (G.2 0, n, .inl x_w_board_entries)), (a_w_board_markBits, .inl (G.2 0, n, .inl x_w_board_markBits))]) (wn := (ws_PS_redo G a_t a_t_right a_t_joining a_t_units a_t_draft a_t_reader a_t_persons a_t_table a_t_table_before a_t_table_place a_t_table_told a_t_table_behind a_w a_w_clock a_w_board a_w_board_entries a_w_board_markBits n x_t_placeCount x_t_personCount x_t_unitCount x_t_persons x_t_table_count x_t_table_place x_t_table_told x_t_table_behind x_w_number x_w_present x_w_helpCount x_w_board_entries x_w_board_markBits)) hP hD [2, 5] [0, 1, 3, 4, 6, 7, 8, 9] [0, 1, 8, 2, 3, 9, 4, 5, 6, 7] rfl rfl (by decide) (by decide) rfl (by decide) hk hFc hB.1 hB.2
  generalize H1 = H at hP hS ⊢
  replace hP : va_P G.1 vwCl (ws_PS_redo G a_t a_t_right a_t_joining a_t_units a_t_draft a_t_reader a_t_persons a_t_table a_t_table_before a_t_table_place a_t_table_told a_t_table_behind a_w a_w_clock a_w_board a_w_board_entries a_w_board_markBits n x_t_placeCount x_t_personCount x_t_unitCount x_t_persons x_t_table_count x_t_table_place x_t_table_told x_t_table_behind x_w_number x_w_present x_w_helpCount x_w_board_entries x_w_board_markBits) H := hP
  replace hD : va_D A (ws_PS_redo G a_t a_t_right a_t_joining a_t_units a_t_draft a_t_reader a_t_persons a_t_table a_t_table_before a_t_table_place a_t_table_told a_t_table_behind a_w a_w_clock a_w_board a_w_board_entries a_w_board_markBits n x_t_placeCount x_t_personCount x_t_unitCount x_t_persons x_t_table_count x_t_table_place x_t_table_told x_t_table_behind x_w_number x_w_present x_w_helpCount x_w_board_entries x_w_board_markBits) := hD
  refine lv_istore (lv' := [(4, .int y1), (3, .ref a_w), (0, .ref a_t), (1, .int p0), (2, .int p1)]) hx hb d_PS_redo_24 hl (by decide) rfl (fun ls hl => ?_)
  refine lv_aload_n hx hb d_PS_redo_26 rfl (lv_at hl 2 rfl) ?_
  refine va_get (D := G.1) (ci := 5) (v := .ref a_t_table) (C := "PlayStates") (T := TPS) (N := 10) hx hb hts iw_5 hown hK hP 0 rfl rfl 4 (by decide) (hts _ gw_106) (fun _ h9 => h9) rfl d_PS_redo_27 ?_
  refine lv_iload hx hb d_PS_redo_30 (lv_at hl 0 rfl) ?_
  obtain ⟨y2, hy2, h⟩ := o_bind h
  have hPc := hP.sub (ws' := (ws_Rt_holds G a_t_table a_t_table_place a_t_table_told a_t_table_before a_t_table_behind x_t_table_count)) [2] rfl
  have hDc := hD.sub (ws' := (ws_Rt_holds G a_t_table a_t_table_place a_t_table_told a_t_table_before a_t_table_behind x_t_table_count)) [2] (by decide) rfl
  have hFc := va_free (wc := (ws_Rt_holds G a_t_table a_t_table_place a_t_table_told a_t_table_before a_t_table_behind x_t_table_count)) hD hS hA [2] rfl
  refine q_call1 (va_runV (As := [.int y1]) (rest := []) ⟨hx, hb, hml, hown, hts⟩ (c_Rt_holds l G H.size a_t_table a_t_table_place a_t_table_told a_t_table_before a_t_table_behind y1 x_t_table_count _ hy2) (cwV 1 hts (gV gw_206 gw_207 gw_208 gw_33 gw_209) rfl rfl rfl (by decide +kernel) ⟨Nat.le_of_ble_eq_true rfl, Nat.le_of_ble_eq_true rfl⟩) (pV hK hN hPc hDc (ci := 3) (q0 := 0) rfl rfl) rfl rfl hl.1 rfl (lv_room (Nat.le_of_ble_eq_true rfl)) d_PS_redo_32 ⟨Nat.le_of_ble_eq_true rfl, Nat.le_of_ble_eq_true rfl⟩) hS (fun q _ h => hFc q h) hFc (fun H1 locs hB hz hk hS => ?_)
  obtain ⟨hP, hD⟩ := q_join (wr := [(a_t, .inr (5, [.int x_t_placeCount, .ref a_t_right, .ref a_t_persons, .int x_t_personCount, .ref a_t_table, .ref a_t_joining, .ref a_t_units, .int x_t_unitCount, .ref a_t_draft, .ref a_t_reader])), (a_t_persons, .inl (G.2 3, 8, .inr (.inr (.inr (.inr x_t_persons))))), (a_t_table_place, .inl (G.2 0, 600, .inl x_t_table_place)), (a_t_table_told, .inl (G.2 0, 600, .inl x_t_table_told)), (a_t_table_behind, .inl (G.2 0, 600, .inl x_t_table_behind)), (a_w, .inr (2, [.int x_w_number, .ref a_w_board, .ref a_w_clock, .int x_w_present, .int x_w_helpCount])), (a_w_board, .inr (0, [.ref a_w_board_entries, .ref a_w_board_markBits])), (a_w_board_entries, .inl (G.2 0, n, .inl x_w_board_entries)), (a_w_board_markBits, .inl (G.2 0, n, .inl x_w_board_markBits))]) (wn := (ws_PS_redo G a_t a_t_right a_t_joining a_t_units a_t_draft a_t_reader a_t_persons a_t_table a_t_table_before a_t_table_place a_t_table_told a_t_table_behind a_w a_w_clock a_w_board a_w_board_entries a_w_board_markBits n x_t_placeCount x_t_personCount x_t_unitCount x_t_persons x_t_table_count x_t_table_place x_t_table_told x_t_table_behind x_w_number x_w_present x_w_helpCount x_w_board_entries x_w_board_markBits)) hP hD [2] [0, 1, 3, 4, 5, 6, 7, 8, 9] [0, 1, 9, 2, 3, 4, 5, 6, 7, 8] rfl rfl (by decide) (by decide) rfl (by decide) hk hFc hB.1 hB.2
  generalize H1 = H at hP hS ⊢
  replace hP : va_P G.1 vwCl (ws_PS_redo G a_t a_t_right a_t_joining a_t_units a_t_draft a_t_reader a_t_persons a_t_table a_t_table_before a_t_table_place a_t_table_told a_t_table_behind a_w a_w_clock a_w_board a_w_board_entries a_w_board_markBits n x_t_placeCount x_t_personCount x_t_unitCount x_t_persons x_t_table_count x_t_table_place x_t_table_told x_t_table_behind x_w_number x_w_present x_w_helpCount x_w_board_entries x_w_board_markBits) H := hP
  replace hD : va_D A (ws_PS_redo G a_t a_t_right a_t_joining a_t_units a_t_draft a_t_reader a_t_persons a_t_table a_t_table_before a_t_table_place a_t_table_told a_t_table_behind a_w a_w_clock a_w_board a_w_board_entries a_w_board_markBits n x_t_placeCount x_t_personCount x_t_unitCount x_t_persons x_t_table_count x_t_table_place x_t_table_told x_t_table_behind x_w_number x_w_present x_w_helpCount x_w_board_entries x_w_board_markBits) := hD
  refine lv_if_ne (tgt := 40) hx hb d_PS_redo_35 (by decide) (fun c3 => ?_) (fun c3 => ?_)
  · replace h := (if_neg c3).symm.trans h
    refine lv_aload_n hx hb d_PS_redo_40 rfl (lv_at hl 1 rfl) ?_
    refine va_getN (D := G.1) (ci := 2) (v := .ref a_w_board) (C := "PlayStates$Person") (T := TPn) (N := 5) hx hb hts iw_2 hown hK hP 6 rfl rfl 1 (by decide) (va_Nw.use rfl (hN.1 ("PlayStates", 99, "PlayStates$Person", "board", "LPlayStates$Board;", "PlayStates") (by decide +kernel))) (fun _ h9 => h9) rfl d_PS_redo_41 ?_
    refine lv_aload_n hx hb d_PS_redo_44 rfl (lv_at hl 2 rfl) ?_
    refine va_get (D := G.1) (ci := 5) (v := .ref a_t_table) (C := "PlayStates") (T := TPS) (N := 10) hx hb hts iw_5 hown hK hP 0 rfl rfl 4 (by decide) (hts _ gw_106) (fun _ h9 => h9) rfl d_PS_redo_45 ?_
    refine va_getN (D := G.1) (ci := 3) (v := .ref a_t_table_place) (C := "PlayStates$RowTable") (T := TRt) (N := 5) hx hb hts iw_3 hown hK hP 2 rfl rfl 0 (by decide) (va_Nw.use rfl (hN.1 ("PlayStates", 102, "PlayStates$RowTable", "place", "[I", "PlayStates") (by decide +kernel))) (fun _ h9 => h9) rfl d_PS_redo_48 ?_
    refine lv_iload hx hb d_PS_redo_51 (lv_at hl 0 rfl) ?_
    obtain ⟨i4, h⟩ := o_if h
    refine va_iald (n := 600) (f := x_t_table_place) hx hb hK hP 3 0 rfl rfl i4 d_PS_redo_53 ?_
    refine lv_aload_n hx hb d_PS_redo_54 rfl (lv_at hl 2 rfl) ?_
    refine va_get (D := G.1) (ci := 5) (v := .ref a_t_table) (C := "PlayStates") (T := TPS) (N := 10) hx hb hts iw_5 hown hK hP 0 rfl rfl 4 (by decide) (hts _ gw_106) (fun _ h9 => h9) rfl d_PS_redo_55 ?_
    refine va_getN (D := G.1) (ci := 3) (v := .ref a_t_table_told) (C := "PlayStates$RowTable") (T := TRt) (N := 5) hx hb hts iw_3 hown hK hP 2 rfl rfl 1 (by decide) (va_Nw.use rfl (hN.1 ("PlayStates", 118, "PlayStates$RowTable", "told", "[I", "PlayStates") (by decide +kernel))) (fun _ h9 => h9) rfl d_PS_redo_58 ?_
    refine lv_iload hx hb d_PS_redo_61 (lv_at hl 0 rfl) ?_
    obtain ⟨i5, h⟩ := o_if h
    refine va_iald (n := 600) (f := x_t_table_told) hx hb hK hP 4 0 rfl rfl i5 d_PS_redo_63 ?_
    obtain ⟨y6, hy6, h⟩ := o_bind h
    have hPc := hP.sub (ws' := (ws_Bd_put G a_w_board a_w_board_entries a_w_board_markBits n x_w_board_entries x_w_board_markBits)) [7, 8, 9] rfl
    have hDc := hD.sub (ws' := (ws_Bd_put G a_w_board a_w_board_entries a_w_board_markBits n x_w_board_entries x_w_board_markBits)) [7, 8, 9] (by decide) rfl
    have hFc := va_free (wc := (ws_Bd_put G a_w_board a_w_board_entries a_w_board_markBits n x_w_board_entries x_w_board_markBits)) hD hS hA [7, 8, 9] rfl
    refine q_call0 (va_runV (As := [.int (x_t_table_place y1.toNatClampNeg), .int (x_t_table_told y1.toNatClampNeg)]) (rest := []) ⟨hx, hb, hml, hown, hts⟩ (c_Bd_put l G H.size a_w_board a_w_board_entries a_w_board_markBits n (x_t_table_place y1.toNatClampNeg) (x_t_table_told y1.toNatClampNeg) x_w_board_entries x_w_board_markBits _ _ hy6) (cwV 2 hts (gV gw_191 gw_192 gw_193 gw_34 gw_194) rfl rfl rfl (by decide +kernel) ⟨Nat.le_of_ble_eq_true rfl, Nat.le_of_ble_eq_true rfl⟩) (pV hK hN hPc hDc (ci := 0) (q0 := 0) rfl rfl) rfl rfl hl.1 rfl (lv_room (Nat.le_of_ble_eq_true rfl)) d_PS_redo_64 ⟨Nat.le_of_ble_eq_true rfl, Nat.le_of_ble_eq_true rfl⟩) hS (fun q _ h => hFc q h) hFc (fun H1 locs hB hz hk hS => ?_)
    obtain ⟨hP, hD⟩ := q_join (wr := [(a_t, .inr (5, [.int x_t_placeCount, .ref a_t_right, .ref a_t_persons, .int x_t_personCount, .ref a_t_table, .ref a_t_joining, .ref a_t_units, .int x_t_unitCount, .ref a_t_draft, .ref a_t_reader])), (a_t_persons, .inl (G.2 3, 8, .inr (.inr (.inr (.inr x_t_persons))))), (a_t_table, .inr (3, [.ref a_t_table_place, .ref a_t_table_told, .ref a_t_table_before, .ref a_t_table_behind, .int x_t_table_count])), (a_t_table_place, .inl (G.2 0, 600, .inl x_t_table_place)), (a_t_table_told, .inl (G.2 0, 600, .inl x_t_table_told)), (a_t_table_behind, .inl (G.2 0, 600, .inl x_t_table_behind)), (a_w, .inr (2, [.int x_w_number, .ref a_w_board, .ref a_w_clock, .int x_w_present, .int x_w_helpCount]))]) (wn := (ws_PS_redo G a_t a_t_right a_t_joining a_t_units a_t_draft a_t_reader a_t_persons a_t_table a_t_table_before a_t_table_place a_t_table_told a_t_table_behind a_w a_w_clock a_w_board a_w_board_entries a_w_board_markBits n x_t_placeCount x_t_personCount x_t_unitCount x_t_persons x_t_table_count x_t_table_place x_t_table_told x_t_table_behind x_w_number x_w_present x_w_helpCount y6.1 y6.2)) hP hD [7, 8, 9] [0, 1, 2, 3, 4, 5, 6] [0, 1, 2, 3, 4, 5, 6, 7, 8, 9] rfl rfl (by decide) (by decide) rfl (by decide) hk hFc hB.1 hB.2
    generalize H1 = H at hP hS ⊢
    replace hP : va_P G.1 vwCl (ws_PS_redo G a_t a_t_right a_t_joining a_t_units a_t_draft a_t_reader a_t_persons a_t_table a_t_table_before a_t_table_place a_t_table_told a_t_table_behind a_w a_w_clock a_w_board a_w_board_entries a_w_board_markBits n x_t_placeCount x_t_personCount x_t_unitCount x_t_persons x_t_table_count x_t_table_place x_t_table_told x_t_table_behind x_w_number x_w_present x_w_helpCount y6.1 y6.2) H := hP
    replace hD : va_D A (ws_PS_redo G a_t a_t_right a_t_joining a_t_units a_t_draft a_t_reader a_t_persons a_t_table a_t_table_before a_t_table_place a_t_table_told a_t_table_behind a_w a_w_clock a_w_board a_w_board_entries a_w_board_markBits n x_t_placeCount x_t_personCount x_t_unitCount x_t_persons x_t_table_count x_t_table_place x_t_table_told x_t_table_behind x_w_number x_w_present x_w_helpCount y6.1 y6.2) := hD
    refine lv_aload_n hx hb d_PS_redo_67 rfl (lv_at hl 1 rfl) ?_
    refine lv_iload hx hb d_PS_redo_68 (lv_at hl 0 rfl) ?_
    refine va_putN (D := G.1) (ci := 2) (v := .int y1) (ty := .int) (C := "PlayStates$Person") (T := TPn) (N := 5) hx hb hts iw_2 tyPn tyPn_ok nmPn hown hK hP hD hS 6 rfl rfl 3 (by decide) (va_Nw.use rfl (hN.1 ("PlayStates", 93, "PlayStates$Person", "present", "I", "PlayStates") (by decide +kernel))) (fun _ h9 => h9) rfl (by decide +kernel) (by rfl) (by rfl) (Nat.le_of_ble_eq_true rfl) d_PS_redo_70 (fun H locs hP hD hS => ?_)
    replace hP : va_P G.1 vwCl (ws_PS_redo G a_t a_t_right a_t_joining a_t_units a_t_draft a_t_reader a_t_persons a_t_table a_t_table_before a_t_table_place a_t_table_told a_t_table_behind a_w a_w_clock a_w_board a_w_board_entries a_w_board_markBits n x_t_placeCount x_t_personCount x_t_unitCount x_t_persons x_t_table_count x_t_table_place x_t_table_told x_t_table_behind x_w_number y1 x_w_helpCount y6.1 y6.2) H := hP
    replace hD : va_D A (ws_PS_redo G a_t a_t_right a_t_joining a_t_units a_t_draft a_t_reader a_t_persons a_t_table a_t_table_before a_t_table_place a_t_table_told a_t_table_behind a_w a_w_clock a_w_board a_w_board_entries a_w_board_markBits n x_t_placeCount x_t_personCount x_t_unitCount x_t_persons x_t_table_count x_t_table_place x_t_table_told x_t_table_behind x_w_number y1 x_w_helpCount y6.1 y6.2) := hD
    refine lv_iload hx hb d_PS_redo_73 (lv_at hl 0 rfl) ?_
    cases h
    exact q_iretW hx hb hr hlocks hP hD hS d_PS_redo_75
  · replace h := (if_pos c3).symm.trans h
    refine lv_iconst (v := (-1 : Int32)) hx hb d_PS_redo_38 (by decide) ?_
    cases h
    exact q_iretW hx hb hr hlocks hP hD hS d_PS_redo_39


-- PlayStates.redo(II)I 
def ws_PS_redo_no (G : gG) (a_t a_t_right a_t_table a_t_joining a_t_units a_t_draft a_t_reader a_t_persons : Nat)  (x_t_placeCount : Int32) (x_t_personCount : Int32) (x_t_unitCount : Int32) (x_t_persons : Nat → Option Nat) : va_W := [(a_t, .inr (5, [.int x_t_placeCount, .ref a_t_right, .ref a_t_persons, .int x_t_personCount, .ref a_t_table, .ref a_t_joining, .ref a_t_units, .int x_t_unitCount, .ref a_t_draft, .ref a_t_reader])), (a_t_persons, .inl (G.2 3, 8, .inr (.inr (.inr (.inr x_t_persons)))))]
def f_PS_redo_no  (p0 : Int32) (p1 : Int32) (x_t_placeCount : Int32) (x_t_personCount : Int32) (x_t_unitCount : Int32) (x_t_persons : Nat → Option Nat) : Option (Int32) :=
  some (-1 : Int32)
set_option maxHeartbeats 4000000 in
set_option maxRecDepth 100000 in
theorem c_PS_redo_no (l : Launch) (G : gG) (sz : Nat) (a_t a_t_right a_t_table a_t_joining a_t_units a_t_draft a_t_reader a_t_persons : Nat)  (p0 : Int32) (p1 : Int32) (x_t_placeCount : Int32) (x_t_personCount : Int32) (x_t_unitCount : Int32) (x_t_persons : Nat → Option Nat) (r : Int32) (h : f_PS_redo_no p0 p1 x_t_placeCount x_t_personCount x_t_unitCount x_t_persons = some r)  (hw : f_PS_find p0 x_t_placeCount x_t_personCount x_t_unitCount x_t_persons = some none) : cN l y_PS_redo w_PS_redo { frames := 1, cells := 0, slots := 0, locals := 21 } G sz [.ref a_t, .int p0, .int p1] (ws_PS_redo_no G a_t a_t_right a_t_table a_t_joining a_t_units a_t_draft a_t_reader a_t_persons x_t_placeCount x_t_personCount x_t_unitCount x_t_persons) (some (.int r)) (wB G (ws_PS_redo_no G a_t a_t_right a_t_table a_t_joining a_t_units a_t_draft a_t_reader a_t_persons x_t_placeCount x_t_personCount x_t_unitCount x_t_persons)) 0 0 := by
  refine cN_ofW (cc := prog_1_method_6_code) (maxL := 5) (ret := (some .int)) (by decide) rfl (Nat.le_of_ble_eq_true rfl) ?_
  intro p e s m args below meth c A H locs ls hx hb hr hts hown hlocks hin hml hK hN hP hD hA hS hl
  replace hl : lv_has ls 5 [(0, .ref a_t), (1, .int p0), (2, .int p1)] := hl
  replace hown : s.vm.findClass "PlayStates" = some m.cls := hown
  unfold f_PS_redo_no at h
  refine lv_aload_n hx hb d_PS_redo_0 rfl (lv_at hl 0 rfl) ?_
  refine lv_iload_n hx hb d_PS_redo_1 rfl (lv_at hl 1 rfl) ?_
  have hPc := hP.sub (ws' := (ws_PS_find G a_t a_t_right a_t_table a_t_joining a_t_units a_t_draft a_t_reader a_t_persons x_t_placeCount x_t_personCount x_t_unitCount x_t_persons)) [0, 1] rfl
  have hDc := hD.sub (ws' := (ws_PS_find G a_t a_t_right a_t_table a_t_joining a_t_units a_t_draft a_t_reader a_t_persons x_t_placeCount x_t_personCount x_t_unitCount x_t_persons)) [0, 1] (by decide) rfl
  have hFc := va_free (wc := (ws_PS_find G a_t a_t_right a_t_table a_t_joining a_t_units a_t_draft a_t_reader a_t_persons x_t_placeCount x_t_personCount x_t_unitCount x_t_persons)) hD hS hA [0, 1] rfl
  refine q_call1 (va_runV (As := [.int p0]) (rest := []) ⟨hx, hb, hml, hown, hts⟩ (c_PS_find l G H.size a_t a_t_right a_t_table a_t_joining a_t_units a_t_draft a_t_reader a_t_persons p0 x_t_placeCount x_t_personCount x_t_unitCount x_t_persons _ hw) (cwV 1 hts (gV gw_163 gw_164 gw_2 gw_31 gw_165) rfl rfl rfl (by decide +kernel) ⟨Nat.le_of_ble_eq_true rfl, Nat.le_of_ble_eq_true rfl⟩) (pV hK hN hPc hDc (ci := 5) (q0 := 0) rfl rfl) rfl rfl hl.1 rfl (lv_room (Nat.le_of_ble_eq_true rfl)) d_PS_redo_2 ⟨Nat.le_of_ble_eq_true rfl, Nat.le_of_ble_eq_true rfl⟩) hS (fun q _ h => hFc q h) hFc (fun H1 locs hB hz hk hS => ?_)
  obtain ⟨hP, hD⟩ := q_joinA hFc hB.1 hB.2
  generalize H1 = H at hP hS ⊢
  replace hP : va_P G.1 vwCl (ws_PS_redo_no G a_t a_t_right a_t_table a_t_joining a_t_units a_t_draft a_t_reader a_t_persons x_t_placeCount x_t_personCount x_t_unitCount x_t_persons) H := hP
  replace hD : va_D A (ws_PS_redo_no G a_t a_t_right a_t_table a_t_joining a_t_units a_t_draft a_t_reader a_t_persons x_t_placeCount x_t_personCount x_t_unitCount x_t_persons) := hD
  refine lv_astore_nN (lv' := [(3, .null), (0, .ref a_t), (1, .int p0), (2, .int p1)]) hx hb d_PS_redo_5 rfl hl (by decide) rfl (fun ls hl => ?_)
  refine lv_aload_nN hx hb d_PS_redo_6 rfl (lv_at hl 0 rfl) ?_
  refine lv_ifnonnullN hx hb d_PS_redo_7 ?_
  refine lv_iconst (v := (-1 : Int32)) hx hb d_PS_redo_10 (by decide) ?_
  cases h
  exact q_iretW hx hb hr hlocks hP hD hS d_PS_redo_11

theorem gw_251 : (.code ⟨"PlayStates", "findPlaceToHelp", "(LPlayStates$Board;)I"⟩ prog_1_method_29_code 3 (some .int) : Cond) ∈ GW := gT 278 (by decide +kernel) (by decide +kernel)
theorem gw_249 : (.methodLink "PlayStates" 135 ⟨"PlayStates", "findPlaceToHelp", "(LPlayStates$Board;)I"⟩ : Cond) ∈ GW := gT 275 (by decide +kernel) (by decide +kernel)
theorem gw_250 : (.instanceMethod ⟨"PlayStates", "findPlaceToHelp", "(LPlayStates$Board;)I"⟩ : Cond) ∈ GW := gT 277 (by decide +kernel) (by decide +kernel)
theorem gw_5 : (.selects "PlayStates" ⟨"PlayStates", "findPlaceToHelp", "(LPlayStates$Board;)I"⟩ ⟨"PlayStates", "findPlaceToHelp", "(LPlayStates$Board;)I"⟩ : Cond) ∈ GW := gP 5 (by decide +kernel) (by decide +kernel)
theorem d_PS_help_0 : decode prog_1_method_12_code 0 = .ok (.aload_n 0, 1) := by decide +kernel
theorem d_PS_help_1 : decode prog_1_method_12_code 1 = .ok (.iload_n 1, 1) := by decide +kernel
theorem d_PS_help_2 : decode prog_1_method_12_code 2 = .ok (.invokevirtual 75, 3) := by decide +kernel
theorem d_PS_help_5 : decode prog_1_method_12_code 5 = .ok (.astore_n 2, 1) := by decide +kernel
theorem d_PS_help_6 : decode prog_1_method_12_code 6 = .ok (.aload_n 2, 1) := by decide +kernel
theorem d_PS_help_7 : decode prog_1_method_12_code 7 = .ok (.ifnonnull 5, 3) := by decide +kernel
theorem d_PS_help_10 : decode prog_1_method_12_code 10 = .ok (.iconst (-1), 1) := by decide +kernel
theorem d_PS_help_11 : decode prog_1_method_12_code 11 = .ok (.ireturn, 1) := by decide +kernel
theorem d_PS_help_12 : decode prog_1_method_12_code 12 = .ok (.aload_n 0, 1) := by decide +kernel
theorem d_PS_help_13 : decode prog_1_method_12_code 13 = .ok (.aload_n 2, 1) := by decide +kernel
theorem d_PS_help_14 : decode prog_1_method_12_code 14 = .ok (.getfield 99, 3) := by decide +kernel
theorem d_PS_help_17 : decode prog_1_method_12_code 17 = .ok (.invokevirtual 135, 3) := by decide +kernel
theorem d_PS_help_20 : decode prog_1_method_12_code 20 = .ok (.istore_n 3, 1) := by decide +kernel
theorem d_PS_help_21 : decode prog_1_method_12_code 21 = .ok (.aload_n 0, 1) := by decide +kernel
theorem d_PS_help_22 : decode prog_1_method_12_code 22 = .ok (.iload_n 3, 1) := by decide +kernel
theorem d_PS_help_23 : decode prog_1_method_12_code 23 = .ok (.invokevirtual 79, 3) := by decide +kernel
theorem d_PS_help_26 : decode prog_1_method_12_code 26 = .ok (.ifCond .eq 19, 3) := by decide +kernel
theorem d_PS_help_29 : decode prog_1_method_12_code 29 = .ok (.aload_n 0, 1) := by decide +kernel
theorem d_PS_help_30 : decode prog_1_method_12_code 30 = .ok (.aload_n 2, 1) := by decide +kernel
theorem d_PS_help_31 : decode prog_1_method_12_code 31 = .ok (.iload_n 3, 1) := by decide +kernel
theorem d_PS_help_32 : decode prog_1_method_12_code 32 = .ok (.aload_n 0, 1) := by decide +kernel
theorem d_PS_help_33 : decode prog_1_method_12_code 33 = .ok (.getfield 22, 3) := by decide +kernel
theorem d_PS_help_36 : decode prog_1_method_12_code 36 = .ok (.iload_n 3, 1) := by decide +kernel
theorem d_PS_help_37 : decode prog_1_method_12_code 37 = .ok (.iaload, 1) := by decide +kernel
theorem d_PS_help_38 : decode prog_1_method_12_code 38 = .ok (.invokevirtual 86, 3) := by decide +kernel
theorem d_PS_help_41 : decode prog_1_method_12_code 41 = .ok (.iconst (-1), 1) := by decide +kernel
theorem d_PS_help_42 : decode prog_1_method_12_code 42 = .ok (.if_icmp .ne 5, 3) := by decide +kernel
theorem d_PS_help_45 : decode prog_1_method_12_code 45 = .ok (.iconst (-1), 1) := by decide +kernel
theorem d_PS_help_46 : decode prog_1_method_12_code 46 = .ok (.ireturn, 1) := by decide +kernel
theorem d_PS_help_47 : decode prog_1_method_12_code 47 = .ok (.aload_n 2, 1) := by decide +kernel
theorem d_PS_help_48 : decode prog_1_method_12_code 48 = .ok (.dup, 1) := by decide +kernel
theorem d_PS_help_49 : decode prog_1_method_12_code 49 = .ok (.getfield 139, 3) := by decide +kernel
theorem d_PS_help_52 : decode prog_1_method_12_code 52 = .ok (.iconst 1, 1) := by decide +kernel
theorem d_PS_help_53 : decode prog_1_method_12_code 53 = .ok (.iadd, 1) := by decide +kernel
theorem d_PS_help_54 : decode prog_1_method_12_code 54 = .ok (.putfield 139, 3) := by decide +kernel
theorem d_PS_help_57 : decode prog_1_method_12_code 57 = .ok (.iload_n 3, 1) := by decide +kernel
theorem d_PS_help_58 : decode prog_1_method_12_code 58 = .ok (.ireturn, 1) := by decide +kernel
-- PlayStates.help(I)I 
def ws_PS_help (G : gG) (a_t a_t_joining a_t_units a_t_draft a_t_reader a_t_right a_t_persons a_t_table a_t_table_place a_t_table_told a_t_table_before a_t_table_behind a_w a_w_clock a_w_board a_w_board_entries a_w_board_markBits : Nat) (n : Nat) (x_t_placeCount : Int32) (x_t_personCount : Int32) (x_t_unitCount : Int32) (x_t_right : Nat → Int32) (x_t_persons : Nat → Option Nat) (x_t_table_count : Int32) (x_t_table_place : Nat → Int32) (x_t_table_told : Nat → Int32) (x_t_table_before : Nat → Int32) (x_t_table_behind : Nat → Int32) (x_w_number : Int32) (x_w_present : Int32) (x_w_helpCount : Int32) (x_w_board_entries : Nat → Int32) (x_w_board_markBits : Nat → Int32) : va_W := [(a_t, .inr (5, [.int x_t_placeCount, .ref a_t_right, .ref a_t_persons, .int x_t_personCount, .ref a_t_table, .ref a_t_joining, .ref a_t_units, .int x_t_unitCount, .ref a_t_draft, .ref a_t_reader])), (a_t_right, .inl (G.2 0, n, .inl x_t_right)), (a_t_persons, .inl (G.2 3, 8, .inr (.inr (.inr (.inr x_t_persons))))), (a_t_table, .inr (3, [.ref a_t_table_place, .ref a_t_table_told, .ref a_t_table_before, .ref a_t_table_behind, .int x_t_table_count])), (a_t_table_place, .inl (G.2 0, 600, .inl x_t_table_place)), (a_t_table_told, .inl (G.2 0, 600, .inl x_t_table_told)), (a_t_table_before, .inl (G.2 0, 600, .inl x_t_table_before)), (a_t_table_behind, .inl (G.2 0, 600, .inl x_t_table_behind)), (a_w, .inr (2, [.int x_w_number, .ref a_w_board, .ref a_w_clock, .int x_w_present, .int x_w_helpCount])), (a_w_board, .inr (0, [.ref a_w_board_entries, .ref a_w_board_markBits])), (a_w_board_entries, .inl (G.2 0, n, .inl x_w_board_entries)), (a_w_board_markBits, .inl (G.2 0, n, .inl x_w_board_markBits))]
def f_PS_help (fu : Nat) (n : Nat) (p0 : Int32) (x_t_placeCount : Int32) (x_t_personCount : Int32) (x_t_unitCount : Int32) (x_t_right : Nat → Int32) (x_t_persons : Nat → Option Nat) (x_t_table_count : Int32) (x_t_table_place : Nat → Int32) (x_t_table_told : Nat → Int32) (x_t_table_before : Nat → Int32) (x_t_table_behind : Nat → Int32) (x_w_number : Int32) (x_w_present : Int32) (x_w_helpCount : Int32) (x_w_board_entries : Nat → Int32) (x_w_board_markBits : Nat → Int32) : Option (Int32 × Int32 × (Nat → Int32) × (Nat → Int32) × (Nat → Int32) × (Nat → Int32) × Int32 × Int32 × (Nat → Int32) × (Nat → Int32)) :=
  ((f_PS_findPlaceToHelp fu n x_t_placeCount x_t_personCount x_t_unitCount x_t_right x_w_board_entries).bind fun y1 => ((f_PS_isPlace y1 x_t_placeCount x_t_personCount x_t_unitCount).bind fun y2 => (if y2 = 0 then some ((-1 : Int32), x_t_table_count, x_t_table_place, x_t_table_told, x_t_table_before, x_t_table_behind, x_w_present, x_w_helpCount, x_w_board_entries, x_w_board_markBits) else (if inB y1 n then ((f_PS_tell n y1 (x_t_right y1.toNatClampNeg) x_t_placeCount x_t_personCount x_t_unitCount x_t_table_count x_t_table_place x_t_table_told x_t_table_before x_t_table_behind x_w_number x_w_present x_w_helpCount x_w_board_entries x_w_board_markBits).bind fun y5 => (if y5.1 = (-1 : Int32) then some ((-1 : Int32), y5.2.1, y5.2.2.1, y5.2.2.2.1, y5.2.2.2.2.1, y5.2.2.2.2.2.1, y5.2.2.2.2.2.2.1, x_w_helpCount, y5.2.2.2.2.2.2.2.1, y5.2.2.2.2.2.2.2.2) else some (y1, y5.2.1, y5.2.2.1, y5.2.2.2.1, y5.2.2.2.2.1, y5.2.2.2.2.2.1, y5.2.2.2.2.2.2.1, (x_w_helpCount + (1 : Int32)), y5.2.2.2.2.2.2.2.1, y5.2.2.2.2.2.2.2.2))) else none))))
set_option maxHeartbeats 4000000 in
set_option maxRecDepth 100000 in
theorem c_PS_help (l : Launch) (G : gG) (sz : Nat) (a_t a_t_joining a_t_units a_t_draft a_t_reader a_t_right a_t_persons a_t_table a_t_table_place a_t_table_told a_t_table_before a_t_table_behind a_w a_w_clock a_w_board a_w_board_entries a_w_board_markBits : Nat) (fu : Nat) (n : Nat) (p0 : Int32) (x_t_placeCount : Int32) (x_t_personCount : Int32) (x_t_unitCount : Int32) (x_t_right : Nat → Int32) (x_t_persons : Nat → Option Nat) (x_t_table_count : Int32) (x_t_table_place : Nat → Int32) (x_t_table_told : Nat → Int32) (x_t_table_before : Nat → Int32) (x_t_table_behind : Nat → Int32) (x_w_number : Int32) (x_w_present : Int32) (x_w_helpCount : Int32) (x_w_board_entries : Nat → Int32) (x_w_board_markBits : Nat → Int32) (r : Int32) (x_t_table_count' : Int32) (x_t_table_place' : Nat → Int32) (x_t_table_told' : Nat → Int32) (x_t_table_before' : Nat → Int32) (x_t_table_behind' : Nat → Int32) (x_w_present' : Int32) (x_w_helpCount' : Int32) (x_w_board_entries' : Nat → Int32) (x_w_board_markBits' : Nat → Int32) (h : f_PS_help fu n p0 x_t_placeCount x_t_personCount x_t_unitCount x_t_right x_t_persons x_t_table_count x_t_table_place x_t_table_told x_t_table_before x_t_table_behind x_w_number x_w_present x_w_helpCount x_w_board_entries x_w_board_markBits = some (r, x_t_table_count', x_t_table_place', x_t_table_told', x_t_table_before', x_t_table_behind', x_w_present', x_w_helpCount', x_w_board_entries', x_w_board_markBits'))  (hw : f_PS_find p0 x_t_placeCount x_t_personCount x_t_unitCount x_t_persons = some (some a_w)) : cN l y_PS_help w_PS_help { frames := 3, cells := 0, slots := 0, locals := 69 } G sz [.ref a_t, .int p0] (ws_PS_help G a_t a_t_joining a_t_units a_t_draft a_t_reader a_t_right a_t_persons a_t_table a_t_table_place a_t_table_told a_t_table_before a_t_table_behind a_w a_w_clock a_w_board a_w_board_entries a_w_board_markBits n x_t_placeCount x_t_personCount x_t_unitCount x_t_right x_t_persons x_t_table_count x_t_table_place x_t_table_told x_t_table_before x_t_table_behind x_w_number x_w_present x_w_helpCount x_w_board_entries x_w_board_markBits) (some (.int r)) (wB G (ws_PS_help G a_t a_t_joining a_t_units a_t_draft a_t_reader a_t_right a_t_persons a_t_table a_t_table_place a_t_table_told a_t_table_before a_t_table_behind a_w a_w_clock a_w_board a_w_board_entries a_w_board_markBits n x_t_placeCount x_t_personCount x_t_unitCount x_t_right x_t_persons x_t_table_count' x_t_table_place' x_t_table_told' x_t_table_before' x_t_table_behind' x_w_number x_w_present' x_w_helpCount' x_w_board_entries' x_w_board_markBits')) 0 0 := by
  refine cN_ofW (cc := prog_1_method_12_code) (maxL := 4) (ret := (some .int)) (by decide) rfl (Nat.le_of_ble_eq_true rfl) ?_
  intro p e s m args below meth c A H locs ls hx hb hr hts hown hlocks hin hml hK hN hP hD hA hS hl
  replace hl : lv_has ls 4 [(0, .ref a_t), (1, .int p0)] := hl
  replace hown : s.vm.findClass "PlayStates" = some m.cls := hown
  unfold f_PS_help at h
  refine lv_aload_n hx hb d_PS_help_0 rfl (lv_at hl 0 rfl) ?_
  refine lv_iload_n hx hb d_PS_help_1 rfl (lv_at hl 1 rfl) ?_
  have hPc := hP.sub (ws' := (ws_PS_find G a_t a_t_right a_t_table a_t_joining a_t_units a_t_draft a_t_reader a_t_persons x_t_placeCount x_t_personCount x_t_unitCount x_t_persons)) [0, 2] rfl
  have hDc := hD.sub (ws' := (ws_PS_find G a_t a_t_right a_t_table a_t_joining a_t_units a_t_draft a_t_reader a_t_persons x_t_placeCount x_t_personCount x_t_unitCount x_t_persons)) [0, 2] (by decide) rfl
  have hFc := va_free (wc := (ws_PS_find G a_t a_t_right a_t_table a_t_joining a_t_units a_t_draft a_t_reader a_t_persons x_t_placeCount x_t_personCount x_t_unitCount x_t_persons)) hD hS hA [0, 2] rfl
  refine q_call1 (va_runV (As := [.int p0]) (rest := []) ⟨hx, hb, hml, hown, hts⟩ (c_PS_find l G H.size a_t a_t_right a_t_table a_t_joining a_t_units a_t_draft a_t_reader a_t_persons p0 x_t_placeCount x_t_personCount x_t_unitCount x_t_persons _ hw) (cwV 1 hts (gV gw_163 gw_164 gw_2 gw_31 gw_165) rfl rfl rfl (by decide +kernel) ⟨Nat.le_of_ble_eq_true rfl, Nat.le_of_ble_eq_true rfl⟩) (pV hK hN hPc hDc (ci := 5) (q0 := 0) rfl rfl) rfl rfl hl.1 rfl (lv_room (Nat.le_of_ble_eq_true rfl)) d_PS_help_2 ⟨Nat.le_of_ble_eq_true rfl, Nat.le_of_ble_eq_true rfl⟩) hS (fun q _ h => hFc q h) hFc (fun H1 locs hB hz hk hS => ?_)
  obtain ⟨hP, hD⟩ := q_join (wr := [(a_t_right, .inl (G.2 0, n, .inl x_t_right)), (a_t_table, .inr (3, [.ref a_t_table_place, .ref a_t_table_told, .ref a_t_table_before, .ref a_t_table_behind, .int x_t_table_count])), (a_t_table_place, .inl (G.2 0, 600, .inl x_t_table_place)), (a_t_table_told, .inl (G.2 0, 600, .inl x_t_table_told)), (a_t_table_before, .inl (G.2 0, 600, .inl x_t_table_before)), (a_t_table_behind, .inl (G.2 0, 600, .inl x_t_table_behind)), (a_w, .inr (2, [.int x_w_number, .ref a_w_board, .ref a_w_clock, .int x_w_present, .int x_w_helpCount])), (a_w_board, .inr (0, [.ref a_w_board_entries, .ref a_w_board_markBits])), (a_w_board_entries, .inl (G.2 0, n, .inl x_w_board_entries)), (a_w_board_markBits, .inl (G.2 0, n, .inl x_w_board_markBits))]) (wn := (ws_PS_help G a_t a_t_joining a_t_units a_t_draft a_t_reader a_t_right a_t_persons a_t_table a_t_table_place a_t_table_told a_t_table_before a_t_table_behind a_w a_w_clock a_w_board a_w_board_entries a_w_board_markBits n x_t_placeCount x_t_personCount x_t_unitCount x_t_right x_t_persons x_t_table_count x_t_table_place x_t_table_told x_t_table_before x_t_table_behind x_w_number x_w_present x_w_helpCount x_w_board_entries x_w_board_markBits)) hP hD [0, 2] [1, 3, 4, 5, 6, 7, 8, 9, 10, 11] [10, 0, 11, 1, 2, 3, 4, 5, 6, 7, 8, 9] rfl rfl (by decide) (by decide) rfl (by decide) hk hFc hB.1 hB.2
  generalize H1 = H at hP hS ⊢
  replace hP : va_P G.1 vwCl (ws_PS_help G a_t a_t_joining a_t_units a_t_draft a_t_reader a_t_right a_t_persons a_t_table a_t_table_place a_t_table_told a_t_table_before a_t_table_behind a_w a_w_clock a_w_board a_w_board_entries a_w_board_markBits n x_t_placeCount x_t_personCount x_t_unitCount x_t_right x_t_persons x_t_table_count x_t_table_place x_t_table_told x_t_table_before x_t_table_behind x_w_number x_w_present x_w_helpCount x_w_board_entries x_w_board_markBits) H := hP
  replace hD : va_D A (ws_PS_help G a_t a_t_joining a_t_units a_t_draft a_t_reader a_t_right a_t_persons a_t_table a_t_table_place a_t_table_told a_t_table_before a_t_table_behind a_w a_w_clock a_w_board a_w_board_entries a_w_board_markBits n x_t_placeCount x_t_personCount x_t_unitCount x_t_right x_t_persons x_t_table_count x_t_table_place x_t_table_told x_t_table_before x_t_table_behind x_w_number x_w_present x_w_helpCount x_w_board_entries x_w_board_markBits) := hD
  refine lv_astore_n (lv' := [(2, .ref a_w), (0, .ref a_t), (1, .int p0)]) hx hb d_PS_help_5 rfl hl (by decide) rfl (fun ls hl => ?_)
  refine lv_aload_n hx hb d_PS_help_6 rfl (lv_at hl 0 rfl) ?_
  refine lv_ifnonnull (tgt := 12) hx hb d_PS_help_7 (by decide) ?_
  refine lv_aload_n hx hb d_PS_help_12 rfl (lv_at hl 1 rfl) ?_
  refine lv_aload_n hx hb d_PS_help_13 rfl (lv_at hl 0 rfl) ?_
  refine va_getN (D := G.1) (ci := 2) (v := .ref a_w_board) (C := "PlayStates$Person") (T := TPn) (N := 5) hx hb hts iw_2 hown hK hP 8 rfl rfl 1 (by decide) (va_Nw.use rfl (hN.1 ("PlayStates", 99, "PlayStates$Person", "board", "LPlayStates$Board;", "PlayStates") (by decide +kernel))) (fun _ h9 => h9) rfl d_PS_help_14 ?_
  obtain ⟨y1, hy1, h⟩ := o_bind h
  have hPc := hP.sub (ws' := (ws_PS_findPlaceToHelp G a_t a_t_persons a_t_table a_t_joining a_t_units a_t_draft a_t_reader a_t_right a_w_board a_w_board_markBits a_w_board_entries n x_t_placeCount x_t_personCount x_t_unitCount x_t_right x_w_board_entries)) [0, 1, 9, 10] rfl
  have hDc := hD.sub (ws' := (ws_PS_findPlaceToHelp G a_t a_t_persons a_t_table a_t_joining a_t_units a_t_draft a_t_reader a_t_right a_w_board a_w_board_markBits a_w_board_entries n x_t_placeCount x_t_personCount x_t_unitCount x_t_right x_w_board_entries)) [0, 1, 9, 10] (by decide) rfl
  have hFc := va_free (wc := (ws_PS_findPlaceToHelp G a_t a_t_persons a_t_table a_t_joining a_t_units a_t_draft a_t_reader a_t_right a_w_board a_w_board_markBits a_w_board_entries n x_t_placeCount x_t_personCount x_t_unitCount x_t_right x_w_board_entries)) hD hS hA [0, 1, 9, 10] rfl
  refine q_call1 (va_runV (As := [.ref a_w_board]) (rest := []) ⟨hx, hb, hml, hown, hts⟩ (c_PS_findPlaceToHelp l G H.size a_t a_t_persons a_t_table a_t_joining a_t_units a_t_draft a_t_reader a_t_right a_w_board a_w_board_markBits a_w_board_entries fu n x_t_placeCount x_t_personCount x_t_unitCount x_t_right x_w_board_entries _ hy1) (cwV 1 hts (gV gw_249 gw_250 gw_5 gw_31 gw_251) rfl rfl rfl (by decide +kernel) ⟨Nat.le_of_ble_eq_true rfl, Nat.le_of_ble_eq_true rfl⟩) (pV hK hN hPc hDc (ci := 5) (q0 := 0) rfl rfl) rfl rfl hl.1 rfl (lv_room (Nat.le_of_ble_eq_true rfl)) d_PS_help_17 ⟨Nat.le_of_ble_eq_true rfl, Nat.le_of_ble_eq_true rfl⟩) hS (fun q _ h => hFc q h) hFc (fun H1 locs hB hz hk hS => ?_)
  obtain ⟨hP, hD⟩ := q_join (wr := [(a_t_persons, .inl (G.2 3, 8, .inr (.inr (.inr (.inr x_t_persons))))), (a_t_table, .inr (3, [.ref a_t_table_place, .ref a_t_table_told, .ref a_t_table_before, .ref a_t_table_behind, .int x_t_table_count])), (a_t_table_place, .inl (G.2 0, 600, .inl x_t_table_place)), (a_t_table_told, .inl (G.2 0, 600, .inl x_t_table_told)), (a_t_table_before, .inl (G.2 0, 600, .inl x_t_table_before)), (a_t_table_behind, .inl (G.2 0, 600, .inl x_t_table_behind)), (a_w, .inr (2, [.int x_w_number, .ref a_w_board, .ref a_w_clock, .int x_w_present, .int x_w_helpCount])), (a_w_board_markBits, .inl (G.2 0, n, .inl x_w_board_markBits))]) (wn := (ws_PS_help G a_t a_t_joining a_t_units a_t_draft a_t_reader a_t_right a_t_persons a_t_table a_t_table_place a_t_table_told a_t_table_before a_t_table_behind a_w a_w_clock a_w_board a_w_board_entries a_w_board_markBits n x_t_placeCount x_t_personCount x_t_unitCount x_t_right x_t_persons x_t_table_count x_t_table_place x_t_table_told x_t_table_before x_t_table_behind x_w_number x_w_present x_w_helpCount x_w_board_entries x_w_board_markBits)) hP hD [0, 1, 9, 10] [2, 3, 4, 5, 6, 7, 8, 11] [8, 9, 0, 1, 2, 3, 4, 5, 6, 10, 11, 7] rfl rfl (by decide) (by decide) rfl (by decide) hk hFc hB.1 hB.2
  generalize H1 = H at hP hS ⊢
  replace hP : va_P G.1 vwCl (ws_PS_help G a_t a_t_joining a_t_units a_t_draft a_t_reader a_t_right a_t_persons a_t_table a_t_table_place a_t_table_told a_t_table_before a_t_table_behind a_w a_w_clock a_w_board a_w_board_entries a_w_board_markBits n x_t_placeCount x_t_personCount x_t_unitCount x_t_right x_t_persons x_t_table_count x_t_table_place x_t_table_told x_t_table_before x_t_table_behind x_w_number x_w_present x_w_helpCount x_w_board_entries x_w_board_markBits) H := hP
  replace hD : va_D A (ws_PS_help G a_t a_t_joining a_t_units a_t_draft a_t_reader a_t_right a_t_persons a_t_table a_t_table_place a_t_table_told a_t_table_before a_t_table_behind a_w a_w_clock a_w_board a_w_board_entries a_w_board_markBits n x_t_placeCount x_t_personCount x_t_unitCount x_t_right x_t_persons x_t_table_count x_t_table_place x_t_table_told x_t_table_before x_t_table_behind x_w_number x_w_present x_w_helpCount x_w_board_entries x_w_board_markBits) := hD
  refine lv_istore_n (lv' := [(3, .int y1), (2, .ref a_w), (0, .ref a_t), (1, .int p0)]) hx hb d_PS_help_20 rfl hl (by decide) rfl (fun ls hl => ?_)
  refine lv_aload_n hx hb d_PS_help_21 rfl (lv_at hl 2 rfl) ?_
  refine lv_iload_n hx hb d_PS_help_22 rfl (lv_at hl 0 rfl) ?_
  obtain ⟨y2, hy2, h⟩ := o_bind h
  have hPc := hP.sub (ws' := (ws_PS_isPlace G a_t a_t_right a_t_persons a_t_table a_t_joining a_t_units a_t_draft a_t_reader x_t_placeCount x_t_personCount x_t_unitCount)) [0] rfl
  have hDc := hD.sub (ws' := (ws_PS_isPlace G a_t a_t_right a_t_persons a_t_table a_t_joining a_t_units a_t_draft a_t_reader x_t_placeCount x_t_personCount x_t_unitCount)) [0] (by decide) rfl
  have hFc := va_free (wc := (ws_PS_isPlace G a_t a_t_right a_t_persons a_t_table a_t_joining a_t_units a_t_draft a_t_reader x_t_placeCount x_t_personCount x_t_unitCount)) hD hS hA [0] rfl
  refine q_call1 (va_runV (As := [.int y1]) (rest := []) ⟨hx, hb, hml, hown, hts⟩ (c_PS_isPlace l G H.size a_t a_t_right a_t_persons a_t_table a_t_joining a_t_units a_t_draft a_t_reader y1 x_t_placeCount x_t_personCount x_t_unitCount _ hy2) (cwV 1 hts (gV gw_166 gw_167 gw_3 gw_31 gw_168) rfl rfl rfl (by decide +kernel) ⟨Nat.le_of_ble_eq_true rfl, Nat.le_of_ble_eq_true rfl⟩) (pV hK hN hPc hDc (ci := 5) (q0 := 0) rfl rfl) rfl rfl hl.1 rfl (lv_room (Nat.le_of_ble_eq_true rfl)) d_PS_help_23 ⟨Nat.le_of_ble_eq_true rfl, Nat.le_of_ble_eq_true rfl⟩) hS (fun q _ h => hFc q h) hFc (fun H1 locs hB hz hk hS => ?_)
  obtain ⟨hP, hD⟩ := q_join (wr := [(a_t_right, .inl (G.2 0, n, .inl x_t_right)), (a_t_persons, .inl (G.2 3, 8, .inr (.inr (.inr (.inr x_t_persons))))), (a_t_table, .inr (3, [.ref a_t_table_place, .ref a_t_table_told, .ref a_t_table_before, .ref a_t_table_behind, .int x_t_table_count])), (a_t_table_place, .inl (G.2 0, 600, .inl x_t_table_place)), (a_t_table_told, .inl (G.2 0, 600, .inl x_t_table_told)), (a_t_table_before, .inl (G.2 0, 600, .inl x_t_table_before)), (a_t_table_behind, .inl (G.2 0, 600, .inl x_t_table_behind)), (a_w, .inr (2, [.int x_w_number, .ref a_w_board, .ref a_w_clock, .int x_w_present, .int x_w_helpCount])), (a_w_board, .inr (0, [.ref a_w_board_entries, .ref a_w_board_markBits])), (a_w_board_entries, .inl (G.2 0, n, .inl x_w_board_entries)), (a_w_board_markBits, .inl (G.2 0, n, .inl x_w_board_markBits))]) (wn := (ws_PS_help G a_t a_t_joining a_t_units a_t_draft a_t_reader a_t_right a_t_persons a_t_table a_t_table_place a_t_table_told a_t_table_before a_t_table_behind a_w a_w_clock a_w_board a_w_board_entries a_w_board_markBits n x_t_placeCount x_t_personCount x_t_unitCount x_t_right x_t_persons x_t_table_count x_t_table_place x_t_table_told x_t_table_before x_t_table_behind x_w_number x_w_present x_w_helpCount x_w_board_entries x_w_board_markBits)) hP hD [0] [1, 2, 3, 4, 5, 6, 7, 8, 9, 10, 11] [11, 0, 1, 2, 3, 4, 5, 6, 7, 8, 9, 10] rfl rfl (by decide) (by decide) rfl (by decide) hk hFc hB.1 hB.2
  generalize H1 = H at hP hS ⊢
  replace hP : va_P G.1 vwCl (ws_PS_help G a_t a_t_joining a_t_units a_t_draft a_t_reader a_t_right a_t_persons a_t_table a_t_table_place a_t_table_told a_t_table_before a_t_table_behind a_w a_w_clock a_w_board a_w_board_entries a_w_board_markBits n x_t_placeCount x_t_personCount x_t_unitCount x_t_right x_t_persons x_t_table_count x_t_table_place x_t_table_told x_t_table_before x_t_table_behind x_w_number x_w_present x_w_helpCount x_w_board_entries x_w_board_markBits) H := hP
  replace hD : va_D A (ws_PS_help G a_t a_t_joining a_t_units a_t_draft a_t_reader a_t_right a_t_persons a_t_table a_t_table_place a_t_table_told a_t_table_before a_t_table_behind a_w a_w_clock a_w_board a_w_board_entries a_w_board_markBits n x_t_placeCount x_t_personCount x_t_unitCount x_t_right x_t_persons x_t_table_count x_t_table_place x_t_table_told x_t_table_before x_t_table_behind x_w_number x_w_present x_w_helpCount x_w_board_entries x_w_board_markBits) := hD
  refine lv_if_eq (tgt := 45) hx hb d_PS_help_26 (by decide) (fun c3 => ?_) (fun c3 => ?_)
  · replace h := (if_pos c3).symm.trans h
    refine lv_iconst (v := (-1 : Int32)) hx hb d_PS_help_45 (by decide) ?_
    cases h
    exact q_iretW hx hb hr hlocks hP hD hS d_PS_help_46
  · replace h := (if_neg c3).symm.trans h
    refine lv_aload_n hx hb d_PS_help_29 rfl (lv_at hl 2 rfl) ?_
    refine lv_aload_n hx hb d_PS_help_30 rfl (lv_at hl 1 rfl) ?_
    refine lv_iload_n hx hb d_PS_help_31 rfl (lv_at hl 0 rfl) ?_
    refine lv_aload_n hx hb d_PS_help_32 rfl (lv_at hl 2 rfl) ?_
    refine va_get (D := G.1) (ci := 5) (v := .ref a_t_right) (C := "PlayStates") (T := TPS) (N := 10) hx hb hts iw_5 hown hK hP 0 rfl rfl 1 (by decide) (hts _ gw_103) (fun _ h9 => h9) rfl d_PS_help_33 ?_
    refine lv_iload_n hx hb d_PS_help_36 rfl (lv_at hl 0 rfl) ?_
    obtain ⟨i4, h⟩ := o_if h
    refine va_iald (n := n) (f := x_t_right) hx hb hK hP 1 0 rfl rfl i4 d_PS_help_37 ?_
    obtain ⟨y5, hy5, h⟩ := o_bind h
    have hPc := hP.sub (ws' := (ws_PS_tell G a_t a_t_right a_t_persons a_t_joining a_t_units a_t_draft a_t_reader a_t_table a_t_table_place a_t_table_told a_t_table_before a_t_table_behind a_w a_w_clock a_w_board a_w_board_entries a_w_board_markBits n x_t_placeCount x_t_personCount x_t_unitCount x_t_table_count x_t_table_place x_t_table_told x_t_table_before x_t_table_behind x_w_number x_w_present x_w_helpCount x_w_board_entries x_w_board_markBits)) [0, 3, 4, 5, 6, 7, 8, 9, 10, 11] rfl
    have hDc := hD.sub (ws' := (ws_PS_tell G a_t a_t_right a_t_persons a_t_joining a_t_units a_t_draft a_t_reader a_t_table a_t_table_place a_t_table_told a_t_table_before a_t_table_behind a_w a_w_clock a_w_board a_w_board_entries a_w_board_markBits n x_t_placeCount x_t_personCount x_t_unitCount x_t_table_count x_t_table_place x_t_table_told x_t_table_before x_t_table_behind x_w_number x_w_present x_w_helpCount x_w_board_entries x_w_board_markBits)) [0, 3, 4, 5, 6, 7, 8, 9, 10, 11] (by decide) rfl
    have hFc := va_free (wc := (ws_PS_tell G a_t a_t_right a_t_persons a_t_joining a_t_units a_t_draft a_t_reader a_t_table a_t_table_place a_t_table_told a_t_table_before a_t_table_behind a_w a_w_clock a_w_board a_w_board_entries a_w_board_markBits n x_t_placeCount x_t_personCount x_t_unitCount x_t_table_count x_t_table_place x_t_table_told x_t_table_before x_t_table_behind x_w_number x_w_present x_w_helpCount x_w_board_entries x_w_board_markBits)) hD hS hA [0, 3, 4, 5, 6, 7, 8, 9, 10, 11] rfl
    refine q_call1 (va_runV (As := [.ref a_w, .int y1, .int (x_t_right y1.toNatClampNeg)]) (rest := []) ⟨hx, hb, hml, hown, hts⟩ (c_PS_tell l G H.size a_t a_t_right a_t_persons a_t_joining a_t_units a_t_draft a_t_reader a_t_table a_t_table_place a_t_table_told a_t_table_before a_t_table_behind a_w a_w_clock a_w_board a_w_board_entries a_w_board_markBits n y1 (x_t_right y1.toNatClampNeg) x_t_placeCount x_t_personCount x_t_unitCount x_t_table_count x_t_table_place x_t_table_told x_t_table_before x_t_table_behind x_w_number x_w_present x_w_helpCount x_w_board_entries x_w_board_markBits _ _ _ _ _ _ _ _ _ hy5) (cwV 3 hts (gV gw_172 gw_173 gw_4 gw_31 gw_174) rfl rfl rfl (by decide +kernel) ⟨Nat.le_of_ble_eq_true rfl, Nat.le_of_ble_eq_true rfl⟩) (pV hK hN hPc hDc (ci := 5) (q0 := 0) rfl rfl) rfl rfl hl.1 rfl (lv_room (Nat.le_of_ble_eq_true rfl)) d_PS_help_38 ⟨Nat.le_of_ble_eq_true rfl, Nat.le_of_ble_eq_true rfl⟩) hS (fun q _ h => hFc q h) hFc (fun H1 locs hB hz hk hS => ?_)
    obtain ⟨hP, hD⟩ := q_join (wr := [(a_t_right, .inl (G.2 0, n, .inl x_t_right)), (a_t_persons, .inl (G.2 3, 8, .inr (.inr (.inr (.inr x_t_persons)))))]) (wn := (ws_PS_help G a_t a_t_joining a_t_units a_t_draft a_t_reader a_t_right a_t_persons a_t_table a_t_table_place a_t_table_told a_t_table_before a_t_table_behind a_w a_w_clock a_w_board a_w_board_entries a_w_board_markBits n x_t_placeCount x_t_personCount x_t_unitCount x_t_right x_t_persons y5.2.1 y5.2.2.1 y5.2.2.2.1 y5.2.2.2.2.1 y5.2.2.2.2.2.1 x_w_number y5.2.2.2.2.2.2.1 x_w_helpCount y5.2.2.2.2.2.2.2.1 y5.2.2.2.2.2.2.2.2)) hP hD [0, 3, 4, 5, 6, 7, 8, 9, 10, 11] [1, 2] [2, 0, 1, 3, 4, 5, 6, 7, 8, 9, 10, 11] rfl rfl (by decide) (by decide) rfl (by decide) hk hFc hB.1 hB.2
    generalize H1 = H at hP hS ⊢
    replace hP : va_P G.1 vwCl (ws_PS_help G a_t a_t_joining a_t_units a_t_draft a_t_reader a_t_right a_t_persons a_t_table a_t_table_place a_t_table_told a_t_table_before a_t_table_behind a_w a_w_clock a_w_board a_w_board_entries a_w_board_markBits n x_t_placeCount x_t_personCount x_t_unitCount x_t_right x_t_persons y5.2.1 y5.2.2.1 y5.2.2.2.1 y5.2.2.2.2.1 y5.2.2.2.2.2.1 x_w_number y5.2.2.2.2.2.2.1 x_w_helpCount y5.2.2.2.2.2.2.2.1 y5.2.2.2.2.2.2.2.2) H := hP
    replace hD : va_D A (ws_PS_help G a_t a_t_joining a_t_units a_t_draft a_t_reader a_t_right a_t_persons a_t_table a_t_table_place a_t_table_told a_t_table_before a_t_table_behind a_w a_w_clock a_w_board a_w_board_entries a_w_board_markBits n x_t_placeCount x_t_personCount x_t_unitCount x_t_right x_t_persons y5.2.1 y5.2.2.1 y5.2.2.2.1 y5.2.2.2.2.1 y5.2.2.2.2.2.1 x_w_number y5.2.2.2.2.2.2.1 x_w_helpCount y5.2.2.2.2.2.2.2.1 y5.2.2.2.2.2.2.2.2) := hD
    refine lv_iconst (v := (-1 : Int32)) hx hb d_PS_help_41 (by decide) ?_
    refine lv_icmp_ne (tgt := 47) hx hb d_PS_help_42 (by decide) (fun c6 => ?_) (fun c6 => ?_)
    · replace h := (if_neg c6).symm.trans h
      refine lv_aload_n hx hb d_PS_help_47 rfl (lv_at hl 1 rfl) ?_
      refine lv_dup hx hb d_PS_help_48 rfl ?_
      refine va_getN (D := G.1) (ci := 2) (v := .int x_w_helpCount) (C := "PlayStates$Person") (T := TPn) (N := 5) hx hb hts iw_2 hown hK hP 8 rfl rfl 4 (by decide) (va_Nw.use rfl (hN.1 ("PlayStates", 139, "PlayStates$Person", "helpCount", "I", "PlayStates") (by decide +kernel))) (fun _ h9 => h9) rfl d_PS_help_49 ?_
      refine lv_iconst (v := (1 : Int32)) hx hb d_PS_help_52 (by decide) ?_
      refine lv_iadd hx hb d_PS_help_53 ?_
      refine va_putN (D := G.1) (ci := 2) (v := .int (x_w_helpCount + (1 : Int32))) (ty := .int) (C := "PlayStates$Person") (T := TPn) (N := 5) hx hb hts iw_2 tyPn tyPn_ok nmPn hown hK hP hD hS 8 rfl rfl 4 (by decide) (va_Nw.use rfl (hN.1 ("PlayStates", 139, "PlayStates$Person", "helpCount", "I", "PlayStates") (by decide +kernel))) (fun _ h9 => h9) rfl (by decide +kernel) (by rfl) (by rfl) (Nat.le_of_ble_eq_true rfl) d_PS_help_54 (fun H locs hP hD hS => ?_)
      replace hP : va_P G.1 vwCl (ws_PS_help G a_t a_t_joining a_t_units a_t_draft a_t_reader a_t_right a_t_persons a_t_table a_t_table_place a_t_table_told a_t_table_before a_t_table_behind a_w a_w_clock a_w_board a_w_board_entries a_w_board_markBits n x_t_placeCount x_t_personCount x_t_unitCount x_t_right x_t_persons y5.2.1 y5.2.2.1 y5.2.2.2.1 y5.2.2.2.2.1 y5.2.2.2.2.2.1 x_w_number y5.2.2.2.2.2.2.1 (x_w_helpCount + (1 : Int32)) y5.2.2.2.2.2.2.2.1 y5.2.2.2.2.2.2.2.2) H := hP
      replace hD : va_D A (ws_PS_help G a_t a_t_joining a_t_units a_t_draft a_t_reader a_t_right a_t_persons a_t_table a_t_table_place a_t_table_told a_t_table_before a_t_table_behind a_w a_w_clock a_w_board a_w_board_entries a_w_board_markBits n x_t_placeCount x_t_personCount x_t_unitCount x_t_right x_t_persons y5.2.1 y5.2.2.1 y5.2.2.2.1 y5.2.2.2.2.1 y5.2.2.2.2.2.1 x_w_number y5.2.2.2.2.2.2.1 (x_w_helpCount + (1 : Int32)) y5.2.2.2.2.2.2.2.1 y5.2.2.2.2.2.2.2.2) := hD
      refine lv_iload_n hx hb d_PS_help_57 rfl (lv_at hl 0 rfl) ?_
      cases h
      exact q_iretW hx hb hr hlocks hP hD hS d_PS_help_58
    · replace h := (if_pos c6).symm.trans h
      refine lv_iconst (v := (-1 : Int32)) hx hb d_PS_help_45 (by decide) ?_
      cases h
      exact q_iretW hx hb hr hlocks hP hD hS d_PS_help_46


-- PlayStates.help(I)I 
def ws_PS_help_no (G : gG) (a_t a_t_right a_t_table a_t_joining a_t_units a_t_draft a_t_reader a_t_persons : Nat)  (x_t_placeCount : Int32) (x_t_personCount : Int32) (x_t_unitCount : Int32) (x_t_persons : Nat → Option Nat) : va_W := [(a_t, .inr (5, [.int x_t_placeCount, .ref a_t_right, .ref a_t_persons, .int x_t_personCount, .ref a_t_table, .ref a_t_joining, .ref a_t_units, .int x_t_unitCount, .ref a_t_draft, .ref a_t_reader])), (a_t_persons, .inl (G.2 3, 8, .inr (.inr (.inr (.inr x_t_persons)))))]
def f_PS_help_no  (p0 : Int32) (x_t_placeCount : Int32) (x_t_personCount : Int32) (x_t_unitCount : Int32) (x_t_persons : Nat → Option Nat) : Option (Int32) :=
  some (-1 : Int32)
set_option maxHeartbeats 4000000 in
set_option maxRecDepth 100000 in
theorem c_PS_help_no (l : Launch) (G : gG) (sz : Nat) (a_t a_t_right a_t_table a_t_joining a_t_units a_t_draft a_t_reader a_t_persons : Nat)  (p0 : Int32) (x_t_placeCount : Int32) (x_t_personCount : Int32) (x_t_unitCount : Int32) (x_t_persons : Nat → Option Nat) (r : Int32) (h : f_PS_help_no p0 x_t_placeCount x_t_personCount x_t_unitCount x_t_persons = some r)  (hw : f_PS_find p0 x_t_placeCount x_t_personCount x_t_unitCount x_t_persons = some none) : cN l y_PS_help w_PS_help { frames := 1, cells := 0, slots := 0, locals := 21 } G sz [.ref a_t, .int p0] (ws_PS_help_no G a_t a_t_right a_t_table a_t_joining a_t_units a_t_draft a_t_reader a_t_persons x_t_placeCount x_t_personCount x_t_unitCount x_t_persons) (some (.int r)) (wB G (ws_PS_help_no G a_t a_t_right a_t_table a_t_joining a_t_units a_t_draft a_t_reader a_t_persons x_t_placeCount x_t_personCount x_t_unitCount x_t_persons)) 0 0 := by
  refine cN_ofW (cc := prog_1_method_12_code) (maxL := 4) (ret := (some .int)) (by decide) rfl (Nat.le_of_ble_eq_true rfl) ?_
  intro p e s m args below meth c A H locs ls hx hb hr hts hown hlocks hin hml hK hN hP hD hA hS hl
  replace hl : lv_has ls 4 [(0, .ref a_t), (1, .int p0)] := hl
  replace hown : s.vm.findClass "PlayStates" = some m.cls := hown
  unfold f_PS_help_no at h
  refine lv_aload_n hx hb d_PS_help_0 rfl (lv_at hl 0 rfl) ?_
  refine lv_iload_n hx hb d_PS_help_1 rfl (lv_at hl 1 rfl) ?_
  have hPc := hP.sub (ws' := (ws_PS_find G a_t a_t_right a_t_table a_t_joining a_t_units a_t_draft a_t_reader a_t_persons x_t_placeCount x_t_personCount x_t_unitCount x_t_persons)) [0, 1] rfl
  have hDc := hD.sub (ws' := (ws_PS_find G a_t a_t_right a_t_table a_t_joining a_t_units a_t_draft a_t_reader a_t_persons x_t_placeCount x_t_personCount x_t_unitCount x_t_persons)) [0, 1] (by decide) rfl
  have hFc := va_free (wc := (ws_PS_find G a_t a_t_right a_t_table a_t_joining a_t_units a_t_draft a_t_reader a_t_persons x_t_placeCount x_t_personCount x_t_unitCount x_t_persons)) hD hS hA [0, 1] rfl
  refine q_call1 (va_runV (As := [.int p0]) (rest := []) ⟨hx, hb, hml, hown, hts⟩ (c_PS_find l G H.size a_t a_t_right a_t_table a_t_joining a_t_units a_t_draft a_t_reader a_t_persons p0 x_t_placeCount x_t_personCount x_t_unitCount x_t_persons _ hw) (cwV 1 hts (gV gw_163 gw_164 gw_2 gw_31 gw_165) rfl rfl rfl (by decide +kernel) ⟨Nat.le_of_ble_eq_true rfl, Nat.le_of_ble_eq_true rfl⟩) (pV hK hN hPc hDc (ci := 5) (q0 := 0) rfl rfl) rfl rfl hl.1 rfl (lv_room (Nat.le_of_ble_eq_true rfl)) d_PS_help_2 ⟨Nat.le_of_ble_eq_true rfl, Nat.le_of_ble_eq_true rfl⟩) hS (fun q _ h => hFc q h) hFc (fun H1 locs hB hz hk hS => ?_)
  obtain ⟨hP, hD⟩ := q_joinA hFc hB.1 hB.2
  generalize H1 = H at hP hS ⊢
  replace hP : va_P G.1 vwCl (ws_PS_help_no G a_t a_t_right a_t_table a_t_joining a_t_units a_t_draft a_t_reader a_t_persons x_t_placeCount x_t_personCount x_t_unitCount x_t_persons) H := hP
  replace hD : va_D A (ws_PS_help_no G a_t a_t_right a_t_table a_t_joining a_t_units a_t_draft a_t_reader a_t_persons x_t_placeCount x_t_personCount x_t_unitCount x_t_persons) := hD
  refine lv_astore_nN (lv' := [(2, .null), (0, .ref a_t), (1, .int p0)]) hx hb d_PS_help_5 rfl hl (by decide) rfl (fun ls hl => ?_)
  refine lv_aload_nN hx hb d_PS_help_6 rfl (lv_at hl 0 rfl) ?_
  refine lv_ifnonnullN hx hb d_PS_help_7 ?_
  refine lv_iconst (v := (-1 : Int32)) hx hb d_PS_help_10 (by decide) ?_
  cases h
  exact q_iretW hx hb hr hlocks hP hD hS d_PS_help_11

theorem gw_263 : (.code ⟨"PlayStates$Clock", "mayBeTold", "(J)Z"⟩ prog_3_method_2_code 3 (some .boolean) : Cond) ∈ GW := gT 290 (by decide +kernel) (by decide +kernel)
theorem gw_260 : (.methodLink "PlayStates" 146 ⟨"PlayStates$Clock", "mayBeTold", "(J)Z"⟩ : Cond) ∈ GW := gT 287 (by decide +kernel) (by decide +kernel)
theorem gw_261 : (.instanceMethod ⟨"PlayStates$Clock", "mayBeTold", "(J)Z"⟩ : Cond) ∈ GW := gT 288 (by decide +kernel) (by decide +kernel)
theorem gw_262 : (.selects "PlayStates$Clock" ⟨"PlayStates$Clock", "mayBeTold", "(J)Z"⟩ ⟨"PlayStates$Clock", "mayBeTold", "(J)Z"⟩ : Cond) ∈ GW := gT 289 (by decide +kernel) (by decide +kernel)
theorem gw_267 : (.code ⟨"PlayStates$Clock", "tellTime", "(JZ)V"⟩ prog_3_method_4_code 4 none : Cond) ∈ GW := gT 294 (by decide +kernel) (by decide +kernel)
theorem gw_264 : (.methodLink "PlayStates" 152 ⟨"PlayStates$Clock", "tellTime", "(JZ)V"⟩ : Cond) ∈ GW := gT 291 (by decide +kernel) (by decide +kernel)
theorem gw_265 : (.instanceMethod ⟨"PlayStates$Clock", "tellTime", "(JZ)V"⟩ : Cond) ∈ GW := gT 292 (by decide +kernel) (by decide +kernel)
theorem gw_266 : (.selects "PlayStates$Clock" ⟨"PlayStates$Clock", "tellTime", "(JZ)V"⟩ ⟨"PlayStates$Clock", "tellTime", "(JZ)V"⟩ : Cond) ∈ GW := gT 293 (by decide +kernel) (by decide +kernel)
theorem d_PS_timer_0 : decode prog_1_method_14_code 0 = .ok (.aload_n 0, 1) := by decide +kernel
theorem d_PS_timer_1 : decode prog_1_method_14_code 1 = .ok (.iload_n 1, 1) := by decide +kernel
theorem d_PS_timer_2 : decode prog_1_method_14_code 2 = .ok (.invokevirtual 75, 3) := by decide +kernel
theorem d_PS_timer_5 : decode prog_1_method_14_code 5 = .ok (.astore 5, 2) := by decide +kernel
theorem d_PS_timer_7 : decode prog_1_method_14_code 7 = .ok (.aload 5, 2) := by decide +kernel
theorem d_PS_timer_9 : decode prog_1_method_14_code 9 = .ok (.ifnull 15, 3) := by decide +kernel
theorem d_PS_timer_12 : decode prog_1_method_14_code 12 = .ok (.aload 5, 2) := by decide +kernel
theorem d_PS_timer_14 : decode prog_1_method_14_code 14 = .ok (.getfield 142, 3) := by decide +kernel
theorem d_PS_timer_17 : decode prog_1_method_14_code 17 = .ok (.lload_n 2, 1) := by decide +kernel
theorem d_PS_timer_18 : decode prog_1_method_14_code 18 = .ok (.invokevirtual 146, 3) := by decide +kernel
theorem d_PS_timer_21 : decode prog_1_method_14_code 21 = .ok (.ifCond .ne 5, 3) := by decide +kernel
theorem d_PS_timer_24 : decode prog_1_method_14_code 24 = .ok (.iconst 0, 1) := by decide +kernel
theorem d_PS_timer_25 : decode prog_1_method_14_code 25 = .ok (.ireturn, 1) := by decide +kernel
theorem d_PS_timer_26 : decode prog_1_method_14_code 26 = .ok (.aload 5, 2) := by decide +kernel
theorem d_PS_timer_28 : decode prog_1_method_14_code 28 = .ok (.getfield 142, 3) := by decide +kernel
theorem d_PS_timer_31 : decode prog_1_method_14_code 31 = .ok (.lload_n 2, 1) := by decide +kernel
theorem d_PS_timer_32 : decode prog_1_method_14_code 32 = .ok (.iload 4, 2) := by decide +kernel
theorem d_PS_timer_34 : decode prog_1_method_14_code 34 = .ok (.invokevirtual 152, 3) := by decide +kernel
theorem d_PS_timer_37 : decode prog_1_method_14_code 37 = .ok (.iconst 1, 1) := by decide +kernel
theorem d_PS_timer_38 : decode prog_1_method_14_code 38 = .ok (.ireturn, 1) := by decide +kernel
-- PlayStates.timer(IJZ)Z 
def ws_PS_timer (G : gG) (a_t a_t_right a_t_table a_t_joining a_t_units a_t_draft a_t_reader a_t_persons a_w a_w_board a_w_clock : Nat)  (x_t_placeCount : Int32) (x_t_personCount : Int32) (x_t_unitCount : Int32) (x_t_persons : Nat → Option Nat) (x_w_number : Int32) (x_w_present : Int32) (x_w_helpCount : Int32) (x_w_clock_running : Int32) (x_w_clock_lastTold : Int64) (x_w_clock_counted : Int64) : va_W := [(a_t, .inr (5, [.int x_t_placeCount, .ref a_t_right, .ref a_t_persons, .int x_t_personCount, .ref a_t_table, .ref a_t_joining, .ref a_t_units, .int x_t_unitCount, .ref a_t_draft, .ref a_t_reader])), (a_t_persons, .inl (G.2 3, 8, .inr (.inr (.inr (.inr x_t_persons))))), (a_w, .inr (2, [.int x_w_number, .ref a_w_board, .ref a_w_clock, .int x_w_present, .int x_w_helpCount])), (a_w_clock, .inr (1, [.int x_w_clock_running, .long x_w_clock_lastTold, .long x_w_clock_counted]))]
def f_PS_timer  (p0 : Int32) (p1 : Int64) (p2 : Int32) (x_t_placeCount : Int32) (x_t_personCount : Int32) (x_t_unitCount : Int32) (x_t_persons : Nat → Option Nat) (x_w_number : Int32) (x_w_present : Int32) (x_w_helpCount : Int32) (x_w_clock_running : Int32) (x_w_clock_lastTold : Int64) (x_w_clock_counted : Int64) : Option (Int32 × Int32 × Int64 × Int64) :=
  ((f_Ck_mayBeTold p1 x_w_clock_running x_w_clock_lastTold x_w_clock_counted).bind fun y1 => (if y1 = 0 then some ((0 : Int32), x_w_clock_running, x_w_clock_lastTold, x_w_clock_counted) else ((f_Ck_tellTime p1 p2 x_w_clock_running x_w_clock_lastTold x_w_clock_counted).bind fun y3 => some ((1 : Int32), y3.1, y3.2.1, y3.2.2))))
set_option maxHeartbeats 4000000 in
set_option maxRecDepth 100000 in
theorem c_PS_timer (l : Launch) (G : gG) (sz : Nat) (a_t a_t_right a_t_table a_t_joining a_t_units a_t_draft a_t_reader a_t_persons a_w a_w_board a_w_clock : Nat)  (p0 : Int32) (p1 : Int64) (p2 : Int32) (x_t_placeCount : Int32) (x_t_personCount : Int32) (x_t_unitCount : Int32) (x_t_persons : Nat → Option Nat) (x_w_number : Int32) (x_w_present : Int32) (x_w_helpCount : Int32) (x_w_clock_running : Int32) (x_w_clock_lastTold : Int64) (x_w_clock_counted : Int64) (r : Int32) (x_w_clock_running' : Int32) (x_w_clock_lastTold' : Int64) (x_w_clock_counted' : Int64) (h : f_PS_timer p0 p1 p2 x_t_placeCount x_t_personCount x_t_unitCount x_t_persons x_w_number x_w_present x_w_helpCount x_w_clock_running x_w_clock_lastTold x_w_clock_counted = some (r, x_w_clock_running', x_w_clock_lastTold', x_w_clock_counted'))  (hw : f_PS_find p0 x_t_placeCount x_t_personCount x_t_unitCount x_t_persons = some (some a_w)) : cN l y_PS_timer w_PS_timer { frames := 2, cells := 0, slots := 0, locals := 45 } G sz [.ref a_t, .int p0, .long p1, .int p2] (ws_PS_timer G a_t a_t_right a_t_table a_t_joining a_t_units a_t_draft a_t_reader a_t_persons a_w a_w_board a_w_clock x_t_placeCount x_t_personCount x_t_unitCount x_t_persons x_w_number x_w_present x_w_helpCount x_w_clock_running x_w_clock_lastTold x_w_clock_counted) (some (.int r)) (wB G (ws_PS_timer G a_t a_t_right a_t_table a_t_joining a_t_units a_t_draft a_t_reader a_t_persons a_w a_w_board a_w_clock x_t_placeCount x_t_personCount x_t_unitCount x_t_persons x_w_number x_w_present x_w_helpCount x_w_clock_running' x_w_clock_lastTold' x_w_clock_counted')) 0 0 := by
  refine cN_ofW (cc := prog_1_method_14_code) (maxL := 6) (ret := (some .boolean)) (by decide) rfl (Nat.le_of_ble_eq_true rfl) ?_
  intro p e s m args below meth c A H locs ls hx hb hr hts hown hlocks hin hml hK hN hP hD hA hS hl
  replace hl : lv_has ls 6 [(0, .ref a_t), (1, .int p0), (2, .long p1), (4, .int p2)] := hl
  replace hown : s.vm.findClass "PlayStates" = some m.cls := hown
  unfold f_PS_timer at h
  refine lv_aload_n hx hb d_PS_timer_0 rfl (lv_at hl 0 rfl) ?_
  refine lv_iload_n hx hb d_PS_timer_1 rfl (lv_at hl 1 rfl) ?_
  have hPc := hP.sub (ws' := (ws_PS_find G a_t a_t_right a_t_table a_t_joining a_t_units a_t_draft a_t_reader a_t_persons x_t_placeCount x_t_personCount x_t_unitCount x_t_persons)) [0, 1] rfl
  have hDc := hD.sub (ws' := (ws_PS_find G a_t a_t_right a_t_table a_t_joining a_t_units a_t_draft a_t_reader a_t_persons x_t_placeCount x_t_personCount x_t_unitCount x_t_persons)) [0, 1] (by decide) rfl
  have hFc := va_free (wc := (ws_PS_find G a_t a_t_right a_t_table a_t_joining a_t_units a_t_draft a_t_reader a_t_persons x_t_placeCount x_t_personCount x_t_unitCount x_t_persons)) hD hS hA [0, 1] rfl
  refine q_call1 (va_runV (As := [.int p0]) (rest := []) ⟨hx, hb, hml, hown, hts⟩ (c_PS_find l G H.size a_t a_t_right a_t_table a_t_joining a_t_units a_t_draft a_t_reader a_t_persons p0 x_t_placeCount x_t_personCount x_t_unitCount x_t_persons _ hw) (cwV 1 hts (gV gw_163 gw_164 gw_2 gw_31 gw_165) rfl rfl rfl (by decide +kernel) ⟨Nat.le_of_ble_eq_true rfl, Nat.le_of_ble_eq_true rfl⟩) (pV hK hN hPc hDc (ci := 5) (q0 := 0) rfl rfl) rfl rfl hl.1 rfl (lv_room (Nat.le_of_ble_eq_true rfl)) d_PS_timer_2 ⟨Nat.le_of_ble_eq_true rfl, Nat.le_of_ble_eq_true rfl⟩) hS (fun q _ h => hFc q h) hFc (fun H1 locs hB hz hk hS => ?_)
  obtain ⟨hP, hD⟩ := q_join (wr := [(a_w, .inr (2, [.int x_w_number, .ref a_w_board, .ref a_w_clock, .int x_w_present, .int x_w_helpCount])), (a_w_clock, .inr (1, [.int x_w_clock_running, .long x_w_clock_lastTold, .long x_w_clock_counted]))]) (wn := (ws_PS_timer G a_t a_t_right a_t_table a_t_joining a_t_units a_t_draft a_t_reader a_t_persons a_w a_w_board a_w_clock x_t_placeCount x_t_personCount x_t_unitCount x_t_persons x_w_number x_w_present x_w_helpCount x_w_clock_running x_w_clock_lastTold x_w_clock_counted)) hP hD [0, 1] [2, 3] [2, 3, 0, 1] rfl rfl (by decide) (by decide) rfl (by decide) hk hFc hB.1 hB.2
  generalize H1 = H at hP hS ⊢
  replace hP : va_P G.1 vwCl (ws_PS_timer G a_t a_t_right a_t_table a_t_joining a_t_units a_t_draft a_t_reader a_t_persons a_w a_w_board a_w_clock x_t_placeCount x_t_personCount x_t_unitCount x_t_persons x_w_number x_w_present x_w_helpCount x_w_clock_running x_w_clock_lastTold x_w_clock_counted) H := hP
  replace hD : va_D A (ws_PS_timer G a_t a_t_right a_t_table a_t_joining a_t_units a_t_draft a_t_reader a_t_persons a_w a_w_board a_w_clock x_t_placeCount x_t_personCount x_t_unitCount x_t_persons x_w_number x_w_present x_w_helpCount x_w_clock_running x_w_clock_lastTold x_w_clock_counted) := hD
  refine lv_astore (lv' := [(5, .ref a_w), (0, .ref a_t), (1, .int p0), (2, .long p1), (4, .int p2)]) hx hb d_PS_timer_5 hl (by decide) rfl (fun ls hl => ?_)
  refine lv_aload hx hb d_PS_timer_7 (lv_at hl 0 rfl) ?_
  refine lv_ifnull hx hb d_PS_timer_9 ?_
  refine lv_aload hx hb d_PS_timer_12 (lv_at hl 0 rfl) ?_
  refine va_getN (D := G.1) (ci := 2) (v := .ref a_w_clock) (C := "PlayStates$Person") (T := TPn) (N := 5) hx hb hts iw_2 hown hK hP 2 rfl rfl 2 (by decide) (va_Nw.use rfl (hN.1 ("PlayStates", 142, "PlayStates$Person", "clock", "LPlayStates$Clock;", "PlayStates") (by decide +kernel))) (fun _ h9 => h9) rfl d_PS_timer_14 ?_
  refine lv_lload_n hx hb d_PS_timer_17 rfl (lv_at hl 3 rfl) ?_
  obtain ⟨y1, hy1, h⟩ := o_bind h
  have hPc := hP.sub (ws' := (ws_Ck_mayBeTold G a_w_clock x_w_clock_running x_w_clock_lastTold x_w_clock_counted)) [3] rfl
  have hDc := hD.sub (ws' := (ws_Ck_mayBeTold G a_w_clock x_w_clock_running x_w_clock_lastTold x_w_clock_counted)) [3] (by decide) rfl
  have hFc := va_free (wc := (ws_Ck_mayBeTold G a_w_clock x_w_clock_running x_w_clock_lastTold x_w_clock_counted)) hD hS hA [3] rfl
  refine q_call1 (va_runV (As := [.long p1]) (rest := []) ⟨hx, hb, hml, hown, hts⟩ (c_Ck_mayBeTold l G H.size a_w_clock p1 x_w_clock_running x_w_clock_lastTold x_w_clock_counted _ hy1) (cwV 1 hts (gV gw_260 gw_261 gw_262 gw_38 gw_263) rfl rfl rfl (by decide +kernel) ⟨Nat.le_of_ble_eq_true rfl, Nat.le_of_ble_eq_true rfl⟩) (pV hK hN hPc hDc (ci := 1) (q0 := 0) rfl rfl) rfl rfl hl.1 rfl (lv_room (Nat.le_of_ble_eq_true rfl)) d_PS_timer_18 ⟨Nat.le_of_ble_eq_true rfl, Nat.le_of_ble_eq_true rfl⟩) hS (fun q _ h => hFc q h) hFc (fun H1 locs hB hz hk hS => ?_)
  obtain ⟨hP, hD⟩ := q_join (wr := [(a_t, .inr (5, [.int x_t_placeCount, .ref a_t_right, .ref a_t_persons, .int x_t_personCount, .ref a_t_table, .ref a_t_joining, .ref a_t_units, .int x_t_unitCount, .ref a_t_draft, .ref a_t_reader])), (a_t_persons, .inl (G.2 3, 8, .inr (.inr (.inr (.inr x_t_persons))))), (a_w, .inr (2, [.int x_w_number, .ref a_w_board, .ref a_w_clock, .int x_w_present, .int x_w_helpCount]))]) (wn := (ws_PS_timer G a_t a_t_right a_t_table a_t_joining a_t_units a_t_draft a_t_reader a_t_persons a_w a_w_board a_w_clock x_t_placeCount x_t_personCount x_t_unitCount x_t_persons x_w_number x_w_present x_w_helpCount x_w_clock_running x_w_clock_lastTold x_w_clock_counted)) hP hD [3] [0, 1, 2] [0, 1, 2, 3] rfl rfl (by decide) (by decide) rfl (by decide) hk hFc hB.1 hB.2
  generalize H1 = H at hP hS ⊢
  replace hP : va_P G.1 vwCl (ws_PS_timer G a_t a_t_right a_t_table a_t_joining a_t_units a_t_draft a_t_reader a_t_persons a_w a_w_board a_w_clock x_t_placeCount x_t_personCount x_t_unitCount x_t_persons x_w_number x_w_present x_w_helpCount x_w_clock_running x_w_clock_lastTold x_w_clock_counted) H := hP
  replace hD : va_D A (ws_PS_timer G a_t a_t_right a_t_table a_t_joining a_t_units a_t_draft a_t_reader a_t_persons a_w a_w_board a_w_clock x_t_placeCount x_t_personCount x_t_unitCount x_t_persons x_w_number x_w_present x_w_helpCount x_w_clock_running x_w_clock_lastTold x_w_clock_counted) := hD
  refine lv_if_ne (tgt := 26) hx hb d_PS_timer_21 (by decide) (fun c2 => ?_) (fun c2 => ?_)
  · replace h := (if_neg c2).symm.trans h
    refine lv_aload hx hb d_PS_timer_26 (lv_at hl 0 rfl) ?_
    refine va_getN (D := G.1) (ci := 2) (v := .ref a_w_clock) (C := "PlayStates$Person") (T := TPn) (N := 5) hx hb hts iw_2 hown hK hP 2 rfl rfl 2 (by decide) (va_Nw.use rfl (hN.1 ("PlayStates", 142, "PlayStates$Person", "clock", "LPlayStates$Clock;", "PlayStates") (by decide +kernel))) (fun _ h9 => h9) rfl d_PS_timer_28 ?_
    refine lv_lload_n hx hb d_PS_timer_31 rfl (lv_at hl 3 rfl) ?_
    refine lv_iload hx hb d_PS_timer_32 (lv_at hl 4 rfl) ?_
    obtain ⟨y3, hy3, h⟩ := o_bind h
    have hPc := hP.sub (ws' := (ws_Ck_tellTime G a_w_clock x_w_clock_running x_w_clock_lastTold x_w_clock_counted)) [3] rfl
    have hDc := hD.sub (ws' := (ws_Ck_tellTime G a_w_clock x_w_clock_running x_w_clock_lastTold x_w_clock_counted)) [3] (by decide) rfl
    have hFc := va_free (wc := (ws_Ck_tellTime G a_w_clock x_w_clock_running x_w_clock_lastTold x_w_clock_counted)) hD hS hA [3] rfl
    refine q_call0 (va_runV (As := [.long p1, .int p2]) (rest := []) ⟨hx, hb, hml, hown, hts⟩ (c_Ck_tellTime l G H.size a_w_clock p1 p2 x_w_clock_running x_w_clock_lastTold x_w_clock_counted _ _ _ hy3) (cwV 2 hts (gV gw_264 gw_265 gw_266 gw_38 gw_267) rfl rfl rfl (by decide +kernel) ⟨Nat.le_of_ble_eq_true rfl, Nat.le_of_ble_eq_true rfl⟩) (pV hK hN hPc hDc (ci := 1) (q0 := 0) rfl rfl) rfl rfl hl.1 rfl (lv_room (Nat.le_of_ble_eq_true rfl)) d_PS_timer_34 ⟨Nat.le_of_ble_eq_true rfl, Nat.le_of_ble_eq_true rfl⟩) hS (fun q _ h => hFc q h) hFc (fun H1 locs hB hz hk hS => ?_)
    obtain ⟨hP, hD⟩ := q_join (wr := [(a_t, .inr (5, [.int x_t_placeCount, .ref a_t_right, .ref a_t_persons, .int x_t_personCount, .ref a_t_table, .ref a_t_joining, .ref a_t_units, .int x_t_unitCount, .ref a_t_draft, .ref a_t_reader])), (a_t_persons, .inl (G.2 3, 8, .inr (.inr (.inr (.inr x_t_persons))))), (a_w, .inr (2, [.int x_w_number, .ref a_w_board, .ref a_w_clock, .int x_w_present, .int x_w_helpCount]))]) (wn := (ws_PS_timer G a_t a_t_right a_t_table a_t_joining a_t_units a_t_draft a_t_reader a_t_persons a_w a_w_board a_w_clock x_t_placeCount x_t_personCount x_t_unitCount x_t_persons x_w_number x_w_present x_w_helpCount y3.1 y3.2.1 y3.2.2)) hP hD [3] [0, 1, 2] [0, 1, 2, 3] rfl rfl (by decide) (by decide) rfl (by decide) hk hFc hB.1 hB.2
    generalize H1 = H at hP hS ⊢
    replace hP : va_P G.1 vwCl (ws_PS_timer G a_t a_t_right a_t_table a_t_joining a_t_units a_t_draft a_t_reader a_t_persons a_w a_w_board a_w_clock x_t_placeCount x_t_personCount x_t_unitCount x_t_persons x_w_number x_w_present x_w_helpCount y3.1 y3.2.1 y3.2.2) H := hP
    replace hD : va_D A (ws_PS_timer G a_t a_t_right a_t_table a_t_joining a_t_units a_t_draft a_t_reader a_t_persons a_w a_w_board a_w_clock x_t_placeCount x_t_personCount x_t_unitCount x_t_persons x_w_number x_w_present x_w_helpCount y3.1 y3.2.1 y3.2.2) := hD
    refine lv_iconst (v := (1 : Int32)) hx hb d_PS_timer_37 (by decide) ?_
    cases h
    exact q_zretW hx hb hr hlocks (by decide) hP hD hS d_PS_timer_38
  · replace h := (if_pos c2).symm.trans h
    refine lv_iconst (v := (0 : Int32)) hx hb d_PS_timer_24 (by decide) ?_
    cases h
    exact q_zretW hx hb hr hlocks (by decide) hP hD hS d_PS_timer_25


-- PlayStates.timer(IJZ)Z 
def ws_PS_timer_no (G : gG) (a_t a_t_right a_t_table a_t_joining a_t_units a_t_draft a_t_reader a_t_persons : Nat)  (x_t_placeCount : Int32) (x_t_personCount : Int32) (x_t_unitCount : Int32) (x_t_persons : Nat → Option Nat) : va_W := [(a_t, .inr (5, [.int x_t_placeCount, .ref a_t_right, .ref a_t_persons, .int x_t_personCount, .ref a_t_table, .ref a_t_joining, .ref a_t_units, .int x_t_unitCount, .ref a_t_draft, .ref a_t_reader])), (a_t_persons, .inl (G.2 3, 8, .inr (.inr (.inr (.inr x_t_persons)))))]
def f_PS_timer_no  (p0 : Int32) (p1 : Int64) (p2 : Int32) (x_t_placeCount : Int32) (x_t_personCount : Int32) (x_t_unitCount : Int32) (x_t_persons : Nat → Option Nat) : Option (Int32) :=
  some (0 : Int32)
set_option maxHeartbeats 4000000 in
set_option maxRecDepth 100000 in
theorem c_PS_timer_no (l : Launch) (G : gG) (sz : Nat) (a_t a_t_right a_t_table a_t_joining a_t_units a_t_draft a_t_reader a_t_persons : Nat)  (p0 : Int32) (p1 : Int64) (p2 : Int32) (x_t_placeCount : Int32) (x_t_personCount : Int32) (x_t_unitCount : Int32) (x_t_persons : Nat → Option Nat) (r : Int32) (h : f_PS_timer_no p0 p1 p2 x_t_placeCount x_t_personCount x_t_unitCount x_t_persons = some r)  (hw : f_PS_find p0 x_t_placeCount x_t_personCount x_t_unitCount x_t_persons = some none) : cN l y_PS_timer w_PS_timer { frames := 1, cells := 0, slots := 0, locals := 21 } G sz [.ref a_t, .int p0, .long p1, .int p2] (ws_PS_timer_no G a_t a_t_right a_t_table a_t_joining a_t_units a_t_draft a_t_reader a_t_persons x_t_placeCount x_t_personCount x_t_unitCount x_t_persons) (some (.int r)) (wB G (ws_PS_timer_no G a_t a_t_right a_t_table a_t_joining a_t_units a_t_draft a_t_reader a_t_persons x_t_placeCount x_t_personCount x_t_unitCount x_t_persons)) 0 0 := by
  refine cN_ofW (cc := prog_1_method_14_code) (maxL := 6) (ret := (some .boolean)) (by decide) rfl (Nat.le_of_ble_eq_true rfl) ?_
  intro p e s m args below meth c A H locs ls hx hb hr hts hown hlocks hin hml hK hN hP hD hA hS hl
  replace hl : lv_has ls 6 [(0, .ref a_t), (1, .int p0), (2, .long p1), (4, .int p2)] := hl
  replace hown : s.vm.findClass "PlayStates" = some m.cls := hown
  unfold f_PS_timer_no at h
  refine lv_aload_n hx hb d_PS_timer_0 rfl (lv_at hl 0 rfl) ?_
  refine lv_iload_n hx hb d_PS_timer_1 rfl (lv_at hl 1 rfl) ?_
  have hPc := hP.sub (ws' := (ws_PS_find G a_t a_t_right a_t_table a_t_joining a_t_units a_t_draft a_t_reader a_t_persons x_t_placeCount x_t_personCount x_t_unitCount x_t_persons)) [0, 1] rfl
  have hDc := hD.sub (ws' := (ws_PS_find G a_t a_t_right a_t_table a_t_joining a_t_units a_t_draft a_t_reader a_t_persons x_t_placeCount x_t_personCount x_t_unitCount x_t_persons)) [0, 1] (by decide) rfl
  have hFc := va_free (wc := (ws_PS_find G a_t a_t_right a_t_table a_t_joining a_t_units a_t_draft a_t_reader a_t_persons x_t_placeCount x_t_personCount x_t_unitCount x_t_persons)) hD hS hA [0, 1] rfl
  refine q_call1 (va_runV (As := [.int p0]) (rest := []) ⟨hx, hb, hml, hown, hts⟩ (c_PS_find l G H.size a_t a_t_right a_t_table a_t_joining a_t_units a_t_draft a_t_reader a_t_persons p0 x_t_placeCount x_t_personCount x_t_unitCount x_t_persons _ hw) (cwV 1 hts (gV gw_163 gw_164 gw_2 gw_31 gw_165) rfl rfl rfl (by decide +kernel) ⟨Nat.le_of_ble_eq_true rfl, Nat.le_of_ble_eq_true rfl⟩) (pV hK hN hPc hDc (ci := 5) (q0 := 0) rfl rfl) rfl rfl hl.1 rfl (lv_room (Nat.le_of_ble_eq_true rfl)) d_PS_timer_2 ⟨Nat.le_of_ble_eq_true rfl, Nat.le_of_ble_eq_true rfl⟩) hS (fun q _ h => hFc q h) hFc (fun H1 locs hB hz hk hS => ?_)
  obtain ⟨hP, hD⟩ := q_joinA hFc hB.1 hB.2
  generalize H1 = H at hP hS ⊢
  replace hP : va_P G.1 vwCl (ws_PS_timer_no G a_t a_t_right a_t_table a_t_joining a_t_units a_t_draft a_t_reader a_t_persons x_t_placeCount x_t_personCount x_t_unitCount x_t_persons) H := hP
  replace hD : va_D A (ws_PS_timer_no G a_t a_t_right a_t_table a_t_joining a_t_units a_t_draft a_t_reader a_t_persons x_t_placeCount x_t_personCount x_t_unitCount x_t_persons) := hD
  refine lv_astoreN (lv' := [(5, .null), (0, .ref a_t), (1, .int p0), (2, .long p1), (4, .int p2)]) hx hb d_PS_timer_5 hl (by decide) rfl (fun ls hl => ?_)
  refine lv_aloadN hx hb d_PS_timer_7 (lv_at hl 0 rfl) ?_
  refine lv_ifnullN (tgt := 24) hx hb d_PS_timer_9 (by decide) ?_
  refine lv_iconst (v := (0 : Int32)) hx hb d_PS_timer_24 (by decide) ?_
  cases h
  exact q_zretW hx hb hr hlocks (by decide) hP hD hS d_PS_timer_25

theorem gw_277 : (.methodLink "PlayStates" 158 ⟨"PlayStates$Clock", "countUpTo", "(J)J"⟩ : Cond) ∈ GW := gT 304 (by decide +kernel) (by decide +kernel)
theorem gw_276 : (.constantLong "PlayStates" 156 (-1 : Int64) : Cond) ∈ GW := gT 303 (by decide +kernel) (by decide +kernel)
theorem d_PS_time_0 : decode prog_1_method_15_code 0 = .ok (.aload_n 0, 1) := by decide +kernel
theorem d_PS_time_1 : decode prog_1_method_15_code 1 = .ok (.iload_n 1, 1) := by decide +kernel
theorem d_PS_time_2 : decode prog_1_method_15_code 2 = .ok (.invokevirtual 75, 3) := by decide +kernel
theorem d_PS_time_5 : decode prog_1_method_15_code 5 = .ok (.astore 4, 2) := by decide +kernel
theorem d_PS_time_7 : decode prog_1_method_15_code 7 = .ok (.aload 4, 2) := by decide +kernel
theorem d_PS_time_9 : decode prog_1_method_15_code 9 = .ok (.ifnull 15, 3) := by decide +kernel
theorem d_PS_time_12 : decode prog_1_method_15_code 12 = .ok (.aload 4, 2) := by decide +kernel
theorem d_PS_time_14 : decode prog_1_method_15_code 14 = .ok (.getfield 142, 3) := by decide +kernel
theorem d_PS_time_17 : decode prog_1_method_15_code 17 = .ok (.lload_n 2, 1) := by decide +kernel
theorem d_PS_time_18 : decode prog_1_method_15_code 18 = .ok (.invokevirtual 146, 3) := by decide +kernel
theorem d_PS_time_21 : decode prog_1_method_15_code 21 = .ok (.ifCond .ne 9, 3) := by decide +kernel
theorem d_PS_time_24 : decode prog_1_method_15_code 24 = .ok (.ldc2_w 156, 3) := by decide +kernel
theorem d_PS_time_27 : decode prog_1_method_15_code 27 = .ok (.goto 12, 3) := by decide +kernel
theorem d_PS_time_30 : decode prog_1_method_15_code 30 = .ok (.aload 4, 2) := by decide +kernel
theorem d_PS_time_32 : decode prog_1_method_15_code 32 = .ok (.getfield 142, 3) := by decide +kernel
theorem d_PS_time_35 : decode prog_1_method_15_code 35 = .ok (.lload_n 2, 1) := by decide +kernel
theorem d_PS_time_36 : decode prog_1_method_15_code 36 = .ok (.invokevirtual 158, 3) := by decide +kernel
theorem d_PS_time_39 : decode prog_1_method_15_code 39 = .ok (.lreturn, 1) := by decide +kernel
-- PlayStates.time(IJ)J 
def ws_PS_time (G : gG) (a_t a_t_right a_t_table a_t_joining a_t_units a_t_draft a_t_reader a_t_persons a_w a_w_board a_w_clock : Nat)  (x_t_placeCount : Int32) (x_t_personCount : Int32) (x_t_unitCount : Int32) (x_t_persons : Nat → Option Nat) (x_w_number : Int32) (x_w_present : Int32) (x_w_helpCount : Int32) (x_w_clock_running : Int32) (x_w_clock_lastTold : Int64) (x_w_clock_counted : Int64) : va_W := [(a_t, .inr (5, [.int x_t_placeCount, .ref a_t_right, .ref a_t_persons, .int x_t_personCount, .ref a_t_table, .ref a_t_joining, .ref a_t_units, .int x_t_unitCount, .ref a_t_draft, .ref a_t_reader])), (a_t_persons, .inl (G.2 3, 8, .inr (.inr (.inr (.inr x_t_persons))))), (a_w, .inr (2, [.int x_w_number, .ref a_w_board, .ref a_w_clock, .int x_w_present, .int x_w_helpCount])), (a_w_clock, .inr (1, [.int x_w_clock_running, .long x_w_clock_lastTold, .long x_w_clock_counted]))]
def f_PS_time  (p0 : Int32) (p1 : Int64) (x_t_placeCount : Int32) (x_t_personCount : Int32) (x_t_unitCount : Int32) (x_t_persons : Nat → Option Nat) (x_w_number : Int32) (x_w_present : Int32) (x_w_helpCount : Int32) (x_w_clock_running : Int32) (x_w_clock_lastTold : Int64) (x_w_clock_counted : Int64) : Option (Int64) :=
  ((f_Ck_mayBeTold p1 x_w_clock_running x_w_clock_lastTold x_w_clock_counted).bind fun y1 => (if y1 = 0 then some (-1 : Int64) else ((f_Ck_countUpTo p1 x_w_clock_running x_w_clock_lastTold x_w_clock_counted).bind fun y3 => some y3)))
set_option maxHeartbeats 4000000 in
set_option maxRecDepth 100000 in
theorem c_PS_time (l : Launch) (G : gG) (sz : Nat) (a_t a_t_right a_t_table a_t_joining a_t_units a_t_draft a_t_reader a_t_persons a_w a_w_board a_w_clock : Nat)  (p0 : Int32) (p1 : Int64) (x_t_placeCount : Int32) (x_t_personCount : Int32) (x_t_unitCount : Int32) (x_t_persons : Nat → Option Nat) (x_w_number : Int32) (x_w_present : Int32) (x_w_helpCount : Int32) (x_w_clock_running : Int32) (x_w_clock_lastTold : Int64) (x_w_clock_counted : Int64) (r : Int64) (h : f_PS_time p0 p1 x_t_placeCount x_t_personCount x_t_unitCount x_t_persons x_w_number x_w_present x_w_helpCount x_w_clock_running x_w_clock_lastTold x_w_clock_counted = some r)  (hw : f_PS_find p0 x_t_placeCount x_t_personCount x_t_unitCount x_t_persons = some (some a_w)) : cN l y_PS_time w_PS_time { frames := 1, cells := 0, slots := 0, locals := 22 } G sz [.ref a_t, .int p0, .long p1] (ws_PS_time G a_t a_t_right a_t_table a_t_joining a_t_units a_t_draft a_t_reader a_t_persons a_w a_w_board a_w_clock x_t_placeCount x_t_personCount x_t_unitCount x_t_persons x_w_number x_w_present x_w_helpCount x_w_clock_running x_w_clock_lastTold x_w_clock_counted) (some (.long r)) (wB G (ws_PS_time G a_t a_t_right a_t_table a_t_joining a_t_units a_t_draft a_t_reader a_t_persons a_w a_w_board a_w_clock x_t_placeCount x_t_personCount x_t_unitCount x_t_persons x_w_number x_w_present x_w_helpCount x_w_clock_running x_w_clock_lastTold x_w_clock_counted)) 0 0 := by
  refine cN_ofW (cc := prog_1_method_15_code) (maxL := 5) (ret := (some .long)) (by decide) rfl (Nat.le_of_ble_eq_true rfl) ?_
  intro p e s m args below meth c A H locs ls hx hb hr hts hown hlocks hin hml hK hN hP hD hA hS hl
  replace hl : lv_has ls 5 [(0, .ref a_t), (1, .int p0), (2, .long p1)] := hl
  replace hown : s.vm.findClass "PlayStates" = some m.cls := hown
  unfold f_PS_time at h
  refine lv_aload_n hx hb d_PS_time_0 rfl (lv_at hl 0 rfl) ?_
  refine lv_iload_n hx hb d_PS_time_1 rfl (lv_at hl 1 rfl) ?_
  have hPc := hP.sub (ws' := (ws_PS_find G a_t a_t_right a_t_table a_t_joining a_t_units a_t_draft a_t_reader a_t_persons x_t_placeCount x_t_personCount x_t_unitCount x_t_persons)) [0, 1] rfl
  have hDc := hD.sub (ws' := (ws_PS_find G a_t a_t_right a_t_table a_t_joining a_t_units a_t_draft a_t_reader a_t_persons x_t_placeCount x_t_personCount x_t_unitCount x_t_persons)) [0, 1] (by decide) rfl
  have hFc := va_free (wc := (ws_PS_find G a_t a_t_right a_t_table a_t_joining a_t_units a_t_draft a_t_reader a_t_persons x_t_placeCount x_t_personCount x_t_unitCount x_t_persons)) hD hS hA [0, 1] rfl
  refine q_call1 (va_runV (As := [.int p0]) (rest := []) ⟨hx, hb, hml, hown, hts⟩ (c_PS_find l G H.size a_t a_t_right a_t_table a_t_joining a_t_units a_t_draft a_t_reader a_t_persons p0 x_t_placeCount x_t_personCount x_t_unitCount x_t_persons _ hw) (cwV 1 hts (gV gw_163 gw_164 gw_2 gw_31 gw_165) rfl rfl rfl (by decide +kernel) ⟨Nat.le_of_ble_eq_true rfl, Nat.le_of_ble_eq_true rfl⟩) (pV hK hN hPc hDc (ci := 5) (q0 := 0) rfl rfl) rfl rfl hl.1 rfl (lv_room (Nat.le_of_ble_eq_true rfl)) d_PS_time_2 ⟨Nat.le_of_ble_eq_true rfl, Nat.le_of_ble_eq_true rfl⟩) hS (fun q _ h => hFc q h) hFc (fun H1 locs hB hz hk hS => ?_)
  obtain ⟨hP, hD⟩ := q_join (wr := [(a_w, .inr (2, [.int x_w_number, .ref a_w_board, .ref a_w_clock, .int x_w_present, .int x_w_helpCount])), (a_w_clock, .inr (1, [.int x_w_clock_running, .long x_w_clock_lastTold, .long x_w_clock_counted]))]) (wn := (ws_PS_time G a_t a_t_right a_t_table a_t_joining a_t_units a_t_draft a_t_reader a_t_persons a_w a_w_board a_w_clock x_t_placeCount x_t_personCount x_t_unitCount x_t_persons x_w_number x_w_present x_w_helpCount x_w_clock_running x_w_clock_lastTold x_w_clock_counted)) hP hD [0, 1] [2, 3] [2, 3, 0, 1] rfl rfl (by decide) (by decide) rfl (by decide) hk hFc hB.1 hB.2
  generalize H1 = H at hP hS ⊢
  replace hP : va_P G.1 vwCl (ws_PS_time G a_t a_t_right a_t_table a_t_joining a_t_units a_t_draft a_t_reader a_t_persons a_w a_w_board a_w_clock x_t_placeCount x_t_personCount x_t_unitCount x_t_persons x_w_number x_w_present x_w_helpCount x_w_clock_running x_w_clock_lastTold x_w_clock_counted) H := hP
  replace hD : va_D A (ws_PS_time G a_t a_t_right a_t_table a_t_joining a_t_units a_t_draft a_t_reader a_t_persons a_w a_w_board a_w_clock x_t_placeCount x_t_personCount x_t_unitCount x_t_persons x_w_number x_w_present x_w_helpCount x_w_clock_running x_w_clock_lastTold x_w_clock_counted) := hD
  refine lv_astore (lv' := [(4, .ref a_w), (0, .ref a_t), (1, .int p0), (2, .long p1)]) hx hb d_PS_time_5 hl (by decide) rfl (fun ls hl => ?_)
  refine lv_aload hx hb d_PS_time_7 (lv_at hl 0 rfl) ?_
  refine lv_ifnull hx hb d_PS_time_9 ?_
  refine lv_aload hx hb d_PS_time_12 (lv_at hl 0 rfl) ?_
  refine va_getN (D := G.1) (ci := 2) (v := .ref a_w_clock) (C := "PlayStates$Person") (T := TPn) (N := 5) hx hb hts iw_2 hown hK hP 2 rfl rfl 2 (by decide) (va_Nw.use rfl (hN.1 ("PlayStates", 142, "PlayStates$Person", "clock", "LPlayStates$Clock;", "PlayStates") (by decide +kernel))) (fun _ h9 => h9) rfl d_PS_time_14 ?_
  refine lv_lload_n hx hb d_PS_time_17 rfl (lv_at hl 3 rfl) ?_
  obtain ⟨y1, hy1, h⟩ := o_bind h
  have hPc := hP.sub (ws' := (ws_Ck_mayBeTold G a_w_clock x_w_clock_running x_w_clock_lastTold x_w_clock_counted)) [3] rfl
  have hDc := hD.sub (ws' := (ws_Ck_mayBeTold G a_w_clock x_w_clock_running x_w_clock_lastTold x_w_clock_counted)) [3] (by decide) rfl
  have hFc := va_free (wc := (ws_Ck_mayBeTold G a_w_clock x_w_clock_running x_w_clock_lastTold x_w_clock_counted)) hD hS hA [3] rfl
  refine q_call1 (va_runV (As := [.long p1]) (rest := []) ⟨hx, hb, hml, hown, hts⟩ (c_Ck_mayBeTold l G H.size a_w_clock p1 x_w_clock_running x_w_clock_lastTold x_w_clock_counted _ hy1) (cwV 1 hts (gV gw_260 gw_261 gw_262 gw_38 gw_263) rfl rfl rfl (by decide +kernel) ⟨Nat.le_of_ble_eq_true rfl, Nat.le_of_ble_eq_true rfl⟩) (pV hK hN hPc hDc (ci := 1) (q0 := 0) rfl rfl) rfl rfl hl.1 rfl (lv_room (Nat.le_of_ble_eq_true rfl)) d_PS_time_18 ⟨Nat.le_of_ble_eq_true rfl, Nat.le_of_ble_eq_true rfl⟩) hS (fun q _ h => hFc q h) hFc (fun H1 locs hB hz hk hS => ?_)
  obtain ⟨hP, hD⟩ := q_join (wr := [(a_t, .inr (5, [.int x_t_placeCount, .ref a_t_right, .ref a_t_persons, .int x_t_personCount, .ref a_t_table, .ref a_t_joining, .ref a_t_units, .int x_t_unitCount, .ref a_t_draft, .ref a_t_reader])), (a_t_persons, .inl (G.2 3, 8, .inr (.inr (.inr (.inr x_t_persons))))), (a_w, .inr (2, [.int x_w_number, .ref a_w_board, .ref a_w_clock, .int x_w_present, .int x_w_helpCount]))]) (wn := (ws_PS_time G a_t a_t_right a_t_table a_t_joining a_t_units a_t_draft a_t_reader a_t_persons a_w a_w_board a_w_clock x_t_placeCount x_t_personCount x_t_unitCount x_t_persons x_w_number x_w_present x_w_helpCount x_w_clock_running x_w_clock_lastTold x_w_clock_counted)) hP hD [3] [0, 1, 2] [0, 1, 2, 3] rfl rfl (by decide) (by decide) rfl (by decide) hk hFc hB.1 hB.2
  generalize H1 = H at hP hS ⊢
  replace hP : va_P G.1 vwCl (ws_PS_time G a_t a_t_right a_t_table a_t_joining a_t_units a_t_draft a_t_reader a_t_persons a_w a_w_board a_w_clock x_t_placeCount x_t_personCount x_t_unitCount x_t_persons x_w_number x_w_present x_w_helpCount x_w_clock_running x_w_clock_lastTold x_w_clock_counted) H := hP
  replace hD : va_D A (ws_PS_time G a_t a_t_right a_t_table a_t_joining a_t_units a_t_draft a_t_reader a_t_persons a_w a_w_board a_w_clock x_t_placeCount x_t_personCount x_t_unitCount x_t_persons x_w_number x_w_present x_w_helpCount x_w_clock_running x_w_clock_lastTold x_w_clock_counted) := hD
  refine lv_if_ne (tgt := 30) hx hb d_PS_time_21 (by decide) (fun c2 => ?_) (fun c2 => ?_)
  · replace h := (if_neg c2).symm.trans h
    refine lv_aload hx hb d_PS_time_30 (lv_at hl 0 rfl) ?_
    refine va_getN (D := G.1) (ci := 2) (v := .ref a_w_clock) (C := "PlayStates$Person") (T := TPn) (N := 5) hx hb hts iw_2 hown hK hP 2 rfl rfl 2 (by decide) (va_Nw.use rfl (hN.1 ("PlayStates", 142, "PlayStates$Person", "clock", "LPlayStates$Clock;", "PlayStates") (by decide +kernel))) (fun _ h9 => h9) rfl d_PS_time_32 ?_
    refine lv_lload_n hx hb d_PS_time_35 rfl (lv_at hl 3 rfl) ?_
    obtain ⟨y3, hy3, h⟩ := o_bind h
    have hPc := hP.sub (ws' := (ws_Ck_countUpTo G a_w_clock x_w_clock_running x_w_clock_lastTold x_w_clock_counted)) [3] rfl
    have hDc := hD.sub (ws' := (ws_Ck_countUpTo G a_w_clock x_w_clock_running x_w_clock_lastTold x_w_clock_counted)) [3] (by decide) rfl
    have hFc := va_free (wc := (ws_Ck_countUpTo G a_w_clock x_w_clock_running x_w_clock_lastTold x_w_clock_counted)) hD hS hA [3] rfl
    refine q_call1 (va_runV (As := [.long p1]) (rest := []) ⟨hx, hb, hml, hown, hts⟩ (c_Ck_countUpTo l G H.size a_w_clock p1 x_w_clock_running x_w_clock_lastTold x_w_clock_counted _ hy3) (cwV 1 hts (gV gw_277 gw_269 gw_270 gw_38 gw_271) rfl rfl rfl (by decide +kernel) ⟨Nat.le_of_ble_eq_true rfl, Nat.le_of_ble_eq_true rfl⟩) (pV hK hN hPc hDc (ci := 1) (q0 := 0) rfl rfl) rfl rfl hl.1 rfl (lv_room (Nat.le_of_ble_eq_true rfl)) d_PS_time_36 ⟨Nat.le_of_ble_eq_true rfl, Nat.le_of_ble_eq_true rfl⟩) hS (fun q _ h => hFc q h) hFc (fun H1 locs hB hz hk hS => ?_)
    obtain ⟨hP, hD⟩ := q_join (wr := [(a_t, .inr (5, [.int x_t_placeCount, .ref a_t_right, .ref a_t_persons, .int x_t_personCount, .ref a_t_table, .ref a_t_joining, .ref a_t_units, .int x_t_unitCount, .ref a_t_draft, .ref a_t_reader])), (a_t_persons, .inl (G.2 3, 8, .inr (.inr (.inr (.inr x_t_persons))))), (a_w, .inr (2, [.int x_w_number, .ref a_w_board, .ref a_w_clock, .int x_w_present, .int x_w_helpCount]))]) (wn := (ws_PS_time G a_t a_t_right a_t_table a_t_joining a_t_units a_t_draft a_t_reader a_t_persons a_w a_w_board a_w_clock x_t_placeCount x_t_personCount x_t_unitCount x_t_persons x_w_number x_w_present x_w_helpCount x_w_clock_running x_w_clock_lastTold x_w_clock_counted)) hP hD [3] [0, 1, 2] [0, 1, 2, 3] rfl rfl (by decide) (by decide) rfl (by decide) hk hFc hB.1 hB.2
    generalize H1 = H at hP hS ⊢
    replace hP : va_P G.1 vwCl (ws_PS_time G a_t a_t_right a_t_table a_t_joining a_t_units a_t_draft a_t_reader a_t_persons a_w a_w_board a_w_clock x_t_placeCount x_t_personCount x_t_unitCount x_t_persons x_w_number x_w_present x_w_helpCount x_w_clock_running x_w_clock_lastTold x_w_clock_counted) H := hP
    replace hD : va_D A (ws_PS_time G a_t a_t_right a_t_table a_t_joining a_t_units a_t_draft a_t_reader a_t_persons a_w a_w_board a_w_clock x_t_placeCount x_t_personCount x_t_unitCount x_t_persons x_w_number x_w_present x_w_helpCount x_w_clock_running x_w_clock_lastTold x_w_clock_counted) := hD
    cases h
    exact q_lretW hx hb hr hlocks hP hD hS d_PS_time_39
  · replace h := (if_pos c2).symm.trans h
    refine lv_ldc2 (v := (-1 : Int64)) hx hb hown (hts _ gw_276) d_PS_time_24 ?_
    refine lv_goto (tgt := 39) hx hb d_PS_time_27 (by decide) ?_
    cases h
    exact q_lretW hx hb hr hlocks hP hD hS d_PS_time_39


-- PlayStates.time(IJ)J 
def ws_PS_time_no (G : gG) (a_t a_t_right a_t_table a_t_joining a_t_units a_t_draft a_t_reader a_t_persons : Nat)  (x_t_placeCount : Int32) (x_t_personCount : Int32) (x_t_unitCount : Int32) (x_t_persons : Nat → Option Nat) : va_W := [(a_t, .inr (5, [.int x_t_placeCount, .ref a_t_right, .ref a_t_persons, .int x_t_personCount, .ref a_t_table, .ref a_t_joining, .ref a_t_units, .int x_t_unitCount, .ref a_t_draft, .ref a_t_reader])), (a_t_persons, .inl (G.2 3, 8, .inr (.inr (.inr (.inr x_t_persons)))))]
def f_PS_time_no  (p0 : Int32) (p1 : Int64) (x_t_placeCount : Int32) (x_t_personCount : Int32) (x_t_unitCount : Int32) (x_t_persons : Nat → Option Nat) : Option (Int64) :=
  some (-1 : Int64)
set_option maxHeartbeats 4000000 in
set_option maxRecDepth 100000 in
theorem c_PS_time_no (l : Launch) (G : gG) (sz : Nat) (a_t a_t_right a_t_table a_t_joining a_t_units a_t_draft a_t_reader a_t_persons : Nat)  (p0 : Int32) (p1 : Int64) (x_t_placeCount : Int32) (x_t_personCount : Int32) (x_t_unitCount : Int32) (x_t_persons : Nat → Option Nat) (r : Int64) (h : f_PS_time_no p0 p1 x_t_placeCount x_t_personCount x_t_unitCount x_t_persons = some r)  (hw : f_PS_find p0 x_t_placeCount x_t_personCount x_t_unitCount x_t_persons = some none) : cN l y_PS_time w_PS_time { frames := 1, cells := 0, slots := 0, locals := 21 } G sz [.ref a_t, .int p0, .long p1] (ws_PS_time_no G a_t a_t_right a_t_table a_t_joining a_t_units a_t_draft a_t_reader a_t_persons x_t_placeCount x_t_personCount x_t_unitCount x_t_persons) (some (.long r)) (wB G (ws_PS_time_no G a_t a_t_right a_t_table a_t_joining a_t_units a_t_draft a_t_reader a_t_persons x_t_placeCount x_t_personCount x_t_unitCount x_t_persons)) 0 0 := by
  refine cN_ofW (cc := prog_1_method_15_code) (maxL := 5) (ret := (some .long)) (by decide) rfl (Nat.le_of_ble_eq_true rfl) ?_
  intro p e s m args below meth c A H locs ls hx hb hr hts hown hlocks hin hml hK hN hP hD hA hS hl
  replace hl : lv_has ls 5 [(0, .ref a_t), (1, .int p0), (2, .long p1)] := hl
  replace hown : s.vm.findClass "PlayStates" = some m.cls := hown
  unfold f_PS_time_no at h
  refine lv_aload_n hx hb d_PS_time_0 rfl (lv_at hl 0 rfl) ?_
  refine lv_iload_n hx hb d_PS_time_1 rfl (lv_at hl 1 rfl) ?_
  have hPc := hP.sub (ws' := (ws_PS_find G a_t a_t_right a_t_table a_t_joining a_t_units a_t_draft a_t_reader a_t_persons x_t_placeCount x_t_personCount x_t_unitCount x_t_persons)) [0, 1] rfl
  have hDc := hD.sub (ws' := (ws_PS_find G a_t a_t_right a_t_table a_t_joining a_t_units a_t_draft a_t_reader a_t_persons x_t_placeCount x_t_personCount x_t_unitCount x_t_persons)) [0, 1] (by decide) rfl
  have hFc := va_free (wc := (ws_PS_find G a_t a_t_right a_t_table a_t_joining a_t_units a_t_draft a_t_reader a_t_persons x_t_placeCount x_t_personCount x_t_unitCount x_t_persons)) hD hS hA [0, 1] rfl
  refine q_call1 (va_runV (As := [.int p0]) (rest := []) ⟨hx, hb, hml, hown, hts⟩ (c_PS_find l G H.size a_t a_t_right a_t_table a_t_joining a_t_units a_t_draft a_t_reader a_t_persons p0 x_t_placeCount x_t_personCount x_t_unitCount x_t_persons _ hw) (cwV 1 hts (gV gw_163 gw_164 gw_2 gw_31 gw_165) rfl rfl rfl (by decide +kernel) ⟨Nat.le_of_ble_eq_true rfl, Nat.le_of_ble_eq_true rfl⟩) (pV hK hN hPc hDc (ci := 5) (q0 := 0) rfl rfl) rfl rfl hl.1 rfl (lv_room (Nat.le_of_ble_eq_true rfl)) d_PS_time_2 ⟨Nat.le_of_ble_eq_true rfl, Nat.le_of_ble_eq_true rfl⟩) hS (fun q _ h => hFc q h) hFc (fun H1 locs hB hz hk hS => ?_)
  obtain ⟨hP, hD⟩ := q_joinA hFc hB.1 hB.2
  generalize H1 = H at hP hS ⊢
  replace hP : va_P G.1 vwCl (ws_PS_time_no G a_t a_t_right a_t_table a_t_joining a_t_units a_t_draft a_t_reader a_t_persons x_t_placeCount x_t_personCount x_t_unitCount x_t_persons) H := hP
  replace hD : va_D A (ws_PS_time_no G a_t a_t_right a_t_table a_t_joining a_t_units a_t_draft a_t_reader a_t_persons x_t_placeCount x_t_personCount x_t_unitCount x_t_persons) := hD
  refine lv_astoreN (lv' := [(4, .null), (0, .ref a_t), (1, .int p0), (2, .long p1)]) hx hb d_PS_time_5 hl (by decide) rfl (fun ls hl => ?_)
  refine lv_aloadN hx hb d_PS_time_7 (lv_at hl 0 rfl) ?_
  refine lv_ifnullN (tgt := 24) hx hb d_PS_time_9 (by decide) ?_
  refine lv_ldc2 (v := (-1 : Int64)) hx hb hown (hts _ gw_276) d_PS_time_24 ?_
  refine lv_goto (tgt := 39) hx hb d_PS_time_27 (by decide) ?_
  cases h
  exact q_lretW hx hb hr hlocks hP hD hS d_PS_time_39
end
section
theorem gw_244 : (.code ⟨"PlayStates", "isWrong", "(II)Z"⟩ prog_1_method_23_code 2 (some .boolean) : Cond) ∈ GW := gT 270 (by decide +kernel) (by decide +kernel)
theorem gw_242 : (.methodLink "PlayStates" 131 ⟨"PlayStates", "isWrong", "(II)Z"⟩ : Cond) ∈ GW := gT 268 (by decide +kernel) (by decide +kernel)
theorem gw_243 : (.static ⟨"PlayStates", "isWrong", "(II)Z"⟩ : Cond) ∈ GW := gT 269 (by decide +kernel) (by decide +kernel)
theorem d_PS_wrong_0 : decode prog_1_method_11_code 0 = .ok (.aload_n 0, 1) := by decide +kernel
theorem d_PS_wrong_1 : decode prog_1_method_11_code 1 = .ok (.iload_n 1, 1) := by decide +kernel
theorem d_PS_wrong_2 : decode prog_1_method_11_code 2 = .ok (.invokevirtual 75, 3) := by decide +kernel
theorem d_PS_wrong_5 : decode prog_1_method_11_code 5 = .ok (.astore_n 2, 1) := by decide +kernel
theorem d_PS_wrong_6 : decode prog_1_method_11_code 6 = .ok (.aload_n 2, 1) := by decide +kernel
theorem d_PS_wrong_7 : decode prog_1_method_11_code 7 = .ok (.ifnonnull 5, 3) := by decide +kernel
theorem d_PS_wrong_10 : decode prog_1_method_11_code 10 = .ok (.iconst (-1), 1) := by decide +kernel
theorem d_PS_wrong_11 : decode prog_1_method_11_code 11 = .ok (.ireturn, 1) := by decide +kernel
theorem d_PS_wrong_12 : decode prog_1_method_11_code 12 = .ok (.iconst 0, 1) := by decide +kernel
theorem d_PS_wrong_13 : decode prog_1_method_11_code 13 = .ok (.istore_n 3, 1) := by decide +kernel
theorem d_PS_wrong_14 : decode prog_1_method_11_code 14 = .ok (.iconst 0, 1) := by decide +kernel
theorem d_PS_wrong_15 : decode prog_1_method_11_code 15 = .ok (.istore 4, 2) := by decide +kernel
theorem d_PS_wrong_17 : decode prog_1_method_11_code 17 = .ok (.iload 4, 2) := by decide +kernel
theorem d_PS_wrong_19 : decode prog_1_method_11_code 19 = .ok (.aload_n 0, 1) := by decide +kernel
theorem d_PS_wrong_20 : decode prog_1_method_11_code 20 = .ok (.getfield 18, 3) := by decide +kernel
theorem d_PS_wrong_23 : decode prog_1_method_11_code 23 = .ok (.if_icmp .ge 35, 3) := by decide +kernel
theorem d_PS_wrong_26 : decode prog_1_method_11_code 26 = .ok (.aload_n 0, 1) := by decide +kernel
theorem d_PS_wrong_27 : decode prog_1_method_11_code 27 = .ok (.getfield 22, 3) := by decide +kernel
theorem d_PS_wrong_30 : decode prog_1_method_11_code 30 = .ok (.iload 4, 2) := by decide +kernel
theorem d_PS_wrong_32 : decode prog_1_method_11_code 32 = .ok (.iaload, 1) := by decide +kernel
theorem d_PS_wrong_33 : decode prog_1_method_11_code 33 = .ok (.aload_n 2, 1) := by decide +kernel
theorem d_PS_wrong_34 : decode prog_1_method_11_code 34 = .ok (.getfield 99, 3) := by decide +kernel
theorem d_PS_wrong_37 : decode prog_1_method_11_code 37 = .ok (.getfield 125, 3) := by decide +kernel
theorem d_PS_wrong_40 : decode prog_1_method_11_code 40 = .ok (.iload 4, 2) := by decide +kernel
theorem d_PS_wrong_42 : decode prog_1_method_11_code 42 = .ok (.iaload, 1) := by decide +kernel
theorem d_PS_wrong_43 : decode prog_1_method_11_code 43 = .ok (.invokestatic 131, 3) := by decide +kernel
theorem d_PS_wrong_46 : decode prog_1_method_11_code 46 = .ok (.ifCond .eq 6, 3) := by decide +kernel
theorem d_PS_wrong_49 : decode prog_1_method_11_code 49 = .ok (.iinc 3 1, 3) := by decide +kernel
theorem d_PS_wrong_52 : decode prog_1_method_11_code 52 = .ok (.iinc 4 1, 3) := by decide +kernel
theorem d_PS_wrong_55 : decode prog_1_method_11_code 55 = .ok (.goto (-38), 3) := by decide +kernel
theorem d_PS_wrong_58 : decode prog_1_method_11_code 58 = .ok (.iload_n 3, 1) := by decide +kernel
theorem d_PS_wrong_59 : decode prog_1_method_11_code 59 = .ok (.ireturn, 1) := by decide +kernel
-- PlayStates.wrong(I)I 
def ws_PS_wrong (G : gG) (a_t a_t_table a_t_joining a_t_units a_t_draft a_t_reader a_t_right a_t_persons a_w a_w_clock a_w_board a_w_board_markBits a_w_board_entries : Nat) (n : Nat) (x_t_placeCount : Int32) (x_t_personCount : Int32) (x_t_unitCount : Int32) (x_t_right : Nat → Int32) (x_t_persons : Nat → Option Nat) (x_w_number : Int32) (x_w_present : Int32) (x_w_helpCount : Int32) (x_w_board_entries : Nat → Int32) : va_W := [(a_t, .inr (5, [.int x_t_placeCount, .ref a_t_right, .ref a_t_persons, .int x_t_personCount, .ref a_t_table, .ref a_t_joining, .ref a_t_units, .int x_t_unitCount, .ref a_t_draft, .ref a_t_reader])), (a_t_right, .inl (G.2 0, n, .inl x_t_right)), (a_t_persons, .inl (G.2 3, 8, .inr (.inr (.inr (.inr x_t_persons))))), (a_w, .inr (2, [.int x_w_number, .ref a_w_board, .ref a_w_clock, .int x_w_present, .int x_w_helpCount])), (a_w_board, .inr (0, [.ref a_w_board_entries, .ref a_w_board_markBits])), (a_w_board_entries, .inl (G.2 0, n, .inl x_w_board_entries))]
def fb_PS_wrong_L17 (fu : Nat) (n : Nat) (x_t_placeCount : Int32) (x_t_personCount : Int32) (x_t_unitCount : Int32) (x_t_right : Nat → Int32) (x_t_persons : Nat → Option Nat) (x_w_number : Int32) (x_w_present : Int32) (x_w_helpCount : Int32) (x_w_board_entries : Nat → Int32)  (k17 : (Int32 → Int32 → Int32 → Option (Int32))) (l17_1 : Int32) (l17_3 : Int32) (l17_4 : Int32) : Option (Int32) :=
  (if x_t_placeCount ≤ l17_4 then some l17_3 else (if inB l17_4 n then (if inB l17_4 n then ((f_PS_isWrong (x_t_right l17_4.toNatClampNeg) (x_w_board_entries l17_4.toNatClampNeg)).bind fun y4 => (if y4 = 0 then (k17 l17_1 l17_3 (l17_4 + (1 : Int32))) else (k17 l17_1 (l17_3 + (1 : Int32)) (l17_4 + (1 : Int32))))) else none) else none))
def f_PS_wrong_L17 (fu : Nat) (n : Nat) (x_t_placeCount : Int32) (x_t_personCount : Int32) (x_t_unitCount : Int32) (x_t_right : Nat → Int32) (x_t_persons : Nat → Option Nat) (x_w_number : Int32) (x_w_present : Int32) (x_w_helpCount : Int32) (x_w_board_entries : Nat → Int32)  : Nat → Int32 → Int32 → Int32 → Option (Int32)
  | 0 => fun _ _ _ => none
  | k9 + 1 => fb_PS_wrong_L17 fu n x_t_placeCount x_t_personCount x_t_unitCount x_t_right x_t_persons x_w_number x_w_present x_w_helpCount x_w_board_entries (f_PS_wrong_L17 fu n x_t_placeCount x_t_personCount x_t_unitCount x_t_right x_t_persons x_w_number x_w_present x_w_helpCount x_w_board_entries k9)
def f_PS_wrong (fu : Nat) (n : Nat) (p0 : Int32) (x_t_placeCount : Int32) (x_t_personCount : Int32) (x_t_unitCount : Int32) (x_t_right : Nat → Int32) (x_t_persons : Nat → Option Nat) (x_w_number : Int32) (x_w_present : Int32) (x_w_helpCount : Int32) (x_w_board_entries : Nat → Int32) : Option (Int32) :=
  (f_PS_wrong_L17 fu n x_t_placeCount x_t_personCount x_t_unitCount x_t_right x_t_persons x_w_number x_w_present x_w_helpCount x_w_board_entries fu p0 (0 : Int32) (0 : Int32))
set_option maxHeartbeats 4000000 in
set_option maxRecDepth 100000 in
theorem c_PS_wrong (l : Launch) (G : gG) (sz : Nat) (a_t a_t_table a_t_joining a_t_units a_t_draft a_t_reader a_t_right a_t_persons a_w a_w_clock a_w_board a_w_board_markBits a_w_board_entries : Nat) (fu : Nat) (n : Nat) (p0 : Int32) (x_t_placeCount : Int32) (x_t_personCount : Int32) (x_t_unitCount : Int32) (x_t_right : Nat → Int32) (x_t_persons : Nat → Option Nat) (x_w_number : Int32) (x_w_present : Int32) (x_w_helpCount : Int32) (x_w_board_entries : Nat → Int32) (r : Int32) (h : f_PS_wrong fu n p0 x_t_placeCount x_t_personCount x_t_unitCount x_t_right x_t_persons x_w_number x_w_present x_w_helpCount x_w_board_entries = some r)  (hw : f_PS_find p0 x_t_placeCount x_t_personCount x_t_unitCount x_t_persons = some (some a_w)) : cN l y_PS_wrong w_PS_wrong { frames := 1, cells := 0, slots := 0, locals := 21 } G sz [.ref a_t, .int p0] (ws_PS_wrong G a_t a_t_table a_t_joining a_t_units a_t_draft a_t_reader a_t_right a_t_persons a_w a_w_clock a_w_board a_w_board_markBits a_w_board_entries n x_t_placeCount x_t_personCount x_t_unitCount x_t_right x_t_persons x_w_number x_w_present x_w_helpCount x_w_board_entries) (some (.int r)) (wB G (ws_PS_wrong G a_t a_t_table a_t_joining a_t_units a_t_draft a_t_reader a_t_right a_t_persons a_w a_w_clock a_w_board a_w_board_markBits a_w_board_entries n x_t_placeCount x_t_personCount x_t_unitCount x_t_right x_t_persons x_w_number x_w_present x_w_helpCount x_w_board_entries)) 0 0 := by
  refine cN_ofW (cc := prog_1_method_11_code) (maxL := 5) (ret := (some .int)) (by decide) rfl (Nat.le_of_ble_eq_true rfl) ?_
  intro p e s m args below meth c A H locs ls hx hb hr hts hown hlocks hin hml hK hN hP hD hA hS hl
  replace hl : lv_has ls 5 [(0, .ref a_t), (1, .int p0)] := hl
  replace hown : s.vm.findClass "PlayStates" = some m.cls := hown
  unfold f_PS_wrong at h
  refine lv_aload_n hx hb d_PS_wrong_0 rfl (lv_at hl 0 rfl) ?_
  refine lv_iload_n hx hb d_PS_wrong_1 rfl (lv_at hl 1 rfl) ?_
  have hPc := hP.sub (ws' := (ws_PS_find G a_t a_t_right a_t_table a_t_joining a_t_units a_t_draft a_t_reader a_t_persons x_t_placeCount x_t_personCount x_t_unitCount x_t_persons)) [0, 2] rfl
  have hDc := hD.sub (ws' := (ws_PS_find G a_t a_t_right a_t_table a_t_joining a_t_units a_t_draft a_t_reader a_t_persons x_t_placeCount x_t_personCount x_t_unitCount x_t_persons)) [0, 2] (by decide) rfl
  have hFc := va_free (wc := (ws_PS_find G a_t a_t_right a_t_table a_t_joining a_t_units a_t_draft a_t_reader a_t_persons x_t_placeCount x_t_personCount x_t_unitCount x_t_persons)) hD hS hA [0, 2] rfl
  refine q_call1 (va_runV (As := [.int p0]) (rest := []) ⟨hx, hb, hml, hown, hts⟩ (c_PS_find l G H.size a_t a_t_right a_t_table a_t_joining a_t_units a_t_draft a_t_reader a_t_persons p0 x_t_placeCount x_t_personCount x_t_unitCount x_t_persons _ hw) (cwV 1 hts (gV gw_163 gw_164 gw_2 gw_31 gw_165) rfl rfl rfl (by decide +kernel) ⟨Nat.le_of_ble_eq_true rfl, Nat.le_of_ble_eq_true rfl⟩) (pV hK hN hPc hDc (ci := 5) (q0 := 0) rfl rfl) rfl rfl hl.1 rfl (lv_room (Nat.le_of_ble_eq_true rfl)) d_PS_wrong_2 ⟨Nat.le_of_ble_eq_true rfl, Nat.le_of_ble_eq_true rfl⟩) hS (fun q _ h => hFc q h) hFc (fun H1 locs hB hz hk hS => ?_)
  obtain ⟨hP, hD⟩ := q_join (wr := [(a_t_right, .inl (G.2 0, n, .inl x_t_right)), (a_w, .inr (2, [.int x_w_number, .ref a_w_board, .ref a_w_clock, .int x_w_present, .int x_w_helpCount])), (a_w_board, .inr (0, [.ref a_w_board_entries, .ref a_w_board_markBits])), (a_w_board_entries, .inl (G.2 0, n, .inl x_w_board_entries))]) (wn := (ws_PS_wrong G a_t a_t_table a_t_joining a_t_units a_t_draft a_t_reader a_t_right a_t_persons a_w a_w_clock a_w_board a_w_board_markBits a_w_board_entries n x_t_placeCount x_t_personCount x_t_unitCount x_t_right x_t_persons x_w_number x_w_present x_w_helpCount x_w_board_entries)) hP hD [0, 2] [1, 3, 4, 5] [4, 0, 5, 1, 2, 3] rfl rfl (by decide) (by decide) rfl (by decide) hk hFc hB.1 hB.2
  generalize H1 = H at hP hS ⊢
  replace hP : va_P G.1 vwCl (ws_PS_wrong G a_t a_t_table a_t_joining a_t_units a_t_draft a_t_reader a_t_right a_t_persons a_w a_w_clock a_w_board a_w_board_markBits a_w_board_entries n x_t_placeCount x_t_personCount x_t_unitCount x_t_right x_t_persons x_w_number x_w_present x_w_helpCount x_w_board_entries) H := hP
  replace hD : va_D A (ws_PS_wrong G a_t a_t_table a_t_joining a_t_units a_t_draft a_t_reader a_t_right a_t_persons a_w a_w_clock a_w_board a_w_board_markBits a_w_board_entries n x_t_placeCount x_t_personCount x_t_unitCount x_t_right x_t_persons x_w_number x_w_present x_w_helpCount x_w_board_entries) := hD
  refine lv_astore_n (lv' := [(2, .ref a_w), (0, .ref a_t), (1, .int p0)]) hx hb d_PS_wrong_5 rfl hl (by decide) rfl (fun ls hl => ?_)
  refine lv_aload_n hx hb d_PS_wrong_6 rfl (lv_at hl 0 rfl) ?_
  refine lv_ifnonnull (tgt := 12) hx hb d_PS_wrong_7 (by decide) ?_
  refine lv_iconst (v := (0 : Int32)) hx hb d_PS_wrong_12 (by decide) ?_
  refine lv_istore_n (lv' := [(3, .int (0 : Int32)), (2, .ref a_w), (0, .ref a_t), (1, .int p0)]) hx hb d_PS_wrong_13 rfl hl (by decide) rfl (fun ls hl => ?_)
  refine lv_iconst (v := (0 : Int32)) hx hb d_PS_wrong_14 (by decide) ?_
  refine lv_istore (lv' := [(4, .int (0 : Int32)), (3, .int (0 : Int32)), (2, .ref a_w), (0, .ref a_t), (1, .int p0)]) hx hb d_PS_wrong_15 hl (by decide) rfl (fun ls hl => ?_)
  have L17 : ∀ (nf : Nat) (l17_1 : Int32) (l17_3 : Int32) (l17_4 : Int32) (H : Heap) (locs : List Loc) (ls : Array Slot), f_PS_wrong_L17 fu n x_t_placeCount x_t_personCount x_t_unitCount x_t_right x_t_persons x_w_number x_w_present x_w_helpCount x_w_board_entries nf l17_1 l17_3 l17_4 = some r → va_P G.1 vwCl (ws_PS_wrong G a_t a_t_table a_t_joining a_t_units a_t_draft a_t_reader a_t_right a_t_persons a_w a_w_clock a_w_board a_w_board_markBits a_w_board_entries n x_t_placeCount x_t_personCount x_t_unitCount x_t_right x_t_persons x_w_number x_w_present x_w_helpCount x_w_board_entries) H → va_D A (ws_PS_wrong G a_t a_t_table a_t_joining a_t_units a_t_draft a_t_reader a_t_right a_t_persons a_w a_w_clock a_w_board a_w_board_markBits a_w_board_entries n x_t_placeCount x_t_personCount x_t_unitCount x_t_right x_t_persons x_w_number x_w_present x_w_helpCount x_w_board_entries) → va_S A s.heap H locs → lv_has ls 5 [(0, .ref a_t), (1, .int l17_1), (2, .ref a_w), (3, .int l17_3), (4, .int l17_4)] → W p l e { frames := 1, cells := 0, slots := 0, locals := 21 } s m args below meth c H locs 0 0 (MQ below (qQ (some (.int r)) (wB G (ws_PS_wrong G a_t a_t_table a_t_joining a_t_units a_t_draft a_t_reader a_t_right a_t_persons a_w a_w_clock a_w_board a_w_board_markBits a_w_board_entries n x_t_placeCount x_t_personCount x_t_unitCount x_t_right x_t_persons x_w_number x_w_present x_w_helpCount x_w_board_entries) A) A) args s 0 0 A) (F0 m 17 ls []) := by
    clear h hP hD hS hl
    intro n17
    induction n17 with
    | zero => intro _ _ _ H locs ls h; exact nomatch (show none = some _ from h)
    | succ n17 ih17 =>
      intro l17_1 l17_3 l17_4 H locs ls h hP hD hS hl
      replace h : fb_PS_wrong_L17 fu n x_t_placeCount x_t_personCount x_t_unitCount x_t_right x_t_persons x_w_number x_w_present x_w_helpCount x_w_board_entries (f_PS_wrong_L17 fu n x_t_placeCount x_t_personCount x_t_unitCount x_t_right x_t_persons x_w_number x_w_present x_w_helpCount x_w_board_entries n17) l17_1 l17_3 l17_4 = some r := h
      unfold fb_PS_wrong_L17 at h
      refine lv_iload hx hb d_PS_wrong_17 (lv_at hl 4 rfl) ?_
      refine lv_aload_n hx hb d_PS_wrong_19 rfl (lv_at hl 0 rfl) ?_
      refine va_get (D := G.1) (ci := 5) (v := .int x_t_placeCount) (C := "PlayStates") (T := TPS) (N := 10) hx hb hts iw_5 hown hK hP 0 rfl rfl 0 (by decide) (hts _ gw_102) (fun _ h9 => h9) rfl d_PS_wrong_20 ?_
      refine lv_icmp_ge (tgt := 58) hx hb d_PS_wrong_23 (by decide) (fun c1 => ?_) (fun c1 => ?_)
      · replace h := (if_pos c1).symm.trans h
        refine lv_iload_n hx hb d_PS_wrong_58 rfl (lv_at hl 3 rfl) ?_
        cases h
        exact q_iretW hx hb hr hlocks hP hD hS d_PS_wrong_59
      · replace h := (if_neg c1).symm.trans h
        refine lv_aload_n hx hb d_PS_wrong_26 rfl (lv_at hl 0 rfl) ?_
        refine va_get (D := G.1) (ci := 5) (v := .ref a_t_right) (C := "PlayStates") (T := TPS) (N := 10) hx hb hts iw_5 hown hK hP 0 rfl rfl 1 (by decide) (hts _ gw_103) (fun _ h9 => h9) rfl d_PS_wrong_27 ?_
        refine lv_iload hx hb d_PS_wrong_30 (lv_at hl 4 rfl) ?_
        obtain ⟨i2, h⟩ := o_if h
        refine va_iald (n := n) (f := x_t_right) hx hb hK hP 1 0 rfl rfl i2 d_PS_wrong_32 ?_
        refine lv_aload_n hx hb d_PS_wrong_33 rfl (lv_at hl 2 rfl) ?_
        refine va_getN (D := G.1) (ci := 2) (v := .ref a_w_board) (C := "PlayStates$Person") (T := TPn) (N := 5) hx hb hts iw_2 hown hK hP 3 rfl rfl 1 (by decide) (va_Nw.use rfl (hN.1 ("PlayStates", 99, "PlayStates$Person", "board", "LPlayStates$Board;", "PlayStates") (by decide +kernel))) (fun _ h9 => h9) rfl d_PS_wrong_34 ?_
        refine va_getN (D := G.1) (ci := 0) (v := .ref a_w_board_entries) (C := "PlayStates$Board") (T := TBd) (N := 2) hx hb hts iw_0 hown hK hP 4 rfl rfl 0 (by decide) (va_Nw.use rfl (hN.1 ("PlayStates", 125, "PlayStates$Board", "entries", "[I", "PlayStates") (by decide +kernel))) (fun _ h9 => h9) rfl d_PS_wrong_37 ?_
        refine lv_iload hx hb d_PS_wrong_40 (lv_at hl 4 rfl) ?_
        obtain ⟨i3, h⟩ := o_if h
        refine va_iald (n := n) (f := x_w_board_entries) hx hb hK hP 5 0 rfl rfl i3 d_PS_wrong_42 ?_
        obtain ⟨y4, hy4, h⟩ := o_bind h
        have hPc := hP.sub (ws' := (ws_PS_isWrong G)) [] rfl
        have hDc := hD.sub (ws' := (ws_PS_isWrong G)) [] (by decide) rfl
        have hFc := va_free (wc := (ws_PS_isWrong G)) hD hS hA [] rfl
        refine q_call1 (va_runS (As := [.int (x_t_right l17_4.toNatClampNeg), .int (x_w_board_entries l17_4.toNatClampNeg)]) (rest := []) ⟨hx, hb, hml, hown, hts⟩ (c_PS_isWrong l G H.size (x_t_right l17_4.toNatClampNeg) (x_w_board_entries l17_4.toNatClampNeg) _ hy4) ⟨callB_of 2 hts (gC gw_244) rfl rfl rfl (hts _ gw_31) (hts _ gw_242) (by decide +kernel) ⟨Nat.le_of_ble_eq_true rfl, Nat.le_of_ble_eq_true rfl⟩, hts _ gw_243⟩ (pS hK hN hPc hDc) rfl rfl hl.1 rfl (lv_room (Nat.le_of_ble_eq_true rfl)) d_PS_wrong_43 ⟨Nat.le_of_ble_eq_true rfl, Nat.le_of_ble_eq_true rfl⟩) hS (fun q _ h => hFc q h) hFc (fun H1 locs hB hz hk hS => ?_)
        obtain ⟨hP, hD⟩ := q_join (wr := [(a_t, .inr (5, [.int x_t_placeCount, .ref a_t_right, .ref a_t_persons, .int x_t_personCount, .ref a_t_table, .ref a_t_joining, .ref a_t_units, .int x_t_unitCount, .ref a_t_draft, .ref a_t_reader])), (a_t_right, .inl (G.2 0, n, .inl x_t_right)), (a_t_persons, .inl (G.2 3, 8, .inr (.inr (.inr (.inr x_t_persons))))), (a_w, .inr (2, [.int x_w_number, .ref a_w_board, .ref a_w_clock, .int x_w_present, .int x_w_helpCount])), (a_w_board, .inr (0, [.ref a_w_board_entries, .ref a_w_board_markBits])), (a_w_board_entries, .inl (G.2 0, n, .inl x_w_board_entries))]) (wn := (ws_PS_wrong G a_t a_t_table a_t_joining a_t_units a_t_draft a_t_reader a_t_right a_t_persons a_w a_w_clock a_w_board a_w_board_markBits a_w_board_entries n x_t_placeCount x_t_personCount x_t_unitCount x_t_right x_t_persons x_w_number x_w_present x_w_helpCount x_w_board_entries)) hP hD [] [0, 1, 2, 3, 4, 5] [0, 1, 2, 3, 4, 5] rfl rfl (by decide) (by decide) rfl (by decide) hk hFc hB.1 hB.2
        generalize H1 = H at hP hS ⊢
        replace hP : va_P G.1 vwCl (ws_PS_wrong G a_t a_t_table a_t_joining a_t_units a_t_draft a_t_reader a_t_right a_t_persons a_w a_w_clock a_w_board a_w_board_markBits a_w_board_entries n x_t_placeCount x_t_personCount x_t_unitCount x_t_right x_t_persons x_w_number x_w_present x_w_helpCount x_w_board_entries) H := hP
        replace hD : va_D A (ws_PS_wrong G a_t a_t_table a_t_joining a_t_units a_t_draft a_t_reader a_t_right a_t_persons a_w a_w_clock a_w_board a_w_board_markBits a_w_board_entries n x_t_placeCount x_t_personCount x_t_unitCount x_t_right x_t_persons x_w_number x_w_present x_w_helpCount x_w_board_entries) := hD
        refine lv_if_eq (tgt := 52) hx hb d_PS_wrong_46 (by decide) (fun c5 => ?_) (fun c5 => ?_)
        · replace h := (if_pos c5).symm.trans h
          refine lv_iinc (v := (l17_4 + (1 : Int32))) (lv' := [(4, .int (l17_4 + (1 : Int32))), (0, .ref a_t), (1, .int l17_1), (2, .ref a_w), (3, .int l17_3)]) hx hb d_PS_wrong_52 hl (k := 4) rfl rfl (by decide) rfl (fun ls hl => ?_)
          refine lv_goto (tgt := 17) hx hb d_PS_wrong_55 (by decide) ?_
          exact ih17 l17_1 l17_3 (l17_4 + (1 : Int32)) _ _ _ h hP hD hS (lv_sub hl [1, 2, 3, 4, 0] rfl)
        · replace h := (if_neg c5).symm.trans h
          refine lv_iinc (v := (l17_3 + (1 : Int32))) (lv' := [(3, .int (l17_3 + (1 : Int32))), (0, .ref a_t), (1, .int l17_1), (2, .ref a_w), (4, .int l17_4)]) hx hb d_PS_wrong_49 hl (k := 3) rfl rfl (by decide) rfl (fun ls hl => ?_)
          refine lv_iinc (v := (l17_4 + (1 : Int32))) (lv' := [(4, .int (l17_4 + (1 : Int32))), (3, .int (l17_3 + (1 : Int32))), (0, .ref a_t), (1, .int l17_1), (2, .ref a_w)]) hx hb d_PS_wrong_52 hl (k := 4) rfl rfl (by decide) rfl (fun ls hl => ?_)
          refine lv_goto (tgt := 17) hx hb d_PS_wrong_55 (by decide) ?_
          exact ih17 l17_1 (l17_3 + (1 : Int32)) (l17_4 + (1 : Int32)) _ _ _ h hP hD hS (lv_sub hl [2, 3, 4, 1, 0] rfl)
  exact L17 fu p0 (0 : Int32) (0 : Int32) _ _ _ h hP hD hS (lv_sub hl [3, 4, 2, 1, 0] rfl)


-- PlayStates.wrong(I)I 
def ws_PS_wrong_no (G : gG) (a_t a_t_right a_t_table a_t_joining a_t_units a_t_draft a_t_reader a_t_persons : Nat)  (x_t_placeCount : Int32) (x_t_personCount : Int32) (x_t_unitCount : Int32) (x_t_persons : Nat → Option Nat) : va_W := [(a_t, .inr (5, [.int x_t_placeCount, .ref a_t_right, .ref a_t_persons, .int x_t_personCount, .ref a_t_table, .ref a_t_joining, .ref a_t_units, .int x_t_unitCount, .ref a_t_draft, .ref a_t_reader])), (a_t_persons, .inl (G.2 3, 8, .inr (.inr (.inr (.inr x_t_persons)))))]
def f_PS_wrong_no  (p0 : Int32) (x_t_placeCount : Int32) (x_t_personCount : Int32) (x_t_unitCount : Int32) (x_t_persons : Nat → Option Nat) : Option (Int32) :=
  some (-1 : Int32)
set_option maxHeartbeats 4000000 in
set_option maxRecDepth 100000 in
theorem c_PS_wrong_no (l : Launch) (G : gG) (sz : Nat) (a_t a_t_right a_t_table a_t_joining a_t_units a_t_draft a_t_reader a_t_persons : Nat)  (p0 : Int32) (x_t_placeCount : Int32) (x_t_personCount : Int32) (x_t_unitCount : Int32) (x_t_persons : Nat → Option Nat) (r : Int32) (h : f_PS_wrong_no p0 x_t_placeCount x_t_personCount x_t_unitCount x_t_persons = some r)  (hw : f_PS_find p0 x_t_placeCount x_t_personCount x_t_unitCount x_t_persons = some none) : cN l y_PS_wrong w_PS_wrong { frames := 1, cells := 0, slots := 0, locals := 21 } G sz [.ref a_t, .int p0] (ws_PS_wrong_no G a_t a_t_right a_t_table a_t_joining a_t_units a_t_draft a_t_reader a_t_persons x_t_placeCount x_t_personCount x_t_unitCount x_t_persons) (some (.int r)) (wB G (ws_PS_wrong_no G a_t a_t_right a_t_table a_t_joining a_t_units a_t_draft a_t_reader a_t_persons x_t_placeCount x_t_personCount x_t_unitCount x_t_persons)) 0 0 := by
  refine cN_ofW (cc := prog_1_method_11_code) (maxL := 5) (ret := (some .int)) (by decide) rfl (Nat.le_of_ble_eq_true rfl) ?_
  intro p e s m args below meth c A H locs ls hx hb hr hts hown hlocks hin hml hK hN hP hD hA hS hl
  replace hl : lv_has ls 5 [(0, .ref a_t), (1, .int p0)] := hl
  replace hown : s.vm.findClass "PlayStates" = some m.cls := hown
  unfold f_PS_wrong_no at h
  refine lv_aload_n hx hb d_PS_wrong_0 rfl (lv_at hl 0 rfl) ?_
  refine lv_iload_n hx hb d_PS_wrong_1 rfl (lv_at hl 1 rfl) ?_
  have hPc := hP.sub (ws' := (ws_PS_find G a_t a_t_right a_t_table a_t_joining a_t_units a_t_draft a_t_reader a_t_persons x_t_placeCount x_t_personCount x_t_unitCount x_t_persons)) [0, 1] rfl
  have hDc := hD.sub (ws' := (ws_PS_find G a_t a_t_right a_t_table a_t_joining a_t_units a_t_draft a_t_reader a_t_persons x_t_placeCount x_t_personCount x_t_unitCount x_t_persons)) [0, 1] (by decide) rfl
  have hFc := va_free (wc := (ws_PS_find G a_t a_t_right a_t_table a_t_joining a_t_units a_t_draft a_t_reader a_t_persons x_t_placeCount x_t_personCount x_t_unitCount x_t_persons)) hD hS hA [0, 1] rfl
  refine q_call1 (va_runV (As := [.int p0]) (rest := []) ⟨hx, hb, hml, hown, hts⟩ (c_PS_find l G H.size a_t a_t_right a_t_table a_t_joining a_t_units a_t_draft a_t_reader a_t_persons p0 x_t_placeCount x_t_personCount x_t_unitCount x_t_persons _ hw) (cwV 1 hts (gV gw_163 gw_164 gw_2 gw_31 gw_165) rfl rfl rfl (by decide +kernel) ⟨Nat.le_of_ble_eq_true rfl, Nat.le_of_ble_eq_true rfl⟩) (pV hK hN hPc hDc (ci := 5) (q0 := 0) rfl rfl) rfl rfl hl.1 rfl (lv_room (Nat.le_of_ble_eq_true rfl)) d_PS_wrong_2 ⟨Nat.le_of_ble_eq_true rfl, Nat.le_of_ble_eq_true rfl⟩) hS (fun q _ h => hFc q h) hFc (fun H1 locs hB hz hk hS => ?_)
  obtain ⟨hP, hD⟩ := q_joinA hFc hB.1 hB.2
  generalize H1 = H at hP hS ⊢
  replace hP : va_P G.1 vwCl (ws_PS_wrong_no G a_t a_t_right a_t_table a_t_joining a_t_units a_t_draft a_t_reader a_t_persons x_t_placeCount x_t_personCount x_t_unitCount x_t_persons) H := hP
  replace hD : va_D A (ws_PS_wrong_no G a_t a_t_right a_t_table a_t_joining a_t_units a_t_draft a_t_reader a_t_persons x_t_placeCount x_t_personCount x_t_unitCount x_t_persons) := hD
  refine lv_astore_nN (lv' := [(2, .null), (0, .ref a_t), (1, .int p0)]) hx hb d_PS_wrong_5 rfl hl (by decide) rfl (fun ls hl => ?_)
  refine lv_aload_nN hx hb d_PS_wrong_6 rfl (lv_at hl 0 rfl) ?_
  refine lv_ifnonnullN hx hb d_PS_wrong_7 ?_
  refine lv_iconst (v := (-1 : Int32)) hx hb d_PS_wrong_10 (by decide) ?_
  cases h
  exact q_iretW hx hb hr hlocks hP hD hS d_PS_wrong_11

theorem gw_302 : (.methodLink "PlayStates" 176 ⟨"PlayStates$Board", "textSize", "(I)I"⟩ : Cond) ∈ GW := gT 332 (by decide +kernel) (by decide +kernel)
theorem gw_315 : (.code ⟨"PlayStates$Board", "textByte", "(II)I"⟩ prog_2_method_8_code 3 (some .int) : Cond) ∈ GW := gT 345 (by decide +kernel) (by decide +kernel)
theorem gw_312 : (.methodLink "PlayStates" 179 ⟨"PlayStates$Board", "textByte", "(II)I"⟩ : Cond) ∈ GW := gT 342 (by decide +kernel) (by decide +kernel)
theorem gw_313 : (.instanceMethod ⟨"PlayStates$Board", "textByte", "(II)I"⟩ : Cond) ∈ GW := gT 343 (by decide +kernel) (by decide +kernel)
theorem gw_314 : (.selects "PlayStates$Board" ⟨"PlayStates$Board", "textByte", "(II)I"⟩ ⟨"PlayStates$Board", "textByte", "(II)I"⟩ : Cond) ∈ GW := gT 344 (by decide +kernel) (by decide +kernel)
theorem d_PS_save_0 : decode prog_1_method_17_code 0 = .ok (.aload_n 0, 1) := by decide +kernel
theorem d_PS_save_1 : decode prog_1_method_17_code 1 = .ok (.iload_n 1, 1) := by decide +kernel
theorem d_PS_save_2 : decode prog_1_method_17_code 2 = .ok (.invokevirtual 75, 3) := by decide +kernel
theorem d_PS_save_5 : decode prog_1_method_17_code 5 = .ok (.astore_n 3, 1) := by decide +kernel
theorem d_PS_save_6 : decode prog_1_method_17_code 6 = .ok (.aload_n 3, 1) := by decide +kernel
theorem d_PS_save_7 : decode prog_1_method_17_code 7 = .ok (.ifnull 7, 3) := by decide +kernel
theorem d_PS_save_10 : decode prog_1_method_17_code 10 = .ok (.iload_n 2, 1) := by decide +kernel
theorem d_PS_save_11 : decode prog_1_method_17_code 11 = .ok (.ifCond .ge 5, 3) := by decide +kernel
theorem d_PS_save_14 : decode prog_1_method_17_code 14 = .ok (.iconst (-1), 1) := by decide +kernel
theorem d_PS_save_15 : decode prog_1_method_17_code 15 = .ok (.ireturn, 1) := by decide +kernel
theorem d_PS_save_16 : decode prog_1_method_17_code 16 = .ok (.iload_n 2, 1) := by decide +kernel
theorem d_PS_save_17 : decode prog_1_method_17_code 17 = .ok (.istore 4, 2) := by decide +kernel
theorem d_PS_save_19 : decode prog_1_method_17_code 19 = .ok (.iconst 0, 1) := by decide +kernel
theorem d_PS_save_20 : decode prog_1_method_17_code 20 = .ok (.istore 5, 2) := by decide +kernel
theorem d_PS_save_22 : decode prog_1_method_17_code 22 = .ok (.iload 5, 2) := by decide +kernel
theorem d_PS_save_24 : decode prog_1_method_17_code 24 = .ok (.aload_n 0, 1) := by decide +kernel
theorem d_PS_save_25 : decode prog_1_method_17_code 25 = .ok (.getfield 18, 3) := by decide +kernel
theorem d_PS_save_28 : decode prog_1_method_17_code 28 = .ok (.if_icmp .ge 46, 3) := by decide +kernel
theorem d_PS_save_31 : decode prog_1_method_17_code 31 = .ok (.aload_n 3, 1) := by decide +kernel
theorem d_PS_save_32 : decode prog_1_method_17_code 32 = .ok (.getfield 99, 3) := by decide +kernel
theorem d_PS_save_35 : decode prog_1_method_17_code 35 = .ok (.iload 5, 2) := by decide +kernel
theorem d_PS_save_37 : decode prog_1_method_17_code 37 = .ok (.invokevirtual 176, 3) := by decide +kernel
theorem d_PS_save_40 : decode prog_1_method_17_code 40 = .ok (.istore 6, 2) := by decide +kernel
theorem d_PS_save_42 : decode prog_1_method_17_code 42 = .ok (.iload 4, 2) := by decide +kernel
theorem d_PS_save_44 : decode prog_1_method_17_code 44 = .ok (.iload 6, 2) := by decide +kernel
theorem d_PS_save_46 : decode prog_1_method_17_code 46 = .ok (.if_icmp .ge 15, 3) := by decide +kernel
theorem d_PS_save_49 : decode prog_1_method_17_code 49 = .ok (.aload_n 3, 1) := by decide +kernel
theorem d_PS_save_50 : decode prog_1_method_17_code 50 = .ok (.getfield 99, 3) := by decide +kernel
theorem d_PS_save_53 : decode prog_1_method_17_code 53 = .ok (.iload 5, 2) := by decide +kernel
theorem d_PS_save_55 : decode prog_1_method_17_code 55 = .ok (.iload 4, 2) := by decide +kernel
theorem d_PS_save_57 : decode prog_1_method_17_code 57 = .ok (.invokevirtual 179, 3) := by decide +kernel
theorem d_PS_save_60 : decode prog_1_method_17_code 60 = .ok (.ireturn, 1) := by decide +kernel
theorem d_PS_save_61 : decode prog_1_method_17_code 61 = .ok (.iload 4, 2) := by decide +kernel
theorem d_PS_save_63 : decode prog_1_method_17_code 63 = .ok (.iload 6, 2) := by decide +kernel
theorem d_PS_save_65 : decode prog_1_method_17_code 65 = .ok (.isub, 1) := by decide +kernel
theorem d_PS_save_66 : decode prog_1_method_17_code 66 = .ok (.istore 4, 2) := by decide +kernel
theorem d_PS_save_68 : decode prog_1_method_17_code 68 = .ok (.iinc 5 1, 3) := by decide +kernel
theorem d_PS_save_71 : decode prog_1_method_17_code 71 = .ok (.goto (-49), 3) := by decide +kernel
theorem d_PS_save_74 : decode prog_1_method_17_code 74 = .ok (.iconst (-1), 1) := by decide +kernel
theorem d_PS_save_75 : decode prog_1_method_17_code 75 = .ok (.ireturn, 1) := by decide +kernel
-- PlayStates.save(II)I 
def ws_PS_save (G : gG) (a_t a_t_right a_t_table a_t_joining a_t_units a_t_draft a_t_reader a_t_persons a_w a_w_clock a_w_board a_w_board_entries a_w_board_markBits : Nat) (n : Nat) (x_t_placeCount : Int32) (x_t_personCount : Int32) (x_t_unitCount : Int32) (x_t_persons : Nat → Option Nat) (x_w_number : Int32) (x_w_present : Int32) (x_w_helpCount : Int32) (x_w_board_entries : Nat → Int32) (x_w_board_markBits : Nat → Int32) : va_W := [(a_t, .inr (5, [.int x_t_placeCount, .ref a_t_right, .ref a_t_persons, .int x_t_personCount, .ref a_t_table, .ref a_t_joining, .ref a_t_units, .int x_t_unitCount, .ref a_t_draft, .ref a_t_reader])), (a_t_persons, .inl (G.2 3, 8, .inr (.inr (.inr (.inr x_t_persons))))), (a_w, .inr (2, [.int x_w_number, .ref a_w_board, .ref a_w_clock, .int x_w_present, .int x_w_helpCount])), (a_w_board, .inr (0, [.ref a_w_board_entries, .ref a_w_board_markBits])), (a_w_board_entries, .inl (G.2 0, n, .inl x_w_board_entries)), (a_w_board_markBits, .inl (G.2 0, n, .inl x_w_board_markBits))]
def fb_PS_save_L22 (fu : Nat) (n : Nat) (x_t_placeCount : Int32) (x_t_personCount : Int32) (x_t_unitCount : Int32) (x_t_persons : Nat → Option Nat) (x_w_number : Int32) (x_w_present : Int32) (x_w_helpCount : Int32) (x_w_board_entries : Nat → Int32) (x_w_board_markBits : Nat → Int32)  (k22 : (Int32 → Int32 → Int32 → Int32 → Option (Int32))) (l22_1 : Int32) (l22_2 : Int32) (l22_4 : Int32) (l22_5 : Int32) : Option (Int32) :=
  (if x_t_placeCount ≤ l22_5 then some (-1 : Int32) else ((f_Bd_textSize n l22_5 x_w_board_markBits).bind fun y3 => (if y3 ≤ l22_4 then (k22 l22_1 l22_2 (l22_4 - y3) (l22_5 + (1 : Int32))) else ((f_Bd_textByte fu n l22_5 l22_4 x_w_board_entries x_w_board_markBits).bind fun y5 => some y5))))
def f_PS_save_L22 (fu : Nat) (n : Nat) (x_t_placeCount : Int32) (x_t_personCount : Int32) (x_t_unitCount : Int32) (x_t_persons : Nat → Option Nat) (x_w_number : Int32) (x_w_present : Int32) (x_w_helpCount : Int32) (x_w_board_entries : Nat → Int32) (x_w_board_markBits : Nat → Int32)  : Nat → Int32 → Int32 → Int32 → Int32 → Option (Int32)
  | 0 => fun _ _ _ _ => none
  | k9 + 1 => fb_PS_save_L22 fu n x_t_placeCount x_t_personCount x_t_unitCount x_t_persons x_w_number x_w_present x_w_helpCount x_w_board_entries x_w_board_markBits (f_PS_save_L22 fu n x_t_placeCount x_t_personCount x_t_unitCount x_t_persons x_w_number x_w_present x_w_helpCount x_w_board_entries x_w_board_markBits k9)
def f_PS_save (fu : Nat) (n : Nat) (p0 : Int32) (p1 : Int32) (x_t_placeCount : Int32) (x_t_personCount : Int32) (x_t_unitCount : Int32) (x_t_persons : Nat → Option Nat) (x_w_number : Int32) (x_w_present : Int32) (x_w_helpCount : Int32) (x_w_board_entries : Nat → Int32) (x_w_board_markBits : Nat → Int32) : Option (Int32) :=
  (if 0 ≤ p1 then (f_PS_save_L22 fu n x_t_placeCount x_t_personCount x_t_unitCount x_t_persons x_w_number x_w_present x_w_helpCount x_w_board_entries x_w_board_markBits fu p0 p1 p1 (0 : Int32)) else some (-1 : Int32))
set_option maxHeartbeats 4000000 in
set_option maxRecDepth 100000 in
theorem c_PS_save (l : Launch) (G : gG) (sz : Nat) (a_t a_t_right a_t_table a_t_joining a_t_units a_t_draft a_t_reader a_t_persons a_w a_w_clock a_w_board a_w_board_entries a_w_board_markBits : Nat) (fu : Nat) (n : Nat) (p0 : Int32) (p1 : Int32) (x_t_placeCount : Int32) (x_t_personCount : Int32) (x_t_unitCount : Int32) (x_t_persons : Nat → Option Nat) (x_w_number : Int32) (x_w_present : Int32) (x_w_helpCount : Int32) (x_w_board_entries : Nat → Int32) (x_w_board_markBits : Nat → Int32) (r : Int32) (h : f_PS_save fu n p0 p1 x_t_placeCount x_t_personCount x_t_unitCount x_t_persons x_w_number x_w_present x_w_helpCount x_w_board_entries x_w_board_markBits = some r)  (hw : f_PS_find p0 x_t_placeCount x_t_personCount x_t_unitCount x_t_persons = some (some a_w)) : cN l y_PS_save w_PS_save { frames := 3, cells := 0, slots := 0, locals := 68 } G sz [.ref a_t, .int p0, .int p1] (ws_PS_save G a_t a_t_right a_t_table a_t_joining a_t_units a_t_draft a_t_reader a_t_persons a_w a_w_clock a_w_board a_w_board_entries a_w_board_markBits n x_t_placeCount x_t_personCount x_t_unitCount x_t_persons x_w_number x_w_present x_w_helpCount x_w_board_entries x_w_board_markBits) (some (.int r)) (wB G (ws_PS_save G a_t a_t_right a_t_table a_t_joining a_t_units a_t_draft a_t_reader a_t_persons a_w a_w_clock a_w_board a_w_board_entries a_w_board_markBits n x_t_placeCount x_t_personCount x_t_unitCount x_t_persons x_w_number x_w_present x_w_helpCount x_w_board_entries x_w_board_markBits)) 0 0 := by
  refine cN_ofW (cc := prog_1_method_17_code) (maxL := 7) (ret := (some .int)) (by decide) rfl (Nat.le_of_ble_eq_true rfl) ?_
  intro p e s m args below meth c A H locs ls hx hb hr hts hown hlocks hin hml hK hN hP hD hA hS hl
  replace hl : lv_has ls 7 [(0, .ref a_t), (1, .int p0), (2, .int p1)] := hl
  replace hown : s.vm.findClass "PlayStates" = some m.cls := hown
  unfold f_PS_save at h
  refine lv_aload_n hx hb d_PS_save_0 rfl (lv_at hl 0 rfl) ?_
  refine lv_iload_n hx hb d_PS_save_1 rfl (lv_at hl 1 rfl) ?_
  have hPc := hP.sub (ws' := (ws_PS_find G a_t a_t_right a_t_table a_t_joining a_t_units a_t_draft a_t_reader a_t_persons x_t_placeCount x_t_personCount x_t_unitCount x_t_persons)) [0, 1] rfl
  have hDc := hD.sub (ws' := (ws_PS_find G a_t a_t_right a_t_table a_t_joining a_t_units a_t_draft a_t_reader a_t_persons x_t_placeCount x_t_personCount x_t_unitCount x_t_persons)) [0, 1] (by decide) rfl
  have hFc := va_free (wc := (ws_PS_find G a_t a_t_right a_t_table a_t_joining a_t_units a_t_draft a_t_reader a_t_persons x_t_placeCount x_t_personCount x_t_unitCount x_t_persons)) hD hS hA [0, 1] rfl
  refine q_call1 (va_runV (As := [.int p0]) (rest := []) ⟨hx, hb, hml, hown, hts⟩ (c_PS_find l G H.size a_t a_t_right a_t_table a_t_joining a_t_units a_t_draft a_t_reader a_t_persons p0 x_t_placeCount x_t_personCount x_t_unitCount x_t_persons _ hw) (cwV 1 hts (gV gw_163 gw_164 gw_2 gw_31 gw_165) rfl rfl rfl (by decide +kernel) ⟨Nat.le_of_ble_eq_true rfl, Nat.le_of_ble_eq_true rfl⟩) (pV hK hN hPc hDc (ci := 5) (q0 := 0) rfl rfl) rfl rfl hl.1 rfl (lv_room (Nat.le_of_ble_eq_true rfl)) d_PS_save_2 ⟨Nat.le_of_ble_eq_true rfl, Nat.le_of_ble_eq_true rfl⟩) hS (fun q _ h => hFc q h) hFc (fun H1 locs hB hz hk hS => ?_)
  obtain ⟨hP, hD⟩ := q_join (wr := [(a_w, .inr (2, [.int x_w_number, .ref a_w_board, .ref a_w_clock, .int x_w_present, .int x_w_helpCount])), (a_w_board, .inr (0, [.ref a_w_board_entries, .ref a_w_board_markBits])), (a_w_board_entries, .inl (G.2 0, n, .inl x_w_board_entries)), (a_w_board_markBits, .inl (G.2 0, n, .inl x_w_board_markBits))]) (wn := (ws_PS_save G a_t a_t_right a_t_table a_t_joining a_t_units a_t_draft a_t_reader a_t_persons a_w a_w_clock a_w_board a_w_board_entries a_w_board_markBits n x_t_placeCount x_t_personCount x_t_unitCount x_t_persons x_w_number x_w_present x_w_helpCount x_w_board_entries x_w_board_markBits)) hP hD [0, 1] [2, 3, 4, 5] [4, 5, 0, 1, 2, 3] rfl rfl (by decide) (by decide) rfl (by decide) hk hFc hB.1 hB.2
  generalize H1 = H at hP hS ⊢
  replace hP : va_P G.1 vwCl (ws_PS_save G a_t a_t_right a_t_table a_t_joining a_t_units a_t_draft a_t_reader a_t_persons a_w a_w_clock a_w_board a_w_board_entries a_w_board_markBits n x_t_placeCount x_t_personCount x_t_unitCount x_t_persons x_w_number x_w_present x_w_helpCount x_w_board_entries x_w_board_markBits) H := hP
  replace hD : va_D A (ws_PS_save G a_t a_t_right a_t_table a_t_joining a_t_units a_t_draft a_t_reader a_t_persons a_w a_w_clock a_w_board a_w_board_entries a_w_board_markBits n x_t_placeCount x_t_personCount x_t_unitCount x_t_persons x_w_number x_w_present x_w_helpCount x_w_board_entries x_w_board_markBits) := hD
  refine lv_astore_n (lv' := [(3, .ref a_w), (0, .ref a_t), (1, .int p0), (2, .int p1)]) hx hb d_PS_save_5 rfl hl (by decide) rfl (fun ls hl => ?_)
  refine lv_aload_n hx hb d_PS_save_6 rfl (lv_at hl 0 rfl) ?_
  refine lv_ifnull hx hb d_PS_save_7 ?_
  refine lv_iload_n hx hb d_PS_save_10 rfl (lv_at hl 3 rfl) ?_
  refine lv_if_ge (tgt := 16) hx hb d_PS_save_11 (by decide) (fun c1 => ?_) (fun c1 => ?_)
  · replace h := (if_pos c1).symm.trans h
    refine lv_iload_n hx hb d_PS_save_16 rfl (lv_at hl 3 rfl) ?_
    refine lv_istore (lv' := [(4, .int p1), (3, .ref a_w), (0, .ref a_t), (1, .int p0), (2, .int p1)]) hx hb d_PS_save_17 hl (by decide) rfl (fun ls hl => ?_)
    refine lv_iconst (v := (0 : Int32)) hx hb d_PS_save_19 (by decide) ?_
    refine lv_istore (lv' := [(5, .int (0 : Int32)), (4, .int p1), (3, .ref a_w), (0, .ref a_t), (1, .int p0), (2, .int p1)]) hx hb d_PS_save_20 hl (by decide) rfl (fun ls hl => ?_)
    have L22 : ∀ (nf : Nat) (l22_1 : Int32) (l22_2 : Int32) (l22_4 : Int32) (l22_5 : Int32) (H : Heap) (locs : List Loc) (ls : Array Slot), f_PS_save_L22 fu n x_t_placeCount x_t_personCount x_t_unitCount x_t_persons x_w_number x_w_present x_w_helpCount x_w_board_entries x_w_board_markBits nf l22_1 l22_2 l22_4 l22_5 = some r → va_P G.1 vwCl (ws_PS_save G a_t a_t_right a_t_table a_t_joining a_t_units a_t_draft a_t_reader a_t_persons a_w a_w_clock a_w_board a_w_board_entries a_w_board_markBits n x_t_placeCount x_t_personCount x_t_unitCount x_t_persons x_w_number x_w_present x_w_helpCount x_w_board_entries x_w_board_markBits) H → va_D A (ws_PS_save G a_t a_t_right a_t_table a_t_joining a_t_units a_t_draft a_t_reader a_t_persons a_w a_w_clock a_w_board a_w_board_entries a_w_board_markBits n x_t_placeCount x_t_personCount x_t_unitCount x_t_persons x_w_number x_w_present x_w_helpCount x_w_board_entries x_w_board_markBits) → va_S A s.heap H locs → lv_has ls 7 [(0, .ref a_t), (1, .int l22_1), (2, .int l22_2), (3, .ref a_w), (4, .int l22_4), (5, .int l22_5)] → W p l e { frames := 3, cells := 0, slots := 0, locals := 68 } s m args below meth c H locs 0 0 (MQ below (qQ (some (.int r)) (wB G (ws_PS_save G a_t a_t_right a_t_table a_t_joining a_t_units a_t_draft a_t_reader a_t_persons a_w a_w_clock a_w_board a_w_board_entries a_w_board_markBits n x_t_placeCount x_t_personCount x_t_unitCount x_t_persons x_w_number x_w_present x_w_helpCount x_w_board_entries x_w_board_markBits) A) A) args s 0 0 A) (F0 m 22 ls []) := by
      clear h hP hD hS hl
      intro n22
      induction n22 with
      | zero => intro _ _ _ _ H locs ls h; exact nomatch (show none = some _ from h)
      | succ n22 ih22 =>
        intro l22_1 l22_2 l22_4 l22_5 H locs ls h hP hD hS hl
        replace h : fb_PS_save_L22 fu n x_t_placeCount x_t_personCount x_t_unitCount x_t_persons x_w_number x_w_present x_w_helpCount x_w_board_entries x_w_board_markBits (f_PS_save_L22 fu n x_t_placeCount x_t_personCount x_t_unitCount x_t_persons x_w_number x_w_present x_w_helpCount x_w_board_entries x_w_board_markBits n22) l22_1 l22_2 l22_4 l22_5 = some r := h
        unfold fb_PS_save_L22 at h
        refine lv_iload hx hb d_PS_save_22 (lv_at hl 5 rfl) ?_
        refine lv_aload_n hx hb d_PS_save_24 rfl (lv_at hl 0 rfl) ?_
        refine va_get (D := G.1) (ci := 5) (v := .int x_t_placeCount) (C := "PlayStates") (T := TPS) (N := 10) hx hb hts iw_5 hown hK hP 0 rfl rfl 0 (by decide) (hts _ gw_102) (fun _ h9 => h9) rfl d_PS_save_25 ?_
        refine lv_icmp_ge (tgt := 74) hx hb d_PS_save_28 (by decide) (fun c2 => ?_) (fun c2 => ?_)
        · replace h := (if_pos c2).symm.trans h
          refine lv_iconst (v := (-1 : Int32)) hx hb d_PS_save_74 (by decide) ?_
          cases h
          exact q_iretW hx hb hr hlocks hP hD hS d_PS_save_75
        · replace h := (if_neg c2).symm.trans h
          refine lv_aload_n hx hb d_PS_save_31 rfl (lv_at hl 3 rfl) ?_
          refine va_getN (D := G.1) (ci := 2) (v := .ref a_w_board) (C := "PlayStates$Person") (T := TPn) (N := 5) hx hb hts iw_2 hown hK hP 2 rfl rfl 1 (by decide) (va_Nw.use rfl (hN.1 ("PlayStates", 99, "PlayStates$Person", "board", "LPlayStates$Board;", "PlayStates") (by decide +kernel))) (fun _ h9 => h9) rfl d_PS_save_32 ?_
          refine lv_iload hx hb d_PS_save_35 (lv_at hl 5 rfl) ?_
          obtain ⟨y3, hy3, h⟩ := o_bind h
          have hPc := hP.sub (ws' := (ws_Bd_textSize G a_w_board a_w_board_entries a_w_board_markBits n x_w_board_markBits)) [3, 5] rfl
          have hDc := hD.sub (ws' := (ws_Bd_textSize G a_w_board a_w_board_entries a_w_board_markBits n x_w_board_markBits)) [3, 5] (by decide) rfl
          have hFc := va_free (wc := (ws_Bd_textSize G a_w_board a_w_board_entries a_w_board_markBits n x_w_board_markBits)) hD hS hA [3, 5] rfl
          refine q_call1 (va_runV (As := [.int l22_5]) (rest := []) ⟨hx, hb, hml, hown, hts⟩ (c_Bd_textSize l G H.size a_w_board a_w_board_entries a_w_board_markBits n l22_5 x_w_board_markBits _ hy3) (cwV 1 hts (gV gw_302 gw_303 gw_304 gw_34 gw_305) rfl rfl rfl (by decide +kernel) ⟨Nat.le_of_ble_eq_true rfl, Nat.le_of_ble_eq_true rfl⟩) (pV hK hN hPc hDc (ci := 0) (q0 := 0) rfl rfl) rfl rfl hl.1 rfl (lv_room (Nat.le_of_ble_eq_true rfl)) d_PS_save_37 ⟨Nat.le_of_ble_eq_true rfl, Nat.le_of_ble_eq_true rfl⟩) hS (fun q _ h => hFc q h) hFc (fun H1 locs hB hz hk hS => ?_)
          obtain ⟨hP, hD⟩ := q_join (wr := [(a_t, .inr (5, [.int x_t_placeCount, .ref a_t_right, .ref a_t_persons, .int x_t_personCount, .ref a_t_table, .ref a_t_joining, .ref a_t_units, .int x_t_unitCount, .ref a_t_draft, .ref a_t_reader])), (a_t_persons, .inl (G.2 3, 8, .inr (.inr (.inr (.inr x_t_persons))))), (a_w, .inr (2, [.int x_w_number, .ref a_w_board, .ref a_w_clock, .int x_w_present, .int x_w_helpCount])), (a_w_board_entries, .inl (G.2 0, n, .inl x_w_board_entries))]) (wn := (ws_PS_save G a_t a_t_right a_t_table a_t_joining a_t_units a_t_draft a_t_reader a_t_persons a_w a_w_clock a_w_board a_w_board_entries a_w_board_markBits n x_t_placeCount x_t_personCount x_t_unitCount x_t_persons x_w_number x_w_present x_w_helpCount x_w_board_entries x_w_board_markBits)) hP hD [3, 5] [0, 1, 2, 4] [0, 1, 2, 4, 3, 5] rfl rfl (by decide) (by decide) rfl (by decide) hk hFc hB.1 hB.2
          generalize H1 = H at hP hS ⊢
          replace hP : va_P G.1 vwCl (ws_PS_save G a_t a_t_right a_t_table a_t_joining a_t_units a_t_draft a_t_reader a_t_persons a_w a_w_clock a_w_board a_w_board_entries a_w_board_markBits n x_t_placeCount x_t_personCount x_t_unitCount x_t_persons x_w_number x_w_present x_w_helpCount x_w_board_entries x_w_board_markBits) H := hP
          replace hD : va_D A (ws_PS_save G a_t a_t_right a_t_table a_t_joining a_t_units a_t_draft a_t_reader a_t_persons a_w a_w_clock a_w_board a_w_board_entries a_w_board_markBits n x_t_placeCount x_t_personCount x_t_unitCount x_t_persons x_w_number x_w_present x_w_helpCount x_w_board_entries x_w_board_markBits) := hD
          refine lv_istore (lv' := [(6, .int y3), (0, .ref a_t), (1, .int l22_1), (2, .int l22_2), (3, .ref a_w), (4, .int l22_4), (5, .int l22_5)]) hx hb d_PS_save_40 hl (by decide) rfl (fun ls hl => ?_)
          refine lv_iload hx hb d_PS_save_42 (lv_at hl 5 rfl) ?_
          refine lv_iload hx hb d_PS_save_44 (lv_at hl 0 rfl) ?_
          refine lv_icmp_ge (tgt := 61) hx hb d_PS_save_46 (by decide) (fun c4 => ?_) (fun c4 => ?_)
          · replace h := (if_pos c4).symm.trans h
            refine lv_iload hx hb d_PS_save_61 (lv_at hl 5 rfl) ?_
            refine lv_iload hx hb d_PS_save_63 (lv_at hl 0 rfl) ?_
            refine lv_isub hx hb d_PS_save_65 ?_
            refine lv_istore (lv' := [(4, .int (l22_4 - y3)), (6, .int y3), (0, .ref a_t), (1, .int l22_1), (2, .int l22_2), (3, .ref a_w), (5, .int l22_5)]) hx hb d_PS_save_66 hl (by decide) rfl (fun ls hl => ?_)
            refine lv_iinc (v := (l22_5 + (1 : Int32))) (lv' := [(5, .int (l22_5 + (1 : Int32))), (4, .int (l22_4 - y3)), (6, .int y3), (0, .ref a_t), (1, .int l22_1), (2, .int l22_2), (3, .ref a_w)]) hx hb d_PS_save_68 hl (k := 6) rfl rfl (by decide) rfl (fun ls hl => ?_)
            refine lv_goto (tgt := 22) hx hb d_PS_save_71 (by decide) ?_
            exact ih22 l22_1 l22_2 (l22_4 - y3) (l22_5 + (1 : Int32)) _ _ _ h hP hD hS (lv_sub hl [3, 4, 5, 6, 1, 0] rfl)
          · replace h := (if_neg c4).symm.trans h
            refine lv_aload_n hx hb d_PS_save_49 rfl (lv_at hl 4 rfl) ?_
            refine va_getN (D := G.1) (ci := 2) (v := .ref a_w_board) (C := "PlayStates$Person") (T := TPn) (N := 5) hx hb hts iw_2 hown hK hP 2 rfl rfl 1 (by decide) (va_Nw.use rfl (hN.1 ("PlayStates", 99, "PlayStates$Person", "board", "LPlayStates$Board;", "PlayStates") (by decide +kernel))) (fun _ h9 => h9) rfl d_PS_save_50 ?_
            refine lv_iload hx hb d_PS_save_53 (lv_at hl 6 rfl) ?_
            refine lv_iload hx hb d_PS_save_55 (lv_at hl 5 rfl) ?_
            obtain ⟨y5, hy5, h⟩ := o_bind h
            have hPc := hP.sub (ws' := (ws_Bd_textByte G a_w_board a_w_board_entries a_w_board_markBits n x_w_board_entries x_w_board_markBits)) [3, 4, 5] rfl
            have hDc := hD.sub (ws' := (ws_Bd_textByte G a_w_board a_w_board_entries a_w_board_markBits n x_w_board_entries x_w_board_markBits)) [3, 4, 5] (by decide) rfl
            have hFc := va_free (wc := (ws_Bd_textByte G a_w_board a_w_board_entries a_w_board_markBits n x_w_board_entries x_w_board_markBits)) hD hS hA [3, 4, 5] rfl
            refine q_call1 (va_runV (As := [.int l22_5, .int l22_4]) (rest := []) ⟨hx, hb, hml, hown, hts⟩ (c_Bd_textByte l G H.size a_w_board a_w_board_entries a_w_board_markBits fu n l22_5 l22_4 x_w_board_entries x_w_board_markBits _ hy5) (cwV 2 hts (gV gw_312 gw_313 gw_314 gw_34 gw_315) rfl rfl rfl (by decide +kernel) ⟨Nat.le_of_ble_eq_true rfl, Nat.le_of_ble_eq_true rfl⟩) (pV hK hN hPc hDc (ci := 0) (q0 := 0) rfl rfl) rfl rfl hl.1 rfl (lv_room (Nat.le_of_ble_eq_true rfl)) d_PS_save_57 ⟨Nat.le_of_ble_eq_true rfl, Nat.le_of_ble_eq_true rfl⟩) hS (fun q _ h => hFc q h) hFc (fun H1 locs hB hz hk hS => ?_)
            obtain ⟨hP, hD⟩ := q_join (wr := [(a_t, .inr (5, [.int x_t_placeCount, .ref a_t_right, .ref a_t_persons, .int x_t_personCount, .ref a_t_table, .ref a_t_joining, .ref a_t_units, .int x_t_unitCount, .ref a_t_draft, .ref a_t_reader])), (a_t_persons, .inl (G.2 3, 8, .inr (.inr (.inr (.inr x_t_persons))))), (a_w, .inr (2, [.int x_w_number, .ref a_w_board, .ref a_w_clock, .int x_w_present, .int x_w_helpCount]))]) (wn := (ws_PS_save G a_t a_t_right a_t_table a_t_joining a_t_units a_t_draft a_t_reader a_t_persons a_w a_w_clock a_w_board a_w_board_entries a_w_board_markBits n x_t_placeCount x_t_personCount x_t_unitCount x_t_persons x_w_number x_w_present x_w_helpCount x_w_board_entries x_w_board_markBits)) hP hD [3, 4, 5] [0, 1, 2] [0, 1, 2, 3, 4, 5] rfl rfl (by decide) (by decide) rfl (by decide) hk hFc hB.1 hB.2
            generalize H1 = H at hP hS ⊢
            replace hP : va_P G.1 vwCl (ws_PS_save G a_t a_t_right a_t_table a_t_joining a_t_units a_t_draft a_t_reader a_t_persons a_w a_w_clock a_w_board a_w_board_entries a_w_board_markBits n x_t_placeCount x_t_personCount x_t_unitCount x_t_persons x_w_number x_w_present x_w_helpCount x_w_board_entries x_w_board_markBits) H := hP
            replace hD : va_D A (ws_PS_save G a_t a_t_right a_t_table a_t_joining a_t_units a_t_draft a_t_reader a_t_persons a_w a_w_clock a_w_board a_w_board_entries a_w_board_markBits n x_t_placeCount x_t_personCount x_t_unitCount x_t_persons x_w_number x_w_present x_w_helpCount x_w_board_entries x_w_board_markBits) := hD
            cases h
            exact q_iretW hx hb hr hlocks hP hD hS d_PS_save_60
    exact L22 fu p0 p1 p1 (0 : Int32) _ _ _ h hP hD hS (lv_sub hl [3, 4, 5, 2, 1, 0] rfl)
  · replace h := (if_neg c1).symm.trans h
    refine lv_iconst (v := (-1 : Int32)) hx hb d_PS_save_14 (by decide) ?_
    cases h
    exact q_iretW hx hb hr hlocks hP hD hS d_PS_save_15


-- PlayStates.save(II)I 
def ws_PS_save_no (G : gG) (a_t a_t_right a_t_table a_t_joining a_t_units a_t_draft a_t_reader a_t_persons : Nat)  (x_t_placeCount : Int32) (x_t_personCount : Int32) (x_t_unitCount : Int32) (x_t_persons : Nat → Option Nat) : va_W := [(a_t, .inr (5, [.int x_t_placeCount, .ref a_t_right, .ref a_t_persons, .int x_t_personCount, .ref a_t_table, .ref a_t_joining, .ref a_t_units, .int x_t_unitCount, .ref a_t_draft, .ref a_t_reader])), (a_t_persons, .inl (G.2 3, 8, .inr (.inr (.inr (.inr x_t_persons)))))]
def f_PS_save_no  (p0 : Int32) (p1 : Int32) (x_t_placeCount : Int32) (x_t_personCount : Int32) (x_t_unitCount : Int32) (x_t_persons : Nat → Option Nat) : Option (Int32) :=
  some (-1 : Int32)
set_option maxHeartbeats 4000000 in
set_option maxRecDepth 100000 in
theorem c_PS_save_no (l : Launch) (G : gG) (sz : Nat) (a_t a_t_right a_t_table a_t_joining a_t_units a_t_draft a_t_reader a_t_persons : Nat)  (p0 : Int32) (p1 : Int32) (x_t_placeCount : Int32) (x_t_personCount : Int32) (x_t_unitCount : Int32) (x_t_persons : Nat → Option Nat) (r : Int32) (h : f_PS_save_no p0 p1 x_t_placeCount x_t_personCount x_t_unitCount x_t_persons = some r)  (hw : f_PS_find p0 x_t_placeCount x_t_personCount x_t_unitCount x_t_persons = some none) : cN l y_PS_save w_PS_save { frames := 1, cells := 0, slots := 0, locals := 21 } G sz [.ref a_t, .int p0, .int p1] (ws_PS_save_no G a_t a_t_right a_t_table a_t_joining a_t_units a_t_draft a_t_reader a_t_persons x_t_placeCount x_t_personCount x_t_unitCount x_t_persons) (some (.int r)) (wB G (ws_PS_save_no G a_t a_t_right a_t_table a_t_joining a_t_units a_t_draft a_t_reader a_t_persons x_t_placeCount x_t_personCount x_t_unitCount x_t_persons)) 0 0 := by
  refine cN_ofW (cc := prog_1_method_17_code) (maxL := 7) (ret := (some .int)) (by decide) rfl (Nat.le_of_ble_eq_true rfl) ?_
  intro p e s m args below meth c A H locs ls hx hb hr hts hown hlocks hin hml hK hN hP hD hA hS hl
  replace hl : lv_has ls 7 [(0, .ref a_t), (1, .int p0), (2, .int p1)] := hl
  replace hown : s.vm.findClass "PlayStates" = some m.cls := hown
  unfold f_PS_save_no at h
  refine lv_aload_n hx hb d_PS_save_0 rfl (lv_at hl 0 rfl) ?_
  refine lv_iload_n hx hb d_PS_save_1 rfl (lv_at hl 1 rfl) ?_
  have hPc := hP.sub (ws' := (ws_PS_find G a_t a_t_right a_t_table a_t_joining a_t_units a_t_draft a_t_reader a_t_persons x_t_placeCount x_t_personCount x_t_unitCount x_t_persons)) [0, 1] rfl
  have hDc := hD.sub (ws' := (ws_PS_find G a_t a_t_right a_t_table a_t_joining a_t_units a_t_draft a_t_reader a_t_persons x_t_placeCount x_t_personCount x_t_unitCount x_t_persons)) [0, 1] (by decide) rfl
  have hFc := va_free (wc := (ws_PS_find G a_t a_t_right a_t_table a_t_joining a_t_units a_t_draft a_t_reader a_t_persons x_t_placeCount x_t_personCount x_t_unitCount x_t_persons)) hD hS hA [0, 1] rfl
  refine q_call1 (va_runV (As := [.int p0]) (rest := []) ⟨hx, hb, hml, hown, hts⟩ (c_PS_find l G H.size a_t a_t_right a_t_table a_t_joining a_t_units a_t_draft a_t_reader a_t_persons p0 x_t_placeCount x_t_personCount x_t_unitCount x_t_persons _ hw) (cwV 1 hts (gV gw_163 gw_164 gw_2 gw_31 gw_165) rfl rfl rfl (by decide +kernel) ⟨Nat.le_of_ble_eq_true rfl, Nat.le_of_ble_eq_true rfl⟩) (pV hK hN hPc hDc (ci := 5) (q0 := 0) rfl rfl) rfl rfl hl.1 rfl (lv_room (Nat.le_of_ble_eq_true rfl)) d_PS_save_2 ⟨Nat.le_of_ble_eq_true rfl, Nat.le_of_ble_eq_true rfl⟩) hS (fun q _ h => hFc q h) hFc (fun H1 locs hB hz hk hS => ?_)
  obtain ⟨hP, hD⟩ := q_joinA hFc hB.1 hB.2
  generalize H1 = H at hP hS ⊢
  replace hP : va_P G.1 vwCl (ws_PS_save_no G a_t a_t_right a_t_table a_t_joining a_t_units a_t_draft a_t_reader a_t_persons x_t_placeCount x_t_personCount x_t_unitCount x_t_persons) H := hP
  replace hD : va_D A (ws_PS_save_no G a_t a_t_right a_t_table a_t_joining a_t_units a_t_draft a_t_reader a_t_persons x_t_placeCount x_t_personCount x_t_unitCount x_t_persons) := hD
  refine lv_astore_nN (lv' := [(3, .null), (0, .ref a_t), (1, .int p0), (2, .int p1)]) hx hb d_PS_save_5 rfl hl (by decide) rfl (fun ls hl => ?_)
  refine lv_aload_nN hx hb d_PS_save_6 rfl (lv_at hl 0 rfl) ?_
  refine lv_ifnullN (tgt := 14) hx hb d_PS_save_7 (by decide) ?_
  refine lv_iconst (v := (-1 : Int32)) hx hb d_PS_save_14 (by decide) ?_
  cases h
  exact q_iretW hx hb hr hlocks hP hD hS d_PS_save_15

theorem gw_107 : (.fieldLink "PlayStates" 39 "PlayStates" "joining" "[Z" : Cond) ∈ GW := gT 101 (by decide +kernel) (by decide +kernel)
theorem d_PS_chooseJoining_0 : decode prog_1_method_30_code 0 = .ok (.iload_n 1, 1) := by decide +kernel
theorem d_PS_chooseJoining_1 : decode prog_1_method_30_code 1 = .ok (.istore_n 3, 1) := by decide +kernel
theorem d_PS_chooseJoining_2 : decode prog_1_method_30_code 2 = .ok (.iload_n 2, 1) := by decide +kernel
theorem d_PS_chooseJoining_3 : decode prog_1_method_30_code 3 = .ok (.istore 4, 2) := by decide +kernel
theorem d_PS_chooseJoining_5 : decode prog_1_method_30_code 5 = .ok (.aload_n 0, 1) := by decide +kernel
theorem d_PS_chooseJoining_6 : decode prog_1_method_30_code 6 = .ok (.getfield 35, 3) := by decide +kernel
theorem d_PS_chooseJoining_9 : decode prog_1_method_30_code 9 = .ok (.getfield 197, 3) := by decide +kernel
theorem d_PS_chooseJoining_12 : decode prog_1_method_30_code 12 = .ok (.iconst 1, 1) := by decide +kernel
theorem d_PS_chooseJoining_13 : decode prog_1_method_30_code 13 = .ok (.isub, 1) := by decide +kernel
theorem d_PS_chooseJoining_14 : decode prog_1_method_30_code 14 = .ok (.istore 5, 2) := by decide +kernel
theorem d_PS_chooseJoining_16 : decode prog_1_method_30_code 16 = .ok (.iload 5, 2) := by decide +kernel
theorem d_PS_chooseJoining_18 : decode prog_1_method_30_code 18 = .ok (.ifCond .lt 73, 3) := by decide +kernel
theorem d_PS_chooseJoining_21 : decode prog_1_method_30_code 21 = .ok (.aload_n 0, 1) := by decide +kernel
theorem d_PS_chooseJoining_22 : decode prog_1_method_30_code 22 = .ok (.getfield 39, 3) := by decide +kernel
theorem d_PS_chooseJoining_25 : decode prog_1_method_30_code 25 = .ok (.iload 5, 2) := by decide +kernel
theorem d_PS_chooseJoining_27 : decode prog_1_method_30_code 27 = .ok (.iload 5, 2) := by decide +kernel
theorem d_PS_chooseJoining_29 : decode prog_1_method_30_code 29 = .ok (.iload_n 3, 1) := by decide +kernel
theorem d_PS_chooseJoining_30 : decode prog_1_method_30_code 30 = .ok (.if_icmp .eq 10, 3) := by decide +kernel
theorem d_PS_chooseJoining_33 : decode prog_1_method_30_code 33 = .ok (.iload 5, 2) := by decide +kernel
theorem d_PS_chooseJoining_35 : decode prog_1_method_30_code 35 = .ok (.iload 4, 2) := by decide +kernel
theorem d_PS_chooseJoining_37 : decode prog_1_method_30_code 37 = .ok (.if_icmp .ne 7, 3) := by decide +kernel
theorem d_PS_chooseJoining_40 : decode prog_1_method_30_code 40 = .ok (.iconst 1, 1) := by decide +kernel
theorem d_PS_chooseJoining_41 : decode prog_1_method_30_code 41 = .ok (.goto 4, 3) := by decide +kernel
theorem d_PS_chooseJoining_44 : decode prog_1_method_30_code 44 = .ok (.iconst 0, 1) := by decide +kernel
theorem d_PS_chooseJoining_45 : decode prog_1_method_30_code 45 = .ok (.bastore, 1) := by decide +kernel
theorem d_PS_chooseJoining_46 : decode prog_1_method_30_code 46 = .ok (.iload 5, 2) := by decide +kernel
theorem d_PS_chooseJoining_48 : decode prog_1_method_30_code 48 = .ok (.iload_n 3, 1) := by decide +kernel
theorem d_PS_chooseJoining_49 : decode prog_1_method_30_code 49 = .ok (.if_icmp .ne 17, 3) := by decide +kernel
theorem d_PS_chooseJoining_52 : decode prog_1_method_30_code 52 = .ok (.aload_n 0, 1) := by decide +kernel
theorem d_PS_chooseJoining_53 : decode prog_1_method_30_code 53 = .ok (.getfield 35, 3) := by decide +kernel
theorem d_PS_chooseJoining_56 : decode prog_1_method_30_code 56 = .ok (.getfield 112, 3) := by decide +kernel
theorem d_PS_chooseJoining_59 : decode prog_1_method_30_code 59 = .ok (.iload 5, 2) := by decide +kernel
theorem d_PS_chooseJoining_61 : decode prog_1_method_30_code 61 = .ok (.iaload, 1) := by decide +kernel
theorem d_PS_chooseJoining_62 : decode prog_1_method_30_code 62 = .ok (.istore_n 3, 1) := by decide +kernel
theorem d_PS_chooseJoining_63 : decode prog_1_method_30_code 63 = .ok (.goto 22, 3) := by decide +kernel
theorem d_PS_chooseJoining_66 : decode prog_1_method_30_code 66 = .ok (.iload 5, 2) := by decide +kernel
theorem d_PS_chooseJoining_68 : decode prog_1_method_30_code 68 = .ok (.iload 4, 2) := by decide +kernel
theorem d_PS_chooseJoining_70 : decode prog_1_method_30_code 70 = .ok (.if_icmp .ne 15, 3) := by decide +kernel
theorem d_PS_chooseJoining_73 : decode prog_1_method_30_code 73 = .ok (.aload_n 0, 1) := by decide +kernel
theorem d_PS_chooseJoining_74 : decode prog_1_method_30_code 74 = .ok (.getfield 35, 3) := by decide +kernel
theorem d_PS_chooseJoining_77 : decode prog_1_method_30_code 77 = .ok (.getfield 112, 3) := by decide +kernel
theorem d_PS_chooseJoining_80 : decode prog_1_method_30_code 80 = .ok (.iload 5, 2) := by decide +kernel
theorem d_PS_chooseJoining_82 : decode prog_1_method_30_code 82 = .ok (.iaload, 1) := by decide +kernel
theorem d_PS_chooseJoining_83 : decode prog_1_method_30_code 83 = .ok (.istore 4, 2) := by decide +kernel
theorem d_PS_chooseJoining_85 : decode prog_1_method_30_code 85 = .ok (.iinc 5 (-1), 3) := by decide +kernel
theorem d_PS_chooseJoining_88 : decode prog_1_method_30_code 88 = .ok (.goto (-72), 3) := by decide +kernel
theorem d_PS_chooseJoining_91 : decode prog_1_method_30_code 91 = .ok (.return_, 1) := by decide +kernel
-- PlayStates.chooseJoining(II)V 
def ws_PS_chooseJoining (G : gG) (a_t a_t_right a_t_persons a_t_units a_t_draft a_t_reader a_t_table a_t_table_place a_t_table_told a_t_table_before a_t_table_behind a_t_joining : Nat)  (x_t_placeCount : Int32) (x_t_personCount : Int32) (x_t_unitCount : Int32) (x_t_table_count : Int32) (x_t_table_behind : Nat → Int32) (x_t_joining : Nat → Int32) : va_W := [(a_t, .inr (5, [.int x_t_placeCount, .ref a_t_right, .ref a_t_persons, .int x_t_personCount, .ref a_t_table, .ref a_t_joining, .ref a_t_units, .int x_t_unitCount, .ref a_t_draft, .ref a_t_reader])), (a_t_table, .inr (3, [.ref a_t_table_place, .ref a_t_table_told, .ref a_t_table_before, .ref a_t_table_behind, .int x_t_table_count])), (a_t_table_behind, .inl (G.2 0, 600, .inl x_t_table_behind)), (a_t_joining, .inl (G.2 1, 600, .inl x_t_joining))]
def fb_PS_chooseJoining_L16 (fu : Nat) (x_t_placeCount : Int32) (x_t_personCount : Int32) (x_t_unitCount : Int32) (x_t_table_count : Int32) (x_t_table_behind : Nat → Int32)  (k16 : (Int32 → Int32 → Int32 → Int32 → Int32 → (Nat → Int32) → Option ((Nat → Int32)))) (l16_1 : Int32) (l16_2 : Int32) (l16_3 : Int32) (l16_4 : Int32) (l16_5 : Int32) (x_t_joining_16 : Nat → Int32) : Option ((Nat → Int32)) :=
  (if l16_5 < 0 then some x_t_joining_16 else (if l16_5 = l16_3 then (if inB l16_5 600 then (if l16_5 = l16_3 then (if inB l16_5 600 then (k16 l16_1 l16_2 (x_t_table_behind l16_5.toNatClampNeg) l16_4 (l16_5 + (-1 : Int32)) (upd x_t_joining_16 l16_5.toNatClampNeg (vp_nar .boolean (1 : Int32)))) else none) else (if l16_5 = l16_4 then (if inB l16_5 600 then (k16 l16_1 l16_2 l16_3 (x_t_table_behind l16_5.toNatClampNeg) (l16_5 + (-1 : Int32)) (upd x_t_joining_16 l16_5.toNatClampNeg (vp_nar .boolean (1 : Int32)))) else none) else (k16 l16_1 l16_2 l16_3 l16_4 (l16_5 + (-1 : Int32)) (upd x_t_joining_16 l16_5.toNatClampNeg (vp_nar .boolean (1 : Int32)))))) else none) else (if l16_5 = l16_4 then (if inB l16_5 600 then (if l16_5 = l16_3 then (if inB l16_5 600 then (k16 l16_1 l16_2 (x_t_table_behind l16_5.toNatClampNeg) l16_4 (l16_5 + (-1 : Int32)) (upd x_t_joining_16 l16_5.toNatClampNeg (vp_nar .boolean (1 : Int32)))) else none) else (if l16_5 = l16_4 then (if inB l16_5 600 then (k16 l16_1 l16_2 l16_3 (x_t_table_behind l16_5.toNatClampNeg) (l16_5 + (-1 : Int32)) (upd x_t_joining_16 l16_5.toNatClampNeg (vp_nar .boolean (1 : Int32)))) else none) else (k16 l16_1 l16_2 l16_3 l16_4 (l16_5 + (-1 : Int32)) (upd x_t_joining_16 l16_5.toNatClampNeg (vp_nar .boolean (1 : Int32)))))) else none) else (if inB l16_5 600 then (if l16_5 = l16_3 then (if inB l16_5 600 then (k16 l16_1 l16_2 (x_t_table_behind l16_5.toNatClampNeg) l16_4 (l16_5 + (-1 : Int32)) (upd x_t_joining_16 l16_5.toNatClampNeg (vp_nar .boolean (0 : Int32)))) else none) else (if l16_5 = l16_4 then (if inB l16_5 600 then (k16 l16_1 l16_2 l16_3 (x_t_table_behind l16_5.toNatClampNeg) (l16_5 + (-1 : Int32)) (upd x_t_joining_16 l16_5.toNatClampNeg (vp_nar .boolean (0 : Int32)))) else none) else (k16 l16_1 l16_2 l16_3 l16_4 (l16_5 + (-1 : Int32)) (upd x_t_joining_16 l16_5.toNatClampNeg (vp_nar .boolean (0 : Int32)))))) else none))))
def f_PS_chooseJoining_L16 (fu : Nat) (x_t_placeCount : Int32) (x_t_personCount : Int32) (x_t_unitCount : Int32) (x_t_table_count : Int32) (x_t_table_behind : Nat → Int32)  : Nat → Int32 → Int32 → Int32 → Int32 → Int32 → (Nat → Int32) → Option ((Nat → Int32))
  | 0 => fun _ _ _ _ _ _ => none
  | k9 + 1 => fb_PS_chooseJoining_L16 fu x_t_placeCount x_t_personCount x_t_unitCount x_t_table_count x_t_table_behind (f_PS_chooseJoining_L16 fu x_t_placeCount x_t_personCount x_t_unitCount x_t_table_count x_t_table_behind k9)
def f_PS_chooseJoining (fu : Nat)  (p0 : Int32) (p1 : Int32) (x_t_placeCount : Int32) (x_t_personCount : Int32) (x_t_unitCount : Int32) (x_t_table_count : Int32) (x_t_table_behind : Nat → Int32) (x_t_joining : Nat → Int32) : Option ((Nat → Int32)) :=
  (f_PS_chooseJoining_L16 fu x_t_placeCount x_t_personCount x_t_unitCount x_t_table_count x_t_table_behind fu p0 p1 p0 p1 (x_t_table_count - (1 : Int32)) x_t_joining)
set_option maxHeartbeats 4000000 in
set_option maxRecDepth 100000 in
theorem c_PS_chooseJoining (l : Launch) (G : gG) (sz : Nat) (a_t a_t_right a_t_persons a_t_units a_t_draft a_t_reader a_t_table a_t_table_place a_t_table_told a_t_table_before a_t_table_behind a_t_joining : Nat) (fu : Nat)  (p0 : Int32) (p1 : Int32) (x_t_placeCount : Int32) (x_t_personCount : Int32) (x_t_unitCount : Int32) (x_t_table_count : Int32) (x_t_table_behind : Nat → Int32) (x_t_joining : Nat → Int32) (x_t_joining' : Nat → Int32) (h : f_PS_chooseJoining fu p0 p1 x_t_placeCount x_t_personCount x_t_unitCount x_t_table_count x_t_table_behind x_t_joining = some x_t_joining')  : cN l y_PS_chooseJoining w_PS_chooseJoining { frames := 0, cells := 0, slots := 0, locals := 0 } G sz [.ref a_t, .int p0, .int p1] (ws_PS_chooseJoining G a_t a_t_right a_t_persons a_t_units a_t_draft a_t_reader a_t_table a_t_table_place a_t_table_told a_t_table_before a_t_table_behind a_t_joining x_t_placeCount x_t_personCount x_t_unitCount x_t_table_count x_t_table_behind x_t_joining) none (wB G (ws_PS_chooseJoining G a_t a_t_right a_t_persons a_t_units a_t_draft a_t_reader a_t_table a_t_table_place a_t_table_told a_t_table_before a_t_table_behind a_t_joining x_t_placeCount x_t_personCount x_t_unitCount x_t_table_count x_t_table_behind x_t_joining')) 0 0 := by
  refine cN_ofW (cc := prog_1_method_30_code) (maxL := 6) (ret := none) (by decide) rfl (Nat.le_of_ble_eq_true rfl) ?_
  intro p e s m args below meth c A H locs ls hx hb hr hts hown hlocks hin hml hK hN hP hD hA hS hl
  replace hl : lv_has ls 6 [(0, .ref a_t), (1, .int p0), (2, .int p1)] := hl
  replace hown : s.vm.findClass "PlayStates" = some m.cls := hown
  unfold f_PS_chooseJoining at h
  refine lv_iload_n hx hb d_PS_chooseJoining_0 rfl (lv_at hl 1 rfl) ?_
  refine lv_istore_n (lv' := [(3, .int p0), (0, .ref a_t), (1, .int p0), (2, .int p1)]) hx hb d_PS_chooseJoining_1 rfl hl (by decide) rfl (fun ls hl => ?_)
  refine lv_iload_n hx hb d_PS_chooseJoining_2 rfl (lv_at hl 3 rfl) ?_
  refine lv_istore (lv' := [(4, .int p1), (3, .int p0), (0, .ref a_t), (1, .int p0), (2, .int p1)]) hx hb d_PS_chooseJoining_3 hl (by decide) rfl (fun ls hl => ?_)
  refine lv_aload_n hx hb d_PS_chooseJoining_5 rfl (lv_at hl 2 rfl) ?_
  refine va_get (D := G.1) (ci := 5) (v := .ref a_t_table) (C := "PlayStates") (T := TPS) (N := 10) hx hb hts iw_5 hown hK hP 0 rfl rfl 4 (by decide) (hts _ gw_106) (fun _ h9 => h9) rfl d_PS_chooseJoining_6 ?_
  refine va_getN (D := G.1) (ci := 3) (v := .int x_t_table_count) (C := "PlayStates$RowTable") (T := TRt) (N := 5) hx hb hts iw_3 hown hK hP 1 rfl rfl 4 (by decide) (va_Nw.use rfl (hN.1 ("PlayStates", 197, "PlayStates$RowTable", "count", "I", "PlayStates") (by decide +kernel))) (fun _ h9 => h9) rfl d_PS_chooseJoining_9 ?_
  refine lv_iconst (v := (1 : Int32)) hx hb d_PS_chooseJoining_12 (by decide) ?_
  refine lv_isub hx hb d_PS_chooseJoining_13 ?_
  refine lv_istore (lv' := [(5, .int (x_t_table_count - (1 : Int32))), (4, .int p1), (3, .int p0), (0, .ref a_t), (1, .int p0), (2, .int p1)]) hx hb d_PS_chooseJoining_14 hl (by decide) rfl (fun ls hl => ?_)
  have L16 : ∀ (nf : Nat) (l16_1 : Int32) (l16_2 : Int32) (l16_3 : Int32) (l16_4 : Int32) (l16_5 : Int32) (x_t_joining_16 : Nat → Int32) (H : Heap) (locs : List Loc) (ls : Array Slot), f_PS_chooseJoining_L16 fu x_t_placeCount x_t_personCount x_t_unitCount x_t_table_count x_t_table_behind nf l16_1 l16_2 l16_3 l16_4 l16_5 x_t_joining_16 = some x_t_joining' → va_P G.1 vwCl (ws_PS_chooseJoining G a_t a_t_right a_t_persons a_t_units a_t_draft a_t_reader a_t_table a_t_table_place a_t_table_told a_t_table_before a_t_table_behind a_t_joining x_t_placeCount x_t_personCount x_t_unitCount x_t_table_count x_t_table_behind x_t_joining_16) H → va_D A (ws_PS_chooseJoining G a_t a_t_right a_t_persons a_t_units a_t_draft a_t_reader a_t_table a_t_table_place a_t_table_told a_t_table_before a_t_table_behind a_t_joining x_t_placeCount x_t_personCount x_t_unitCount x_t_table_count x_t_table_behind x_t_joining_16) → va_S A s.heap H locs → lv_has ls 6 [(0, .ref a_t), (1, .int l16_1), (2, .int l16_2), (3, .int l16_3), (4, .int l16_4), (5, .int l16_5)] → W p l e { frames := 0, cells := 0, slots := 0, locals := 0 } s m args below meth c H locs 0 0 (MQ below (qQ none (wB G (ws_PS_chooseJoining G a_t a_t_right a_t_persons a_t_units a_t_draft a_t_reader a_t_table a_t_table_place a_t_table_told a_t_table_before a_t_table_behind a_t_joining x_t_placeCount x_t_personCount x_t_unitCount x_t_table_count x_t_table_behind x_t_joining') A) A) args s 0 0 A) (F0 m 16 ls []) := by
    clear h hP hD hS hl
    intro n16
    induction n16 with
    | zero => intro _ _ _ _ _ _ H locs ls h; exact nomatch (show none = some _ from h)
    | succ n16 ih16 =>
      intro l16_1 l16_2 l16_3 l16_4 l16_5 x_t_joining_16 H locs ls h hP hD hS hl
      replace h : fb_PS_chooseJoining_L16 fu x_t_placeCount x_t_personCount x_t_unitCount x_t_table_count x_t_table_behind (f_PS_chooseJoining_L16 fu x_t_placeCount x_t_personCount x_t_unitCount x_t_table_count x_t_table_behind n16) l16_1 l16_2 l16_3 l16_4 l16_5 x_t_joining_16 = some x_t_joining' := h
      unfold fb_PS_chooseJoining_L16 at h
      refine lv_iload hx hb d_PS_chooseJoining_16 (lv_at hl 5 rfl) ?_
      refine lv_if_lt (tgt := 91) hx hb d_PS_chooseJoining_18 (by decide) (fun c1 => ?_) (fun c1 => ?_)
      · replace h := (if_pos c1).symm.trans h
        cases h
        exact q_vretW hx hb hr hlocks hP hD hS d_PS_chooseJoining_91
      · replace h := (if_neg c1).symm.trans h
        refine lv_aload_n hx hb d_PS_chooseJoining_21 rfl (lv_at hl 0 rfl) ?_
        refine va_get (D := G.1) (ci := 5) (v := .ref a_t_joining) (C := "PlayStates") (T := TPS) (N := 10) hx hb hts iw_5 hown hK hP 0 rfl rfl 5 (by decide) (hts _ gw_107) (fun _ h9 => h9) rfl d_PS_chooseJoining_22 ?_
        refine lv_iload hx hb d_PS_chooseJoining_25 (lv_at hl 5 rfl) ?_
        refine lv_iload hx hb d_PS_chooseJoining_27 (lv_at hl 5 rfl) ?_
        refine lv_iload_n hx hb d_PS_chooseJoining_29 rfl (lv_at hl 3 rfl) ?_
        refine lv_icmp_eq (tgt := 40) hx hb d_PS_chooseJoining_30 (by decide) (fun c2 => ?_) (fun c2 => ?_)
        · replace h := (if_pos c2).symm.trans h
          refine lv_iconst (v := (1 : Int32)) hx hb d_PS_chooseJoining_40 (by decide) ?_
          refine lv_goto (tgt := 45) hx hb d_PS_chooseJoining_41 (by decide) ?_
          obtain ⟨i3, h⟩ := o_if h
          refine va_zast (n := 600) (f := x_t_joining_16) hx hb hK hP hD hS 3 1 rfl rfl i3 d_PS_chooseJoining_45 (fun H locs hP hD hS => ?_)
          replace hP : va_P G.1 vwCl (ws_PS_chooseJoining G a_t a_t_right a_t_persons a_t_units a_t_draft a_t_reader a_t_table a_t_table_place a_t_table_told a_t_table_before a_t_table_behind a_t_joining x_t_placeCount x_t_personCount x_t_unitCount x_t_table_count x_t_table_behind (upd x_t_joining_16 l16_5.toNatClampNeg (vp_nar .boolean (1 : Int32)))) H := hP
          replace hD : va_D A (ws_PS_chooseJoining G a_t a_t_right a_t_persons a_t_units a_t_draft a_t_reader a_t_table a_t_table_place a_t_table_told a_t_table_before a_t_table_behind a_t_joining x_t_placeCount x_t_personCount x_t_unitCount x_t_table_count x_t_table_behind (upd x_t_joining_16 l16_5.toNatClampNeg (vp_nar .boolean (1 : Int32)))) := hD
          refine lv_iload hx hb d_PS_chooseJoining_46 (lv_at hl 5 rfl) ?_
          refine lv_iload_n hx hb d_PS_chooseJoining_48 rfl (lv_at hl 3 rfl) ?_
          refine lv_icmp_ne (tgt := 66) hx hb d_PS_chooseJoining_49 (by decide) (fun c4 => ?_) (fun c4 => ?_)
          · replace h := (if_neg c4).symm.trans h
            refine lv_iload hx hb d_PS_chooseJoining_66 (lv_at hl 5 rfl) ?_
            refine lv_iload hx hb d_PS_chooseJoining_68 (lv_at hl 4 rfl) ?_
            refine lv_icmp_ne (tgt := 85) hx hb d_PS_chooseJoining_70 (by decide) (fun c5 => ?_) (fun c5 => ?_)
            · replace h := (if_neg c5).symm.trans h
              refine lv_iinc (v := (l16_5 + (-1 : Int32))) (lv' := [(5, .int (l16_5 + (-1 : Int32))), (0, .ref a_t), (1, .int l16_1), (2, .int l16_2), (3, .int l16_3), (4, .int l16_4)]) hx hb d_PS_chooseJoining_85 hl (k := 5) rfl rfl (by decide) rfl (fun ls hl => ?_)
              refine lv_goto (tgt := 16) hx hb d_PS_chooseJoining_88 (by decide) ?_
              exact ih16 l16_1 l16_2 l16_3 l16_4 (l16_5 + (-1 : Int32)) (upd x_t_joining_16 l16_5.toNatClampNeg (vp_nar .boolean (1 : Int32))) _ _ _ h hP hD hS (lv_sub hl [1, 2, 3, 4, 5, 0] rfl)
            · replace h := (if_pos c5).symm.trans h
              refine lv_aload_n hx hb d_PS_chooseJoining_73 rfl (lv_at hl 0 rfl) ?_
              refine va_get (D := G.1) (ci := 5) (v := .ref a_t_table) (C := "PlayStates") (T := TPS) (N := 10) hx hb hts iw_5 hown hK hP 0 rfl rfl 4 (by decide) (hts _ gw_106) (fun _ h9 => h9) rfl d_PS_chooseJoining_74 ?_
              refine va_getN (D := G.1) (ci := 3) (v := .ref a_t_table_behind) (C := "PlayStates$RowTable") (T := TRt) (N := 5) hx hb hts iw_3 hown hK hP 1 rfl rfl 3 (by decide) (va_Nw.use rfl (hN.1 ("PlayStates", 112, "PlayStates$RowTable", "behind", "[I", "PlayStates") (by decide +kernel))) (fun _ h9 => h9) rfl d_PS_chooseJoining_77 ?_
              refine lv_iload hx hb d_PS_chooseJoining_80 (lv_at hl 5 rfl) ?_
              obtain ⟨i6, h⟩ := o_if h
              refine va_iald (n := 600) (f := x_t_table_behind) hx hb hK hP 2 0 rfl rfl i6 d_PS_chooseJoining_82 ?_
              refine lv_istore (lv' := [(4, .int (x_t_table_behind l16_5.toNatClampNeg)), (0, .ref a_t), (1, .int l16_1), (2, .int l16_2), (3, .int l16_3), (5, .int l16_5)]) hx hb d_PS_chooseJoining_83 hl (by decide) rfl (fun ls hl => ?_)
              refine lv_iinc (v := (l16_5 + (-1 : Int32))) (lv' := [(5, .int (l16_5 + (-1 : Int32))), (4, .int (x_t_table_behind l16_5.toNatClampNeg)), (0, .ref a_t), (1, .int l16_1), (2, .int l16_2), (3, .int l16_3)]) hx hb d_PS_chooseJoining_85 hl (k := 5) rfl rfl (by decide) rfl (fun ls hl => ?_)
              refine lv_goto (tgt := 16) hx hb d_PS_chooseJoining_88 (by decide) ?_
              exact ih16 l16_1 l16_2 l16_3 (x_t_table_behind l16_5.toNatClampNeg) (l16_5 + (-1 : Int32)) (upd x_t_joining_16 l16_5.toNatClampNeg (vp_nar .boolean (1 : Int32))) _ _ _ h hP hD hS (lv_sub hl [2, 3, 4, 5, 1, 0] rfl)
          · replace h := (if_pos c4).symm.trans h
            refine lv_aload_n hx hb d_PS_chooseJoining_52 rfl (lv_at hl 0 rfl) ?_
            refine va_get (D := G.1) (ci := 5) (v := .ref a_t_table) (C := "PlayStates") (T := TPS) (N := 10) hx hb hts iw_5 hown hK hP 0 rfl rfl 4 (by decide) (hts _ gw_106) (fun _ h9 => h9) rfl d_PS_chooseJoining_53 ?_
            refine va_getN (D := G.1) (ci := 3) (v := .ref a_t_table_behind) (C := "PlayStates$RowTable") (T := TRt) (N := 5) hx hb hts iw_3 hown hK hP 1 rfl rfl 3 (by decide) (va_Nw.use rfl (hN.1 ("PlayStates", 112, "PlayStates$RowTable", "behind", "[I", "PlayStates") (by decide +kernel))) (fun _ h9 => h9) rfl d_PS_chooseJoining_56 ?_
            refine lv_iload hx hb d_PS_chooseJoining_59 (lv_at hl 5 rfl) ?_
            obtain ⟨i7, h⟩ := o_if h
            refine va_iald (n := 600) (f := x_t_table_behind) hx hb hK hP 2 0 rfl rfl i7 d_PS_chooseJoining_61 ?_
            refine lv_istore_n (lv' := [(3, .int (x_t_table_behind l16_5.toNatClampNeg)), (0, .ref a_t), (1, .int l16_1), (2, .int l16_2), (4, .int l16_4), (5, .int l16_5)]) hx hb d_PS_chooseJoining_62 rfl hl (by decide) rfl (fun ls hl => ?_)
            refine lv_goto (tgt := 85) hx hb d_PS_chooseJoining_63 (by decide) ?_
            refine lv_iinc (v := (l16_5 + (-1 : Int32))) (lv' := [(5, .int (l16_5 + (-1 : Int32))), (3, .int (x_t_table_behind l16_5.toNatClampNeg)), (0, .ref a_t), (1, .int l16_1), (2, .int l16_2), (4, .int l16_4)]) hx hb d_PS_chooseJoining_85 hl (k := 5) rfl rfl (by decide) rfl (fun ls hl => ?_)
            refine lv_goto (tgt := 16) hx hb d_PS_chooseJoining_88 (by decide) ?_
            exact ih16 l16_1 l16_2 (x_t_table_behind l16_5.toNatClampNeg) l16_4 (l16_5 + (-1 : Int32)) (upd x_t_joining_16 l16_5.toNatClampNeg (vp_nar .boolean (1 : Int32))) _ _ _ h hP hD hS (lv_sub hl [2, 3, 4, 1, 5, 0] rfl)
        · replace h := (if_neg c2).symm.trans h
          refine lv_iload hx hb d_PS_chooseJoining_33 (lv_at hl 5 rfl) ?_
          refine lv_iload hx hb d_PS_chooseJoining_35 (lv_at hl 4 rfl) ?_
          refine lv_icmp_ne (tgt := 44) hx hb d_PS_chooseJoining_37 (by decide) (fun c8 => ?_) (fun c8 => ?_)
          · replace h := (if_neg c8).symm.trans h
            refine lv_iconst (v := (0 : Int32)) hx hb d_PS_chooseJoining_44 (by decide) ?_
            obtain ⟨i9, h⟩ := o_if h
            refine va_zast (n := 600) (f := x_t_joining_16) hx hb hK hP hD hS 3 1 rfl rfl i9 d_PS_chooseJoining_45 (fun H locs hP hD hS => ?_)
            replace hP : va_P G.1 vwCl (ws_PS_chooseJoining G a_t a_t_right a_t_persons a_t_units a_t_draft a_t_reader a_t_table a_t_table_place a_t_table_told a_t_table_before a_t_table_behind a_t_joining x_t_placeCount x_t_personCount x_t_unitCount x_t_table_count x_t_table_behind (upd x_t_joining_16 l16_5.toNatClampNeg (vp_nar .boolean (0 : Int32)))) H := hP
            replace hD : va_D A (ws_PS_chooseJoining G a_t a_t_right a_t_persons a_t_units a_t_draft a_t_reader a_t_table a_t_table_place a_t_table_told a_t_table_before a_t_table_behind a_t_joining x_t_placeCount x_t_personCount x_t_unitCount x_t_table_count x_t_table_behind (upd x_t_joining_16 l16_5.toNatClampNeg (vp_nar .boolean (0 : Int32)))) := hD
            refine lv_iload hx hb d_PS_chooseJoining_46 (lv_at hl 5 rfl) ?_
            refine lv_iload_n hx hb d_PS_chooseJoining_48 rfl (lv_at hl 3 rfl) ?_
            refine lv_icmp_ne (tgt := 66) hx hb d_PS_chooseJoining_49 (by decide) (fun c10 => ?_) (fun c10 => ?_)
            · replace h := (if_neg c10).symm.trans h
              refine lv_iload hx hb d_PS_chooseJoining_66 (lv_at hl 5 rfl) ?_
              refine lv_iload hx hb d_PS_chooseJoining_68 (lv_at hl 4 rfl) ?_
              refine lv_icmp_ne (tgt := 85) hx hb d_PS_chooseJoining_70 (by decide) (fun c11 => ?_) (fun c11 => ?_)
              · replace h := (if_neg c11).symm.trans h
                refine lv_iinc (v := (l16_5 + (-1 : Int32))) (lv' := [(5, .int (l16_5 + (-1 : Int32))), (0, .ref a_t), (1, .int l16_1), (2, .int l16_2), (3, .int l16_3), (4, .int l16_4)]) hx hb d_PS_chooseJoining_85 hl (k := 5) rfl rfl (by decide) rfl (fun ls hl => ?_)
                refine lv_goto (tgt := 16) hx hb d_PS_chooseJoining_88 (by decide) ?_
                exact ih16 l16_1 l16_2 l16_3 l16_4 (l16_5 + (-1 : Int32)) (upd x_t_joining_16 l16_5.toNatClampNeg (vp_nar .boolean (0 : Int32))) _ _ _ h hP hD hS (lv_sub hl [1, 2, 3, 4, 5, 0] rfl)
              · replace h := (if_pos c11).symm.trans h
                refine lv_aload_n hx hb d_PS_chooseJoining_73 rfl (lv_at hl 0 rfl) ?_
                refine va_get (D := G.1) (ci := 5) (v := .ref a_t_table) (C := "PlayStates") (T := TPS) (N := 10) hx hb hts iw_5 hown hK hP 0 rfl rfl 4 (by decide) (hts _ gw_106) (fun _ h9 => h9) rfl d_PS_chooseJoining_74 ?_
                refine va_getN (D := G.1) (ci := 3) (v := .ref a_t_table_behind) (C := "PlayStates$RowTable") (T := TRt) (N := 5) hx hb hts iw_3 hown hK hP 1 rfl rfl 3 (by decide) (va_Nw.use rfl (hN.1 ("PlayStates", 112, "PlayStates$RowTable", "behind", "[I", "PlayStates") (by decide +kernel))) (fun _ h9 => h9) rfl d_PS_chooseJoining_77 ?_
                refine lv_iload hx hb d_PS_chooseJoining_80 (lv_at hl 5 rfl) ?_
                obtain ⟨i12, h⟩ := o_if h
                refine va_iald (n := 600) (f := x_t_table_behind) hx hb hK hP 2 0 rfl rfl i12 d_PS_chooseJoining_82 ?_
                refine lv_istore (lv' := [(4, .int (x_t_table_behind l16_5.toNatClampNeg)), (0, .ref a_t), (1, .int l16_1), (2, .int l16_2), (3, .int l16_3), (5, .int l16_5)]) hx hb d_PS_chooseJoining_83 hl (by decide) rfl (fun ls hl => ?_)
                refine lv_iinc (v := (l16_5 + (-1 : Int32))) (lv' := [(5, .int (l16_5 + (-1 : Int32))), (4, .int (x_t_table_behind l16_5.toNatClampNeg)), (0, .ref a_t), (1, .int l16_1), (2, .int l16_2), (3, .int l16_3)]) hx hb d_PS_chooseJoining_85 hl (k := 5) rfl rfl (by decide) rfl (fun ls hl => ?_)
                refine lv_goto (tgt := 16) hx hb d_PS_chooseJoining_88 (by decide) ?_
                exact ih16 l16_1 l16_2 l16_3 (x_t_table_behind l16_5.toNatClampNeg) (l16_5 + (-1 : Int32)) (upd x_t_joining_16 l16_5.toNatClampNeg (vp_nar .boolean (0 : Int32))) _ _ _ h hP hD hS (lv_sub hl [2, 3, 4, 5, 1, 0] rfl)
            · replace h := (if_pos c10).symm.trans h
              refine lv_aload_n hx hb d_PS_chooseJoining_52 rfl (lv_at hl 0 rfl) ?_
              refine va_get (D := G.1) (ci := 5) (v := .ref a_t_table) (C := "PlayStates") (T := TPS) (N := 10) hx hb hts iw_5 hown hK hP 0 rfl rfl 4 (by decide) (hts _ gw_106) (fun _ h9 => h9) rfl d_PS_chooseJoining_53 ?_
              refine va_getN (D := G.1) (ci := 3) (v := .ref a_t_table_behind) (C := "PlayStates$RowTable") (T := TRt) (N := 5) hx hb hts iw_3 hown hK hP 1 rfl rfl 3 (by decide) (va_Nw.use rfl (hN.1 ("PlayStates", 112, "PlayStates$RowTable", "behind", "[I", "PlayStates") (by decide +kernel))) (fun _ h9 => h9) rfl d_PS_chooseJoining_56 ?_
              refine lv_iload hx hb d_PS_chooseJoining_59 (lv_at hl 5 rfl) ?_
              obtain ⟨i13, h⟩ := o_if h
              refine va_iald (n := 600) (f := x_t_table_behind) hx hb hK hP 2 0 rfl rfl i13 d_PS_chooseJoining_61 ?_
              refine lv_istore_n (lv' := [(3, .int (x_t_table_behind l16_5.toNatClampNeg)), (0, .ref a_t), (1, .int l16_1), (2, .int l16_2), (4, .int l16_4), (5, .int l16_5)]) hx hb d_PS_chooseJoining_62 rfl hl (by decide) rfl (fun ls hl => ?_)
              refine lv_goto (tgt := 85) hx hb d_PS_chooseJoining_63 (by decide) ?_
              refine lv_iinc (v := (l16_5 + (-1 : Int32))) (lv' := [(5, .int (l16_5 + (-1 : Int32))), (3, .int (x_t_table_behind l16_5.toNatClampNeg)), (0, .ref a_t), (1, .int l16_1), (2, .int l16_2), (4, .int l16_4)]) hx hb d_PS_chooseJoining_85 hl (k := 5) rfl rfl (by decide) rfl (fun ls hl => ?_)
              refine lv_goto (tgt := 16) hx hb d_PS_chooseJoining_88 (by decide) ?_
              exact ih16 l16_1 l16_2 (x_t_table_behind l16_5.toNatClampNeg) l16_4 (l16_5 + (-1 : Int32)) (upd x_t_joining_16 l16_5.toNatClampNeg (vp_nar .boolean (0 : Int32))) _ _ _ h hP hD hS (lv_sub hl [2, 3, 4, 1, 5, 0] rfl)
          · replace h := (if_pos c8).symm.trans h
            refine lv_iconst (v := (1 : Int32)) hx hb d_PS_chooseJoining_40 (by decide) ?_
            refine lv_goto (tgt := 45) hx hb d_PS_chooseJoining_41 (by decide) ?_
            obtain ⟨i14, h⟩ := o_if h
            refine va_zast (n := 600) (f := x_t_joining_16) hx hb hK hP hD hS 3 1 rfl rfl i14 d_PS_chooseJoining_45 (fun H locs hP hD hS => ?_)
            replace hP : va_P G.1 vwCl (ws_PS_chooseJoining G a_t a_t_right a_t_persons a_t_units a_t_draft a_t_reader a_t_table a_t_table_place a_t_table_told a_t_table_before a_t_table_behind a_t_joining x_t_placeCount x_t_personCount x_t_unitCount x_t_table_count x_t_table_behind (upd x_t_joining_16 l16_5.toNatClampNeg (vp_nar .boolean (1 : Int32)))) H := hP
            replace hD : va_D A (ws_PS_chooseJoining G a_t a_t_right a_t_persons a_t_units a_t_draft a_t_reader a_t_table a_t_table_place a_t_table_told a_t_table_before a_t_table_behind a_t_joining x_t_placeCount x_t_personCount x_t_unitCount x_t_table_count x_t_table_behind (upd x_t_joining_16 l16_5.toNatClampNeg (vp_nar .boolean (1 : Int32)))) := hD
            refine lv_iload hx hb d_PS_chooseJoining_46 (lv_at hl 5 rfl) ?_
            refine lv_iload_n hx hb d_PS_chooseJoining_48 rfl (lv_at hl 3 rfl) ?_
            refine lv_icmp_ne (tgt := 66) hx hb d_PS_chooseJoining_49 (by decide) (fun c15 => ?_) (fun c15 => ?_)
            · replace h := (if_neg c15).symm.trans h
              refine lv_iload hx hb d_PS_chooseJoining_66 (lv_at hl 5 rfl) ?_
              refine lv_iload hx hb d_PS_chooseJoining_68 (lv_at hl 4 rfl) ?_
              refine lv_icmp_ne (tgt := 85) hx hb d_PS_chooseJoining_70 (by decide) (fun c16 => ?_) (fun c16 => ?_)
              · replace h := (if_neg c16).symm.trans h
                refine lv_iinc (v := (l16_5 + (-1 : Int32))) (lv' := [(5, .int (l16_5 + (-1 : Int32))), (0, .ref a_t), (1, .int l16_1), (2, .int l16_2), (3, .int l16_3), (4, .int l16_4)]) hx hb d_PS_chooseJoining_85 hl (k := 5) rfl rfl (by decide) rfl (fun ls hl => ?_)
                refine lv_goto (tgt := 16) hx hb d_PS_chooseJoining_88 (by decide) ?_
                exact ih16 l16_1 l16_2 l16_3 l16_4 (l16_5 + (-1 : Int32)) (upd x_t_joining_16 l16_5.toNatClampNeg (vp_nar .boolean (1 : Int32))) _ _ _ h hP hD hS (lv_sub hl [1, 2, 3, 4, 5, 0] rfl)
              · replace h := (if_pos c16).symm.trans h
                refine lv_aload_n hx hb d_PS_chooseJoining_73 rfl (lv_at hl 0 rfl) ?_
                refine va_get (D := G.1) (ci := 5) (v := .ref a_t_table) (C := "PlayStates") (T := TPS) (N := 10) hx hb hts iw_5 hown hK hP 0 rfl rfl 4 (by decide) (hts _ gw_106) (fun _ h9 => h9) rfl d_PS_chooseJoining_74 ?_
                refine va_getN (D := G.1) (ci := 3) (v := .ref a_t_table_behind) (C := "PlayStates$RowTable") (T := TRt) (N := 5) hx hb hts iw_3 hown hK hP 1 rfl rfl 3 (by decide) (va_Nw.use rfl (hN.1 ("PlayStates", 112, "PlayStates$RowTable", "behind", "[I", "PlayStates") (by decide +kernel))) (fun _ h9 => h9) rfl d_PS_chooseJoining_77 ?_
                refine lv_iload hx hb d_PS_chooseJoining_80 (lv_at hl 5 rfl) ?_
                obtain ⟨i17, h⟩ := o_if h
                refine va_iald (n := 600) (f := x_t_table_behind) hx hb hK hP 2 0 rfl rfl i17 d_PS_chooseJoining_82 ?_
                refine lv_istore (lv' := [(4, .int (x_t_table_behind l16_5.toNatClampNeg)), (0, .ref a_t), (1, .int l16_1), (2, .int l16_2), (3, .int l16_3), (5, .int l16_5)]) hx hb d_PS_chooseJoining_83 hl (by decide) rfl (fun ls hl => ?_)
                refine lv_iinc (v := (l16_5 + (-1 : Int32))) (lv' := [(5, .int (l16_5 + (-1 : Int32))), (4, .int (x_t_table_behind l16_5.toNatClampNeg)), (0, .ref a_t), (1, .int l16_1), (2, .int l16_2), (3, .int l16_3)]) hx hb d_PS_chooseJoining_85 hl (k := 5) rfl rfl (by decide) rfl (fun ls hl => ?_)
                refine lv_goto (tgt := 16) hx hb d_PS_chooseJoining_88 (by decide) ?_
                exact ih16 l16_1 l16_2 l16_3 (x_t_table_behind l16_5.toNatClampNeg) (l16_5 + (-1 : Int32)) (upd x_t_joining_16 l16_5.toNatClampNeg (vp_nar .boolean (1 : Int32))) _ _ _ h hP hD hS (lv_sub hl [2, 3, 4, 5, 1, 0] rfl)
            · replace h := (if_pos c15).symm.trans h
              refine lv_aload_n hx hb d_PS_chooseJoining_52 rfl (lv_at hl 0 rfl) ?_
              refine va_get (D := G.1) (ci := 5) (v := .ref a_t_table) (C := "PlayStates") (T := TPS) (N := 10) hx hb hts iw_5 hown hK hP 0 rfl rfl 4 (by decide) (hts _ gw_106) (fun _ h9 => h9) rfl d_PS_chooseJoining_53 ?_
              refine va_getN (D := G.1) (ci := 3) (v := .ref a_t_table_behind) (C := "PlayStates$RowTable") (T := TRt) (N := 5) hx hb hts iw_3 hown hK hP 1 rfl rfl 3 (by decide) (va_Nw.use rfl (hN.1 ("PlayStates", 112, "PlayStates$RowTable", "behind", "[I", "PlayStates") (by decide +kernel))) (fun _ h9 => h9) rfl d_PS_chooseJoining_56 ?_
              refine lv_iload hx hb d_PS_chooseJoining_59 (lv_at hl 5 rfl) ?_
              obtain ⟨i18, h⟩ := o_if h
              refine va_iald (n := 600) (f := x_t_table_behind) hx hb hK hP 2 0 rfl rfl i18 d_PS_chooseJoining_61 ?_
              refine lv_istore_n (lv' := [(3, .int (x_t_table_behind l16_5.toNatClampNeg)), (0, .ref a_t), (1, .int l16_1), (2, .int l16_2), (4, .int l16_4), (5, .int l16_5)]) hx hb d_PS_chooseJoining_62 rfl hl (by decide) rfl (fun ls hl => ?_)
              refine lv_goto (tgt := 85) hx hb d_PS_chooseJoining_63 (by decide) ?_
              refine lv_iinc (v := (l16_5 + (-1 : Int32))) (lv' := [(5, .int (l16_5 + (-1 : Int32))), (3, .int (x_t_table_behind l16_5.toNatClampNeg)), (0, .ref a_t), (1, .int l16_1), (2, .int l16_2), (4, .int l16_4)]) hx hb d_PS_chooseJoining_85 hl (k := 5) rfl rfl (by decide) rfl (fun ls hl => ?_)
              refine lv_goto (tgt := 16) hx hb d_PS_chooseJoining_88 (by decide) ?_
              exact ih16 l16_1 l16_2 (x_t_table_behind l16_5.toNatClampNeg) l16_4 (l16_5 + (-1 : Int32)) (upd x_t_joining_16 l16_5.toNatClampNeg (vp_nar .boolean (1 : Int32))) _ _ _ h hP hD hS (lv_sub hl [2, 3, 4, 1, 5, 0] rfl)
  exact L16 fu p0 p1 p0 p1 (x_t_table_count - (1 : Int32)) x_t_joining _ _ _ h hP hD hS (lv_sub hl [3, 4, 5, 2, 1, 0] rfl)
end
section
theorem gw_110 : (.fieldLink "PlayStates" 51 "PlayStates" "draft" "LPlayStates$Board;" : Cond) ∈ GW := gT 104 (by decide +kernel) (by decide +kernel)
theorem gw_288 : (.methodLink "PlayStates" 212 ⟨"PlayStates$Board", "clear", "()V"⟩ : Cond) ∈ GW := gT 317 (by decide +kernel) (by decide +kernel)
theorem d_PS_countJoined_0 : decode prog_1_method_31_code 0 = .ok (.aload_n 0, 1) := by decide +kernel
theorem d_PS_countJoined_1 : decode prog_1_method_31_code 1 = .ok (.getfield 51, 3) := by decide +kernel
theorem d_PS_countJoined_4 : decode prog_1_method_31_code 4 = .ok (.invokevirtual 212, 3) := by decide +kernel
theorem d_PS_countJoined_7 : decode prog_1_method_31_code 7 = .ok (.iconst 0, 1) := by decide +kernel
theorem d_PS_countJoined_8 : decode prog_1_method_31_code 8 = .ok (.istore_n 1, 1) := by decide +kernel
theorem d_PS_countJoined_9 : decode prog_1_method_31_code 9 = .ok (.iconst 0, 1) := by decide +kernel
theorem d_PS_countJoined_10 : decode prog_1_method_31_code 10 = .ok (.istore_n 2, 1) := by decide +kernel
theorem d_PS_countJoined_11 : decode prog_1_method_31_code 11 = .ok (.iload_n 2, 1) := by decide +kernel
theorem d_PS_countJoined_12 : decode prog_1_method_31_code 12 = .ok (.aload_n 0, 1) := by decide +kernel
theorem d_PS_countJoined_13 : decode prog_1_method_31_code 13 = .ok (.getfield 35, 3) := by decide +kernel
theorem d_PS_countJoined_16 : decode prog_1_method_31_code 16 = .ok (.getfield 197, 3) := by decide +kernel
theorem d_PS_countJoined_19 : decode prog_1_method_31_code 19 = .ok (.if_icmp .ge 67, 3) := by decide +kernel
theorem d_PS_countJoined_22 : decode prog_1_method_31_code 22 = .ok (.aload_n 0, 1) := by decide +kernel
theorem d_PS_countJoined_23 : decode prog_1_method_31_code 23 = .ok (.getfield 35, 3) := by decide +kernel
theorem d_PS_countJoined_26 : decode prog_1_method_31_code 26 = .ok (.getfield 102, 3) := by decide +kernel
theorem d_PS_countJoined_29 : decode prog_1_method_31_code 29 = .ok (.iload_n 2, 1) := by decide +kernel
theorem d_PS_countJoined_30 : decode prog_1_method_31_code 30 = .ok (.iaload, 1) := by decide +kernel
theorem d_PS_countJoined_31 : decode prog_1_method_31_code 31 = .ok (.istore_n 3, 1) := by decide +kernel
theorem d_PS_countJoined_32 : decode prog_1_method_31_code 32 = .ok (.aload_n 0, 1) := by decide +kernel
theorem d_PS_countJoined_33 : decode prog_1_method_31_code 33 = .ok (.getfield 35, 3) := by decide +kernel
theorem d_PS_countJoined_36 : decode prog_1_method_31_code 36 = .ok (.getfield 118, 3) := by decide +kernel
theorem d_PS_countJoined_39 : decode prog_1_method_31_code 39 = .ok (.iload_n 2, 1) := by decide +kernel
theorem d_PS_countJoined_40 : decode prog_1_method_31_code 40 = .ok (.iaload, 1) := by decide +kernel
theorem d_PS_countJoined_41 : decode prog_1_method_31_code 41 = .ok (.istore 4, 2) := by decide +kernel
theorem d_PS_countJoined_43 : decode prog_1_method_31_code 43 = .ok (.aload_n 0, 1) := by decide +kernel
theorem d_PS_countJoined_44 : decode prog_1_method_31_code 44 = .ok (.getfield 39, 3) := by decide +kernel
theorem d_PS_countJoined_47 : decode prog_1_method_31_code 47 = .ok (.iload_n 2, 1) := by decide +kernel
theorem d_PS_countJoined_48 : decode prog_1_method_31_code 48 = .ok (.baload, 1) := by decide +kernel
theorem d_PS_countJoined_49 : decode prog_1_method_31_code 49 = .ok (.ifCond .eq 31, 3) := by decide +kernel
theorem d_PS_countJoined_52 : decode prog_1_method_31_code 52 = .ok (.aload_n 0, 1) := by decide +kernel
theorem d_PS_countJoined_53 : decode prog_1_method_31_code 53 = .ok (.getfield 51, 3) := by decide +kernel
theorem d_PS_countJoined_56 : decode prog_1_method_31_code 56 = .ok (.iload_n 3, 1) := by decide +kernel
theorem d_PS_countJoined_57 : decode prog_1_method_31_code 57 = .ok (.iload 4, 2) := by decide +kernel
theorem d_PS_countJoined_59 : decode prog_1_method_31_code 59 = .ok (.invokevirtual 205, 3) := by decide +kernel
theorem d_PS_countJoined_62 : decode prog_1_method_31_code 62 = .ok (.iload 4, 2) := by decide +kernel
theorem d_PS_countJoined_64 : decode prog_1_method_31_code 64 = .ok (.if_icmp .eq 16, 3) := by decide +kernel
theorem d_PS_countJoined_67 : decode prog_1_method_31_code 67 = .ok (.aload_n 0, 1) := by decide +kernel
theorem d_PS_countJoined_68 : decode prog_1_method_31_code 68 = .ok (.getfield 51, 3) := by decide +kernel
theorem d_PS_countJoined_71 : decode prog_1_method_31_code 71 = .ok (.iload_n 3, 1) := by decide +kernel
theorem d_PS_countJoined_72 : decode prog_1_method_31_code 72 = .ok (.iload 4, 2) := by decide +kernel
theorem d_PS_countJoined_74 : decode prog_1_method_31_code 74 = .ok (.invokevirtual 108, 3) := by decide +kernel
theorem d_PS_countJoined_77 : decode prog_1_method_31_code 77 = .ok (.iinc 1 1, 3) := by decide +kernel
theorem d_PS_countJoined_80 : decode prog_1_method_31_code 80 = .ok (.iinc 2 1, 3) := by decide +kernel
theorem d_PS_countJoined_83 : decode prog_1_method_31_code 83 = .ok (.goto (-72), 3) := by decide +kernel
theorem d_PS_countJoined_86 : decode prog_1_method_31_code 86 = .ok (.iload_n 1, 1) := by decide +kernel
theorem d_PS_countJoined_87 : decode prog_1_method_31_code 87 = .ok (.ireturn, 1) := by decide +kernel
-- PlayStates.countJoined()I 
def ws_PS_countJoined (G : gG) (a_t a_t_right a_t_persons a_t_units a_t_reader a_t_table a_t_table_before a_t_table_behind a_t_table_place a_t_table_told a_t_joining a_t_draft a_t_draft_entries a_t_draft_markBits : Nat) (n : Nat) (x_t_placeCount : Int32) (x_t_personCount : Int32) (x_t_unitCount : Int32) (x_t_table_count : Int32) (x_t_table_place : Nat → Int32) (x_t_table_told : Nat → Int32) (x_t_joining : Nat → Int32) (x_t_draft_entries : Nat → Int32) (x_t_draft_markBits : Nat → Int32) : va_W := [(a_t, .inr (5, [.int x_t_placeCount, .ref a_t_right, .ref a_t_persons, .int x_t_personCount, .ref a_t_table, .ref a_t_joining, .ref a_t_units, .int x_t_unitCount, .ref a_t_draft, .ref a_t_reader])), (a_t_table, .inr (3, [.ref a_t_table_place, .ref a_t_table_told, .ref a_t_table_before, .ref a_t_table_behind, .int x_t_table_count])), (a_t_table_place, .inl (G.2 0, 600, .inl x_t_table_place)), (a_t_table_told, .inl (G.2 0, 600, .inl x_t_table_told)), (a_t_joining, .inl (G.2 1, 600, .inl x_t_joining)), (a_t_draft, .inr (0, [.ref a_t_draft_entries, .ref a_t_draft_markBits])), (a_t_draft_entries, .inl (G.2 0, n, .inl x_t_draft_entries)), (a_t_draft_markBits, .inl (G.2 0, n, .inl x_t_draft_markBits))]
def fb_PS_countJoined_L11 (fu : Nat) (n : Nat) (x_t_placeCount : Int32) (x_t_personCount : Int32) (x_t_unitCount : Int32) (x_t_table_count : Int32) (x_t_table_place : Nat → Int32) (x_t_table_told : Nat → Int32) (x_t_joining : Nat → Int32)  (k11 : (Int32 → Int32 → (Nat → Int32) → (Nat → Int32) → Option (Int32 × (Nat → Int32) × (Nat → Int32)))) (l11_1 : Int32) (l11_2 : Int32) (x_t_draft_entries_11 : Nat → Int32) (x_t_draft_markBits_11 : Nat → Int32) : Option (Int32 × (Nat → Int32) × (Nat → Int32)) :=
  (if x_t_table_count ≤ l11_2 then some (l11_1, x_t_draft_entries_11, x_t_draft_markBits_11) else (if inB l11_2 600 then (if inB l11_2 600 then (if inB l11_2 600 then (if (x_t_joining l11_2.toNatClampNeg) = 0 then (k11 l11_1 (l11_2 + (1 : Int32)) x_t_draft_entries_11 x_t_draft_markBits_11) else ((f_Bd_asItIs n (x_t_table_place l11_2.toNatClampNeg) (x_t_table_told l11_2.toNatClampNeg) x_t_draft_entries_11 x_t_draft_markBits_11).bind fun y7 => (if y7 = (x_t_table_told l11_2.toNatClampNeg) then (k11 l11_1 (l11_2 + (1 : Int32)) x_t_draft_entries_11 x_t_draft_markBits_11) else ((f_Bd_put n (x_t_table_place l11_2.toNatClampNeg) (x_t_table_told l11_2.toNatClampNeg) x_t_draft_entries_11 x_t_draft_markBits_11).bind fun y9 => (k11 (l11_1 + (1 : Int32)) (l11_2 + (1 : Int32)) y9.1 y9.2))))) else none) else none) else none))
def f_PS_countJoined_L11 (fu : Nat) (n : Nat) (x_t_placeCount : Int32) (x_t_personCount : Int32) (x_t_unitCount : Int32) (x_t_table_count : Int32) (x_t_table_place : Nat → Int32) (x_t_table_told : Nat → Int32) (x_t_joining : Nat → Int32)  : Nat → Int32 → Int32 → (Nat → Int32) → (Nat → Int32) → Option (Int32 × (Nat → Int32) × (Nat → Int32))
  | 0 => fun _ _ _ _ => none
  | k9 + 1 => fb_PS_countJoined_L11 fu n x_t_placeCount x_t_personCount x_t_unitCount x_t_table_count x_t_table_place x_t_table_told x_t_joining (f_PS_countJoined_L11 fu n x_t_placeCount x_t_personCount x_t_unitCount x_t_table_count x_t_table_place x_t_table_told x_t_joining k9)
def f_PS_countJoined (fu : Nat) (n : Nat)  (x_t_placeCount : Int32) (x_t_personCount : Int32) (x_t_unitCount : Int32) (x_t_table_count : Int32) (x_t_table_place : Nat → Int32) (x_t_table_told : Nat → Int32) (x_t_joining : Nat → Int32) (x_t_draft_entries : Nat → Int32) (x_t_draft_markBits : Nat → Int32) : Option (Int32 × (Nat → Int32) × (Nat → Int32)) :=
  ((f_Bd_clear fu n x_t_draft_entries x_t_draft_markBits).bind fun y1 => (f_PS_countJoined_L11 fu n x_t_placeCount x_t_personCount x_t_unitCount x_t_table_count x_t_table_place x_t_table_told x_t_joining fu (0 : Int32) (0 : Int32) y1.1 y1.2))
set_option maxHeartbeats 4000000 in
set_option maxRecDepth 100000 in
theorem c_PS_countJoined (l : Launch) (G : gG) (sz : Nat) (a_t a_t_right a_t_persons a_t_units a_t_reader a_t_table a_t_table_before a_t_table_behind a_t_table_place a_t_table_told a_t_joining a_t_draft a_t_draft_entries a_t_draft_markBits : Nat) (fu : Nat) (n : Nat)  (x_t_placeCount : Int32) (x_t_personCount : Int32) (x_t_unitCount : Int32) (x_t_table_count : Int32) (x_t_table_place : Nat → Int32) (x_t_table_told : Nat → Int32) (x_t_joining : Nat → Int32) (x_t_draft_entries : Nat → Int32) (x_t_draft_markBits : Nat → Int32) (r : Int32) (x_t_draft_entries' : Nat → Int32) (x_t_draft_markBits' : Nat → Int32) (h : f_PS_countJoined fu n x_t_placeCount x_t_personCount x_t_unitCount x_t_table_count x_t_table_place x_t_table_told x_t_joining x_t_draft_entries x_t_draft_markBits = some (r, x_t_draft_entries', x_t_draft_markBits'))  : cN l y_PS_countJoined w_PS_countJoined { frames := 2, cells := 0, slots := 0, locals := 45 } G sz [.ref a_t] (ws_PS_countJoined G a_t a_t_right a_t_persons a_t_units a_t_reader a_t_table a_t_table_before a_t_table_behind a_t_table_place a_t_table_told a_t_joining a_t_draft a_t_draft_entries a_t_draft_markBits n x_t_placeCount x_t_personCount x_t_unitCount x_t_table_count x_t_table_place x_t_table_told x_t_joining x_t_draft_entries x_t_draft_markBits) (some (.int r)) (wB G (ws_PS_countJoined G a_t a_t_right a_t_persons a_t_units a_t_reader a_t_table a_t_table_before a_t_table_behind a_t_table_place a_t_table_told a_t_joining a_t_draft a_t_draft_entries a_t_draft_markBits n x_t_placeCount x_t_personCount x_t_unitCount x_t_table_count x_t_table_place x_t_table_told x_t_joining x_t_draft_entries' x_t_draft_markBits')) 0 0 := by
  refine cN_ofW (cc := prog_1_method_31_code) (maxL := 5) (ret := (some .int)) (by decide) rfl (Nat.le_of_ble_eq_true rfl) ?_
  intro p e s m args below meth c A H locs ls hx hb hr hts hown hlocks hin hml hK hN hP hD hA hS hl
  replace hl : lv_has ls 5 [(0, .ref a_t)] := hl
  replace hown : s.vm.findClass "PlayStates" = some m.cls := hown
  unfold f_PS_countJoined at h
  refine lv_aload_n hx hb d_PS_countJoined_0 rfl (lv_at hl 0 rfl) ?_
  refine va_get (D := G.1) (ci := 5) (v := .ref a_t_draft) (C := "PlayStates") (T := TPS) (N := 10) hx hb hts iw_5 hown hK hP 0 rfl rfl 8 (by decide) (hts _ gw_110) (fun _ h9 => h9) rfl d_PS_countJoined_1 ?_
  obtain ⟨y1, hy1, h⟩ := o_bind h
  have hPc := hP.sub (ws' := (ws_Bd_clear G a_t_draft a_t_draft_entries a_t_draft_markBits n x_t_draft_entries x_t_draft_markBits)) [5, 6, 7] rfl
  have hDc := hD.sub (ws' := (ws_Bd_clear G a_t_draft a_t_draft_entries a_t_draft_markBits n x_t_draft_entries x_t_draft_markBits)) [5, 6, 7] (by decide) rfl
  have hFc := va_free (wc := (ws_Bd_clear G a_t_draft a_t_draft_entries a_t_draft_markBits n x_t_draft_entries x_t_draft_markBits)) hD hS hA [5, 6, 7] rfl
  refine q_call0 (va_runV (As := []) (rest := []) ⟨hx, hb, hml, hown, hts⟩ (c_Bd_clear l G H.size a_t_draft a_t_draft_entries a_t_draft_markBits fu n x_t_draft_entries x_t_draft_markBits _ _ hy1) (cwV 0 hts (gV gw_288 gw_289 gw_290 gw_34 gw_291) rfl rfl rfl (by decide +kernel) ⟨Nat.le_of_ble_eq_true rfl, Nat.le_of_ble_eq_true rfl⟩) (pV hK hN hPc hDc (ci := 0) (q0 := 0) rfl rfl) rfl rfl hl.1 rfl (lv_room (Nat.le_of_ble_eq_true rfl)) d_PS_countJoined_4 ⟨Nat.le_of_ble_eq_true rfl, Nat.le_of_ble_eq_true rfl⟩) hS (fun q _ h => hFc q h) hFc (fun H1 locs hB hz hk hS => ?_)
  obtain ⟨hP, hD⟩ := q_join (wr := [(a_t, .inr (5, [.int x_t_placeCount, .ref a_t_right, .ref a_t_persons, .int x_t_personCount, .ref a_t_table, .ref a_t_joining, .ref a_t_units, .int x_t_unitCount, .ref a_t_draft, .ref a_t_reader])), (a_t_table, .inr (3, [.ref a_t_table_place, .ref a_t_table_told, .ref a_t_table_before, .ref a_t_table_behind, .int x_t_table_count])), (a_t_table_place, .inl (G.2 0, 600, .inl x_t_table_place)), (a_t_table_told, .inl (G.2 0, 600, .inl x_t_table_told)), (a_t_joining, .inl (G.2 1, 600, .inl x_t_joining))]) (wn := (ws_PS_countJoined G a_t a_t_right a_t_persons a_t_units a_t_reader a_t_table a_t_table_before a_t_table_behind a_t_table_place a_t_table_told a_t_joining a_t_draft a_t_draft_entries a_t_draft_markBits n x_t_placeCount x_t_personCount x_t_unitCount x_t_table_count x_t_table_place x_t_table_told x_t_joining y1.1 y1.2)) hP hD [5, 6, 7] [0, 1, 2, 3, 4] [0, 1, 2, 3, 4, 5, 6, 7] rfl rfl (by decide) (by decide) rfl (by decide) hk hFc hB.1 hB.2
  generalize H1 = H at hP hS ⊢
  replace hP : va_P G.1 vwCl (ws_PS_countJoined G a_t a_t_right a_t_persons a_t_units a_t_reader a_t_table a_t_table_before a_t_table_behind a_t_table_place a_t_table_told a_t_joining a_t_draft a_t_draft_entries a_t_draft_markBits n x_t_placeCount x_t_personCount x_t_unitCount x_t_table_count x_t_table_place x_t_table_told x_t_joining y1.1 y1.2) H := hP
  replace hD : va_D A (ws_PS_countJoined G a_t a_t_right a_t_persons a_t_units a_t_reader a_t_table a_t_table_before a_t_table_behind a_t_table_place a_t_table_told a_t_joining a_t_draft a_t_draft_entries a_t_draft_markBits n x_t_placeCount x_t_personCount x_t_unitCount x_t_table_count x_t_table_place x_t_table_told x_t_joining y1.1 y1.2) := hD
  refine lv_iconst (v := (0 : Int32)) hx hb d_PS_countJoined_7 (by decide) ?_
  refine lv_istore_n (lv' := [(1, .int (0 : Int32)), (0, .ref a_t)]) hx hb d_PS_countJoined_8 rfl hl (by decide) rfl (fun ls hl => ?_)
  refine lv_iconst (v := (0 : Int32)) hx hb d_PS_countJoined_9 (by decide) ?_
  refine lv_istore_n (lv' := [(2, .int (0 : Int32)), (1, .int (0 : Int32)), (0, .ref a_t)]) hx hb d_PS_countJoined_10 rfl hl (by decide) rfl (fun ls hl => ?_)
  have L11 : ∀ (nf : Nat) (l11_1 : Int32) (l11_2 : Int32) (x_t_draft_entries_11 : Nat → Int32) (x_t_draft_markBits_11 : Nat → Int32) (H : Heap) (locs : List Loc) (ls : Array Slot), f_PS_countJoined_L11 fu n x_t_placeCount x_t_personCount x_t_unitCount x_t_table_count x_t_table_place x_t_table_told x_t_joining nf l11_1 l11_2 x_t_draft_entries_11 x_t_draft_markBits_11 = some (r, x_t_draft_entries', x_t_draft_markBits') → va_P G.1 vwCl (ws_PS_countJoined G a_t a_t_right a_t_persons a_t_units a_t_reader a_t_table a_t_table_before a_t_table_behind a_t_table_place a_t_table_told a_t_joining a_t_draft a_t_draft_entries a_t_draft_markBits n x_t_placeCount x_t_personCount x_t_unitCount x_t_table_count x_t_table_place x_t_table_told x_t_joining x_t_draft_entries_11 x_t_draft_markBits_11) H → va_D A (ws_PS_countJoined G a_t a_t_right a_t_persons a_t_units a_t_reader a_t_table a_t_table_before a_t_table_behind a_t_table_place a_t_table_told a_t_joining a_t_draft a_t_draft_entries a_t_draft_markBits n x_t_placeCount x_t_personCount x_t_unitCount x_t_table_count x_t_table_place x_t_table_told x_t_joining x_t_draft_entries_11 x_t_draft_markBits_11) → va_S A s.heap H locs → lv_has ls 5 [(0, .ref a_t), (1, .int l11_1), (2, .int l11_2)] → W p l e { frames := 2, cells := 0, slots := 0, locals := 45 } s m args below meth c H locs 0 0 (MQ below (qQ (some (.int r)) (wB G (ws_PS_countJoined G a_t a_t_right a_t_persons a_t_units a_t_reader a_t_table a_t_table_before a_t_table_behind a_t_table_place a_t_table_told a_t_joining a_t_draft a_t_draft_entries a_t_draft_markBits n x_t_placeCount x_t_personCount x_t_unitCount x_t_table_count x_t_table_place x_t_table_told x_t_joining x_t_draft_entries' x_t_draft_markBits') A) A) args s 0 0 A) (F0 m 11 ls []) := by
    clear h hP hD hS hl
    intro n11
    induction n11 with
    | zero => intro _ _ _ _ H locs ls h; exact nomatch (show none = some _ from h)
    | succ n11 ih11 =>
      intro l11_1 l11_2 x_t_draft_entries_11 x_t_draft_markBits_11 H locs ls h hP hD hS hl
      replace h : fb_PS_countJoined_L11 fu n x_t_placeCount x_t_personCount x_t_unitCount x_t_table_count x_t_table_place x_t_table_told x_t_joining (f_PS_countJoined_L11 fu n x_t_placeCount x_t_personCount x_t_unitCount x_t_table_count x_t_table_place x_t_table_told x_t_joining n11) l11_1 l11_2 x_t_draft_entries_11 x_t_draft_markBits_11 = some (r, x_t_draft_entries', x_t_draft_markBits') := h
      unfold fb_PS_countJoined_L11 at h
      refine lv_iload_n hx hb d_PS_countJoined_11 rfl (lv_at hl 2 rfl) ?_
      refine lv_aload_n hx hb d_PS_countJoined_12 rfl (lv_at hl 0 rfl) ?_
      refine va_get (D := G.1) (ci := 5) (v := .ref a_t_table) (C := "PlayStates") (T := TPS) (N := 10) hx hb hts iw_5 hown hK hP 0 rfl rfl 4 (by decide) (hts _ gw_106) (fun _ h9 => h9) rfl d_PS_countJoined_13 ?_
      refine va_getN (D := G.1) (ci := 3) (v := .int x_t_table_count) (C := "PlayStates$RowTable") (T := TRt) (N := 5) hx hb hts iw_3 hown hK hP 1 rfl rfl 4 (by decide) (va_Nw.use rfl (hN.1 ("PlayStates", 197, "PlayStates$RowTable", "count", "I", "PlayStates") (by decide +kernel))) (fun _ h9 => h9) rfl d_PS_countJoined_16 ?_
      refine lv_icmp_ge (tgt := 86) hx hb d_PS_countJoined_19 (by decide) (fun c2 => ?_) (fun c2 => ?_)
      · replace h := (if_pos c2).symm.trans h
        refine lv_iload_n hx hb d_PS_countJoined_86 rfl (lv_at hl 1 rfl) ?_
        cases h
        exact q_iretW hx hb hr hlocks hP hD hS d_PS_countJoined_87
      · replace h := (if_neg c2).symm.trans h
        refine lv_aload_n hx hb d_PS_countJoined_22 rfl (lv_at hl 0 rfl) ?_
        refine va_get (D := G.1) (ci := 5) (v := .ref a_t_table) (C := "PlayStates") (T := TPS) (N := 10) hx hb hts iw_5 hown hK hP 0 rfl rfl 4 (by decide) (hts _ gw_106) (fun _ h9 => h9) rfl d_PS_countJoined_23 ?_
        refine va_getN (D := G.1) (ci := 3) (v := .ref a_t_table_place) (C := "PlayStates$RowTable") (T := TRt) (N := 5) hx hb hts iw_3 hown hK hP 1 rfl rfl 0 (by decide) (va_Nw.use rfl (hN.1 ("PlayStates", 102, "PlayStates$RowTable", "place", "[I", "PlayStates") (by decide +kernel))) (fun _ h9 => h9) rfl d_PS_countJoined_26 ?_
        refine lv_iload_n hx hb d_PS_countJoined_29 rfl (lv_at hl 2 rfl) ?_
        obtain ⟨i3, h⟩ := o_if h
        refine va_iald (n := 600) (f := x_t_table_place) hx hb hK hP 2 0 rfl rfl i3 d_PS_countJoined_30 ?_
        refine lv_istore_n (lv' := [(3, .int (x_t_table_place l11_2.toNatClampNeg)), (0, .ref a_t), (1, .int l11_1), (2, .int l11_2)]) hx hb d_PS_countJoined_31 rfl hl (by decide) rfl (fun ls hl => ?_)
        refine lv_aload_n hx hb d_PS_countJoined_32 rfl (lv_at hl 1 rfl) ?_
        refine va_get (D := G.1) (ci := 5) (v := .ref a_t_table) (C := "PlayStates") (T := TPS) (N := 10) hx hb hts iw_5 hown hK hP 0 rfl rfl 4 (by decide) (hts _ gw_106) (fun _ h9 => h9) rfl d_PS_countJoined_33 ?_
        refine va_getN (D := G.1) (ci := 3) (v := .ref a_t_table_told) (C := "PlayStates$RowTable") (T := TRt) (N := 5) hx hb hts iw_3 hown hK hP 1 rfl rfl 1 (by decide) (va_Nw.use rfl (hN.1 ("PlayStates", 118, "PlayStates$RowTable", "told", "[I", "PlayStates") (by decide +kernel))) (fun _ h9 => h9) rfl d_PS_countJoined_36 ?_
        refine lv_iload_n hx hb d_PS_countJoined_39 rfl (lv_at hl 3 rfl) ?_
        obtain ⟨i4, h⟩ := o_if h
        refine va_iald (n := 600) (f := x_t_table_told) hx hb hK hP 3 0 rfl rfl i4 d_PS_countJoined_40 ?_
        refine lv_istore (lv' := [(4, .int (x_t_table_told l11_2.toNatClampNeg)), (3, .int (x_t_table_place l11_2.toNatClampNeg)), (0, .ref a_t), (1, .int l11_1), (2, .int l11_2)]) hx hb d_PS_countJoined_41 hl (by decide) rfl (fun ls hl => ?_)
        refine lv_aload_n hx hb d_PS_countJoined_43 rfl (lv_at hl 2 rfl) ?_
        refine va_get (D := G.1) (ci := 5) (v := .ref a_t_joining) (C := "PlayStates") (T := TPS) (N := 10) hx hb hts iw_5 hown hK hP 0 rfl rfl 5 (by decide) (hts _ gw_107) (fun _ h9 => h9) rfl d_PS_countJoined_44 ?_
        refine lv_iload_n hx hb d_PS_countJoined_47 rfl (lv_at hl 4 rfl) ?_
        obtain ⟨i5, h⟩ := o_if h
        refine va_zald (n := 600) (f := x_t_joining) hx hb hK hP 4 1 rfl rfl i5 d_PS_countJoined_48 ?_
        refine lv_if_eq (tgt := 80) hx hb d_PS_countJoined_49 (by decide) (fun c6 => ?_) (fun c6 => ?_)
        · replace h := (if_pos c6).symm.trans h
          refine lv_iinc (v := (l11_2 + (1 : Int32))) (lv' := [(2, .int (l11_2 + (1 : Int32))), (4, .int (x_t_table_told l11_2.toNatClampNeg)), (3, .int (x_t_table_place l11_2.toNatClampNeg)), (0, .ref a_t), (1, .int l11_1)]) hx hb d_PS_countJoined_80 hl (k := 4) rfl rfl (by decide) rfl (fun ls hl => ?_)
          refine lv_goto (tgt := 11) hx hb d_PS_countJoined_83 (by decide) ?_
          exact ih11 l11_1 (l11_2 + (1 : Int32)) x_t_draft_entries_11 x_t_draft_markBits_11 _ _ _ h hP hD hS (lv_sub hl [3, 4, 0] rfl)
        · replace h := (if_neg c6).symm.trans h
          refine lv_aload_n hx hb d_PS_countJoined_52 rfl (lv_at hl 2 rfl) ?_
          refine va_get (D := G.1) (ci := 5) (v := .ref a_t_draft) (C := "PlayStates") (T := TPS) (N := 10) hx hb hts iw_5 hown hK hP 0 rfl rfl 8 (by decide) (hts _ gw_110) (fun _ h9 => h9) rfl d_PS_countJoined_53 ?_
          refine lv_iload_n hx hb d_PS_countJoined_56 rfl (lv_at hl 1 rfl) ?_
          refine lv_iload hx hb d_PS_countJoined_57 (lv_at hl 0 rfl) ?_
          obtain ⟨y7, hy7, h⟩ := o_bind h
          have hPc := hP.sub (ws' := (ws_Bd_asItIs G a_t_draft a_t_draft_entries a_t_draft_markBits n x_t_draft_entries_11 x_t_draft_markBits_11)) [5, 6, 7] rfl
          have hDc := hD.sub (ws' := (ws_Bd_asItIs G a_t_draft a_t_draft_entries a_t_draft_markBits n x_t_draft_entries_11 x_t_draft_markBits_11)) [5, 6, 7] (by decide) rfl
          have hFc := va_free (wc := (ws_Bd_asItIs G a_t_draft a_t_draft_entries a_t_draft_markBits n x_t_draft_entries_11 x_t_draft_markBits_11)) hD hS hA [5, 6, 7] rfl
          refine q_call1 (va_runV (As := [.int (x_t_table_place l11_2.toNatClampNeg), .int (x_t_table_told l11_2.toNatClampNeg)]) (rest := []) ⟨hx, hb, hml, hown, hts⟩ (c_Bd_asItIs l G H.size a_t_draft a_t_draft_entries a_t_draft_markBits n (x_t_table_place l11_2.toNatClampNeg) (x_t_table_told l11_2.toNatClampNeg) x_t_draft_entries_11 x_t_draft_markBits_11 _ hy7) (cwV 2 hts (gV gw_175 gw_176 gw_177 gw_34 gw_178) rfl rfl rfl (by decide +kernel) ⟨Nat.le_of_ble_eq_true rfl, Nat.le_of_ble_eq_true rfl⟩) (pV hK hN hPc hDc (ci := 0) (q0 := 0) rfl rfl) rfl rfl hl.1 rfl (lv_room (Nat.le_of_ble_eq_true rfl)) d_PS_countJoined_59 ⟨Nat.le_of_ble_eq_true rfl, Nat.le_of_ble_eq_true rfl⟩) hS (fun q _ h => hFc q h) hFc (fun H1 locs hB hz hk hS => ?_)
          obtain ⟨hP, hD⟩ := q_join (wr := [(a_t, .inr (5, [.int x_t_placeCount, .ref a_t_right, .ref a_t_persons, .int x_t_personCount, .ref a_t_table, .ref a_t_joining, .ref a_t_units, .int x_t_unitCount, .ref a_t_draft, .ref a_t_reader])), (a_t_table, .inr (3, [.ref a_t_table_place, .ref a_t_table_told, .ref a_t_table_before, .ref a_t_table_behind, .int x_t_table_count])), (a_t_table_place, .inl (G.2 0, 600, .inl x_t_table_place)), (a_t_table_told, .inl (G.2 0, 600, .inl x_t_table_told)), (a_t_joining, .inl (G.2 1, 600, .inl x_t_joining))]) (wn := (ws_PS_countJoined G a_t a_t_right a_t_persons a_t_units a_t_reader a_t_table a_t_table_before a_t_table_behind a_t_table_place a_t_table_told a_t_joining a_t_draft a_t_draft_entries a_t_draft_markBits n x_t_placeCount x_t_personCount x_t_unitCount x_t_table_count x_t_table_place x_t_table_told x_t_joining x_t_draft_entries_11 x_t_draft_markBits_11)) hP hD [5, 6, 7] [0, 1, 2, 3, 4] [0, 1, 2, 3, 4, 5, 6, 7] rfl rfl (by decide) (by decide) rfl (by decide) hk hFc hB.1 hB.2
          generalize H1 = H at hP hS ⊢
          replace hP : va_P G.1 vwCl (ws_PS_countJoined G a_t a_t_right a_t_persons a_t_units a_t_reader a_t_table a_t_table_before a_t_table_behind a_t_table_place a_t_table_told a_t_joining a_t_draft a_t_draft_entries a_t_draft_markBits n x_t_placeCount x_t_personCount x_t_unitCount x_t_table_count x_t_table_place x_t_table_told x_t_joining x_t_draft_entries_11 x_t_draft_markBits_11) H := hP
          replace hD : va_D A (ws_PS_countJoined G a_t a_t_right a_t_persons a_t_units a_t_reader a_t_table a_t_table_before a_t_table_behind a_t_table_place a_t_table_told a_t_joining a_t_draft a_t_draft_entries a_t_draft_markBits n x_t_placeCount x_t_personCount x_t_unitCount x_t_table_count x_t_table_place x_t_table_told x_t_joining x_t_draft_entries_11 x_t_draft_markBits_11) := hD
          refine lv_iload hx hb d_PS_countJoined_62 (lv_at hl 0 rfl) ?_
          refine lv_icmp_eq (tgt := 80) hx hb d_PS_countJoined_64 (by decide) (fun c8 => ?_) (fun c8 => ?_)
          · replace h := (if_pos c8).symm.trans h
            refine lv_iinc (v := (l11_2 + (1 : Int32))) (lv' := [(2, .int (l11_2 + (1 : Int32))), (4, .int (x_t_table_told l11_2.toNatClampNeg)), (3, .int (x_t_table_place l11_2.toNatClampNeg)), (0, .ref a_t), (1, .int l11_1)]) hx hb d_PS_countJoined_80 hl (k := 4) rfl rfl (by decide) rfl (fun ls hl => ?_)
            refine lv_goto (tgt := 11) hx hb d_PS_countJoined_83 (by decide) ?_
            exact ih11 l11_1 (l11_2 + (1 : Int32)) x_t_draft_entries_11 x_t_draft_markBits_11 _ _ _ h hP hD hS (lv_sub hl [3, 4, 0] rfl)
          · replace h := (if_neg c8).symm.trans h
            refine lv_aload_n hx hb d_PS_countJoined_67 rfl (lv_at hl 2 rfl) ?_
            refine va_get (D := G.1) (ci := 5) (v := .ref a_t_draft) (C := "PlayStates") (T := TPS) (N := 10) hx hb hts iw_5 hown hK hP 0 rfl rfl 8 (by decide) (hts _ gw_110) (fun _ h9 => h9) rfl d_PS_countJoined_68 ?_
            refine lv_iload_n hx hb d_PS_countJoined_71 rfl (lv_at hl 1 rfl) ?_
            refine lv_iload hx hb d_PS_countJoined_72 (lv_at hl 0 rfl) ?_
            obtain ⟨y9, hy9, h⟩ := o_bind h
            have hPc := hP.sub (ws' := (ws_Bd_put G a_t_draft a_t_draft_entries a_t_draft_markBits n x_t_draft_entries_11 x_t_draft_markBits_11)) [5, 6, 7] rfl
            have hDc := hD.sub (ws' := (ws_Bd_put G a_t_draft a_t_draft_entries a_t_draft_markBits n x_t_draft_entries_11 x_t_draft_markBits_11)) [5, 6, 7] (by decide) rfl
            have hFc := va_free (wc := (ws_Bd_put G a_t_draft a_t_draft_entries a_t_draft_markBits n x_t_draft_entries_11 x_t_draft_markBits_11)) hD hS hA [5, 6, 7] rfl
            refine q_call0 (va_runV (As := [.int (x_t_table_place l11_2.toNatClampNeg), .int (x_t_table_told l11_2.toNatClampNeg)]) (rest := []) ⟨hx, hb, hml, hown, hts⟩ (c_Bd_put l G H.size a_t_draft a_t_draft_entries a_t_draft_markBits n (x_t_table_place l11_2.toNatClampNeg) (x_t_table_told l11_2.toNatClampNeg) x_t_draft_entries_11 x_t_draft_markBits_11 _ _ hy9) (cwV 2 hts (gV gw_191 gw_192 gw_193 gw_34 gw_194) rfl rfl rfl (by decide +kernel) ⟨Nat.le_of_ble_eq_true rfl, Nat.le_of_ble_eq_true rfl⟩) (pV hK hN hPc hDc (ci := 0) (q0 := 0) rfl rfl) rfl rfl hl.1 rfl (lv_room (Nat.le_of_ble_eq_true rfl)) d_PS_countJoined_74 ⟨Nat.le_of_ble_eq_true rfl, Nat.le_of_ble_eq_true rfl⟩) hS (fun q _ h => hFc q h) hFc (fun H1 locs hB hz hk hS => ?_)
            obtain ⟨hP, hD⟩ := q_join (wr := [(a_t, .inr (5, [.int x_t_placeCount, .ref a_t_right, .ref a_t_persons, .int x_t_personCount, .ref a_t_table, .ref a_t_joining, .ref a_t_units, .int x_t_unitCount, .ref a_t_draft, .ref a_t_reader])), (a_t_table, .inr (3, [.ref a_t_table_place, .ref a_t_table_told, .ref a_t_table_before, .ref a_t_table_behind, .int x_t_table_count])), (a_t_table_place, .inl (G.2 0, 600, .inl x_t_table_place)), (a_t_table_told, .inl (G.2 0, 600, .inl x_t_table_told)), (a_t_joining, .inl (G.2 1, 600, .inl x_t_joining))]) (wn := (ws_PS_countJoined G a_t a_t_right a_t_persons a_t_units a_t_reader a_t_table a_t_table_before a_t_table_behind a_t_table_place a_t_table_told a_t_joining a_t_draft a_t_draft_entries a_t_draft_markBits n x_t_placeCount x_t_personCount x_t_unitCount x_t_table_count x_t_table_place x_t_table_told x_t_joining y9.1 y9.2)) hP hD [5, 6, 7] [0, 1, 2, 3, 4] [0, 1, 2, 3, 4, 5, 6, 7] rfl rfl (by decide) (by decide) rfl (by decide) hk hFc hB.1 hB.2
            generalize H1 = H at hP hS ⊢
            replace hP : va_P G.1 vwCl (ws_PS_countJoined G a_t a_t_right a_t_persons a_t_units a_t_reader a_t_table a_t_table_before a_t_table_behind a_t_table_place a_t_table_told a_t_joining a_t_draft a_t_draft_entries a_t_draft_markBits n x_t_placeCount x_t_personCount x_t_unitCount x_t_table_count x_t_table_place x_t_table_told x_t_joining y9.1 y9.2) H := hP
            replace hD : va_D A (ws_PS_countJoined G a_t a_t_right a_t_persons a_t_units a_t_reader a_t_table a_t_table_before a_t_table_behind a_t_table_place a_t_table_told a_t_joining a_t_draft a_t_draft_entries a_t_draft_markBits n x_t_placeCount x_t_personCount x_t_unitCount x_t_table_count x_t_table_place x_t_table_told x_t_joining y9.1 y9.2) := hD
            refine lv_iinc (v := (l11_1 + (1 : Int32))) (lv' := [(1, .int (l11_1 + (1 : Int32))), (4, .int (x_t_table_told l11_2.toNatClampNeg)), (3, .int (x_t_table_place l11_2.toNatClampNeg)), (0, .ref a_t), (2, .int l11_2)]) hx hb d_PS_countJoined_77 hl (k := 3) rfl rfl (by decide) rfl (fun ls hl => ?_)
            refine lv_iinc (v := (l11_2 + (1 : Int32))) (lv' := [(2, .int (l11_2 + (1 : Int32))), (1, .int (l11_1 + (1 : Int32))), (4, .int (x_t_table_told l11_2.toNatClampNeg)), (3, .int (x_t_table_place l11_2.toNatClampNeg)), (0, .ref a_t)]) hx hb d_PS_countJoined_80 hl (k := 4) rfl rfl (by decide) rfl (fun ls hl => ?_)
            refine lv_goto (tgt := 11) hx hb d_PS_countJoined_83 (by decide) ?_
            exact ih11 (l11_1 + (1 : Int32)) (l11_2 + (1 : Int32)) y9.1 y9.2 _ _ _ h hP hD hS (lv_sub hl [4, 1, 0] rfl)
  exact L11 fu (0 : Int32) (0 : Int32) y1.1 y1.2 _ _ _ h hP hD hS (lv_sub hl [2, 1, 0] rfl)

theorem gw_111 : (.fieldLink "PlayStates" 60 "PlayStates" "reader" "LPlayStates$StateReader;" : Cond) ∈ GW := gT 105 (by decide +kernel) (by decide +kernel)
theorem gw_334 : (.code ⟨"PlayStates$StateReader", "begin", "()V"⟩ prog_6_method_2_code 1 none : Cond) ∈ GW := gT 366 (by decide +kernel) (by decide +kernel)
theorem gw_331 : (.methodLink "PlayStates" 215 ⟨"PlayStates$StateReader", "begin", "()V"⟩ : Cond) ∈ GW := gT 363 (by decide +kernel) (by decide +kernel)
theorem gw_332 : (.instanceMethod ⟨"PlayStates$StateReader", "begin", "()V"⟩ : Cond) ∈ GW := gT 364 (by decide +kernel) (by decide +kernel)
theorem gw_333 : (.selects "PlayStates$StateReader" ⟨"PlayStates$StateReader", "begin", "()V"⟩ ⟨"PlayStates$StateReader", "begin", "()V"⟩ : Cond) ∈ GW := gT 365 (by decide +kernel) (by decide +kernel)
theorem gw_339 : (.code ⟨"PlayStates$StateReader", "accepts", "(I)Z"⟩ prog_6_method_3_code 2 (some .boolean) : Cond) ∈ GW := gT 371 (by decide +kernel) (by decide +kernel)
theorem gw_336 : (.methodLink "PlayStates" 218 ⟨"PlayStates$StateReader", "accepts", "(I)Z"⟩ : Cond) ∈ GW := gT 368 (by decide +kernel) (by decide +kernel)
theorem gw_337 : (.instanceMethod ⟨"PlayStates$StateReader", "accepts", "(I)Z"⟩ : Cond) ∈ GW := gT 369 (by decide +kernel) (by decide +kernel)
theorem gw_338 : (.selects "PlayStates$StateReader" ⟨"PlayStates$StateReader", "accepts", "(I)Z"⟩ ⟨"PlayStates$StateReader", "accepts", "(I)Z"⟩ : Cond) ∈ GW := gT 370 (by decide +kernel) (by decide +kernel)
theorem d_PS_readUnits_0 : decode prog_1_method_33_code 0 = .ok (.aload_n 0, 1) := by decide +kernel
theorem d_PS_readUnits_1 : decode prog_1_method_33_code 1 = .ok (.getfield 60, 3) := by decide +kernel
theorem d_PS_readUnits_4 : decode prog_1_method_33_code 4 = .ok (.invokevirtual 215, 3) := by decide +kernel
theorem d_PS_readUnits_7 : decode prog_1_method_33_code 7 = .ok (.iconst 0, 1) := by decide +kernel
theorem d_PS_readUnits_8 : decode prog_1_method_33_code 8 = .ok (.istore_n 1, 1) := by decide +kernel
theorem d_PS_readUnits_9 : decode prog_1_method_33_code 9 = .ok (.iload_n 1, 1) := by decide +kernel
theorem d_PS_readUnits_10 : decode prog_1_method_33_code 10 = .ok (.aload_n 0, 1) := by decide +kernel
theorem d_PS_readUnits_11 : decode prog_1_method_33_code 11 = .ok (.getfield 182, 3) := by decide +kernel
theorem d_PS_readUnits_14 : decode prog_1_method_33_code 14 = .ok (.if_icmp .ge 25, 3) := by decide +kernel
theorem d_PS_readUnits_17 : decode prog_1_method_33_code 17 = .ok (.aload_n 0, 1) := by decide +kernel
theorem d_PS_readUnits_18 : decode prog_1_method_33_code 18 = .ok (.getfield 60, 3) := by decide +kernel
theorem d_PS_readUnits_21 : decode prog_1_method_33_code 21 = .ok (.aload_n 0, 1) := by decide +kernel
theorem d_PS_readUnits_22 : decode prog_1_method_33_code 22 = .ok (.getfield 43, 3) := by decide +kernel
theorem d_PS_readUnits_25 : decode prog_1_method_33_code 25 = .ok (.iload_n 1, 1) := by decide +kernel
theorem d_PS_readUnits_26 : decode prog_1_method_33_code 26 = .ok (.iaload, 1) := by decide +kernel
theorem d_PS_readUnits_27 : decode prog_1_method_33_code 27 = .ok (.invokevirtual 218, 3) := by decide +kernel
theorem d_PS_readUnits_30 : decode prog_1_method_33_code 30 = .ok (.ifCond .eq 9, 3) := by decide +kernel
theorem d_PS_readUnits_33 : decode prog_1_method_33_code 33 = .ok (.iinc 1 1, 3) := by decide +kernel
theorem d_PS_readUnits_36 : decode prog_1_method_33_code 36 = .ok (.goto (-27), 3) := by decide +kernel
theorem d_PS_readUnits_39 : decode prog_1_method_33_code 39 = .ok (.iload_n 1, 1) := by decide +kernel
theorem d_PS_readUnits_40 : decode prog_1_method_33_code 40 = .ok (.ireturn, 1) := by decide +kernel
-- PlayStates.readUnits()I 
def ws_PS_readUnits (G : gG) (a_t a_t_right a_t_persons a_t_table a_t_joining a_t_units a_t_draft a_t_draft_entries a_t_draft_markBits a_t_reader : Nat) (n : Nat) (x_t_placeCount : Int32) (x_t_personCount : Int32) (x_t_unitCount : Int32) (x_t_units : Nat → Int32) (x_t_draft_entries : Nat → Int32) (x_t_draft_markBits : Nat → Int32) (x_t_reader_placeCount : Int32) (x_t_reader_placesRead : Int32) (x_t_reader_mayOpen : Int32) (x_t_reader_open : Int32) (x_t_reader_lastMark : Int32) : va_W := [(a_t, .inr (5, [.int x_t_placeCount, .ref a_t_right, .ref a_t_persons, .int x_t_personCount, .ref a_t_table, .ref a_t_joining, .ref a_t_units, .int x_t_unitCount, .ref a_t_draft, .ref a_t_reader])), (a_t_units, .inl (G.2 0, 1000, .inl x_t_units)), (a_t_draft, .inr (0, [.ref a_t_draft_entries, .ref a_t_draft_markBits])), (a_t_draft_entries, .inl (G.2 0, n, .inl x_t_draft_entries)), (a_t_draft_markBits, .inl (G.2 0, n, .inl x_t_draft_markBits)), (a_t_reader, .inr (4, [.ref a_t_draft, .int x_t_reader_placeCount, .int x_t_reader_placesRead, .int x_t_reader_mayOpen, .int x_t_reader_open, .int x_t_reader_lastMark]))]
def fb_PS_readUnits_L9 (fu : Nat) (n : Nat) (x_t_placeCount : Int32) (x_t_personCount : Int32) (x_t_unitCount : Int32) (x_t_units : Nat → Int32) (x_t_reader_placeCount : Int32)  (k9 : (Int32 → (Nat → Int32) → (Nat → Int32) → Int32 → Int32 → Int32 → Int32 → Option (Int32 × (Nat → Int32) × (Nat → Int32) × Int32 × Int32 × Int32 × Int32))) (l9_1 : Int32) (x_t_draft_entries_9 : Nat → Int32) (x_t_draft_markBits_9 : Nat → Int32) (x_t_reader_placesRead_9 : Int32) (x_t_reader_mayOpen_9 : Int32) (x_t_reader_open_9 : Int32) (x_t_reader_lastMark_9 : Int32) : Option (Int32 × (Nat → Int32) × (Nat → Int32) × Int32 × Int32 × Int32 × Int32) :=
  (if x_t_unitCount ≤ l9_1 then some (l9_1, x_t_draft_entries_9, x_t_draft_markBits_9, x_t_reader_placesRead_9, x_t_reader_mayOpen_9, x_t_reader_open_9, x_t_reader_lastMark_9) else (if inB l9_1 1000 then ((f_Sr_accepts n (x_t_units l9_1.toNatClampNeg) x_t_reader_placeCount x_t_reader_placesRead_9 x_t_reader_mayOpen_9 x_t_reader_open_9 x_t_reader_lastMark_9 x_t_draft_entries_9 x_t_draft_markBits_9).bind fun y4 => (if y4.1 = 0 then some (l9_1, y4.2.2.2.2.2.1, y4.2.2.2.2.2.2, y4.2.1, y4.2.2.1, y4.2.2.2.1, y4.2.2.2.2.1) else (k9 (l9_1 + (1 : Int32)) y4.2.2.2.2.2.1 y4.2.2.2.2.2.2 y4.2.1 y4.2.2.1 y4.2.2.2.1 y4.2.2.2.2.1))) else none))
def f_PS_readUnits_L9 (fu : Nat) (n : Nat) (x_t_placeCount : Int32) (x_t_personCount : Int32) (x_t_unitCount : Int32) (x_t_units : Nat → Int32) (x_t_reader_placeCount : Int32)  : Nat → Int32 → (Nat → Int32) → (Nat → Int32) → Int32 → Int32 → Int32 → Int32 → Option (Int32 × (Nat → Int32) × (Nat → Int32) × Int32 × Int32 × Int32 × Int32)
  | 0 => fun _ _ _ _ _ _ _ => none
  | k9 + 1 => fb_PS_readUnits_L9 fu n x_t_placeCount x_t_personCount x_t_unitCount x_t_units x_t_reader_placeCount (f_PS_readUnits_L9 fu n x_t_placeCount x_t_personCount x_t_unitCount x_t_units x_t_reader_placeCount k9)
def f_PS_readUnits (fu : Nat) (n : Nat)  (x_t_placeCount : Int32) (x_t_personCount : Int32) (x_t_unitCount : Int32) (x_t_units : Nat → Int32) (x_t_draft_entries : Nat → Int32) (x_t_draft_markBits : Nat → Int32) (x_t_reader_placeCount : Int32) (x_t_reader_placesRead : Int32) (x_t_reader_mayOpen : Int32) (x_t_reader_open : Int32) (x_t_reader_lastMark : Int32) : Option (Int32 × (Nat → Int32) × (Nat → Int32) × Int32 × Int32 × Int32 × Int32) :=
  ((f_Sr_begin fu n x_t_reader_placeCount x_t_reader_placesRead x_t_reader_mayOpen x_t_reader_open x_t_reader_lastMark x_t_draft_entries x_t_draft_markBits).bind fun y1 => (f_PS_readUnits_L9 fu n x_t_placeCount x_t_personCount x_t_unitCount x_t_units x_t_reader_placeCount fu (0 : Int32) y1.2.2.2.1 y1.2.2.2.2 y1.1 y1.2.1 y1.2.2.1 x_t_reader_lastMark))
set_option maxHeartbeats 4000000 in
set_option maxRecDepth 100000 in
theorem c_PS_readUnits (l : Launch) (G : gG) (sz : Nat) (a_t a_t_right a_t_persons a_t_table a_t_joining a_t_units a_t_draft a_t_draft_entries a_t_draft_markBits a_t_reader : Nat) (fu : Nat) (n : Nat)  (x_t_placeCount : Int32) (x_t_personCount : Int32) (x_t_unitCount : Int32) (x_t_units : Nat → Int32) (x_t_draft_entries : Nat → Int32) (x_t_draft_markBits : Nat → Int32) (x_t_reader_placeCount : Int32) (x_t_reader_placesRead : Int32) (x_t_reader_mayOpen : Int32) (x_t_reader_open : Int32) (x_t_reader_lastMark : Int32) (r : Int32) (x_t_draft_entries' : Nat → Int32) (x_t_draft_markBits' : Nat → Int32) (x_t_reader_placesRead' : Int32) (x_t_reader_mayOpen' : Int32) (x_t_reader_open' : Int32) (x_t_reader_lastMark' : Int32) (h : f_PS_readUnits fu n x_t_placeCount x_t_personCount x_t_unitCount x_t_units x_t_draft_entries x_t_draft_markBits x_t_reader_placeCount x_t_reader_placesRead x_t_reader_mayOpen x_t_reader_open x_t_reader_lastMark = some (r, x_t_draft_entries', x_t_draft_markBits', x_t_reader_placesRead', x_t_reader_mayOpen', x_t_reader_open', x_t_reader_lastMark'))  : cN l y_PS_readUnits w_PS_readUnits { frames := 3, cells := 0, slots := 0, locals := 65 } G sz [.ref a_t] (ws_PS_readUnits G a_t a_t_right a_t_persons a_t_table a_t_joining a_t_units a_t_draft a_t_draft_entries a_t_draft_markBits a_t_reader n x_t_placeCount x_t_personCount x_t_unitCount x_t_units x_t_draft_entries x_t_draft_markBits x_t_reader_placeCount x_t_reader_placesRead x_t_reader_mayOpen x_t_reader_open x_t_reader_lastMark) (some (.int r)) (wB G (ws_PS_readUnits G a_t a_t_right a_t_persons a_t_table a_t_joining a_t_units a_t_draft a_t_draft_entries a_t_draft_markBits a_t_reader n x_t_placeCount x_t_personCount x_t_unitCount x_t_units x_t_draft_entries' x_t_draft_markBits' x_t_reader_placeCount x_t_reader_placesRead' x_t_reader_mayOpen' x_t_reader_open' x_t_reader_lastMark')) 0 0 := by
  refine cN_ofW (cc := prog_1_method_33_code) (maxL := 2) (ret := (some .int)) (by decide) rfl (Nat.le_of_ble_eq_true rfl) ?_
  intro p e s m args below meth c A H locs ls hx hb hr hts hown hlocks hin hml hK hN hP hD hA hS hl
  replace hl : lv_has ls 2 [(0, .ref a_t)] := hl
  replace hown : s.vm.findClass "PlayStates" = some m.cls := hown
  unfold f_PS_readUnits at h
  refine lv_aload_n hx hb d_PS_readUnits_0 rfl (lv_at hl 0 rfl) ?_
  refine va_get (D := G.1) (ci := 5) (v := .ref a_t_reader) (C := "PlayStates") (T := TPS) (N := 10) hx hb hts iw_5 hown hK hP 0 rfl rfl 9 (by decide) (hts _ gw_111) (fun _ h9 => h9) rfl d_PS_readUnits_1 ?_
  obtain ⟨y1, hy1, h⟩ := o_bind h
  have hPc := hP.sub (ws' := (ws_Sr_begin G a_t_reader a_t_draft a_t_draft_entries a_t_draft_markBits n x_t_reader_placeCount x_t_reader_placesRead x_t_reader_mayOpen x_t_reader_open x_t_reader_lastMark x_t_draft_entries x_t_draft_markBits)) [5, 2, 3, 4] rfl
  have hDc := hD.sub (ws' := (ws_Sr_begin G a_t_reader a_t_draft a_t_draft_entries a_t_draft_markBits n x_t_reader_placeCount x_t_reader_placesRead x_t_reader_mayOpen x_t_reader_open x_t_reader_lastMark x_t_draft_entries x_t_draft_markBits)) [5, 2, 3, 4] (by decide) rfl
  have hFc := va_free (wc := (ws_Sr_begin G a_t_reader a_t_draft a_t_draft_entries a_t_draft_markBits n x_t_reader_placeCount x_t_reader_placesRead x_t_reader_mayOpen x_t_reader_open x_t_reader_lastMark x_t_draft_entries x_t_draft_markBits)) hD hS hA [5, 2, 3, 4] rfl
  refine q_call0 (va_runV (As := []) (rest := []) ⟨hx, hb, hml, hown, hts⟩ (c_Sr_begin l G H.size a_t_reader a_t_draft a_t_draft_entries a_t_draft_markBits fu n x_t_reader_placeCount x_t_reader_placesRead x_t_reader_mayOpen x_t_reader_open x_t_reader_lastMark x_t_draft_entries x_t_draft_markBits _ _ _ _ _ hy1) (cwV 0 hts (gV gw_331 gw_332 gw_333 gw_35 gw_334) rfl rfl rfl (by decide +kernel) ⟨Nat.le_of_ble_eq_true rfl, Nat.le_of_ble_eq_true rfl⟩) (pV hK hN hPc hDc (ci := 4) (q0 := 0) rfl rfl) rfl rfl hl.1 rfl (lv_room (Nat.le_of_ble_eq_true rfl)) d_PS_readUnits_4 ⟨Nat.le_of_ble_eq_true rfl, Nat.le_of_ble_eq_true rfl⟩) hS (fun q _ h => hFc q h) hFc (fun H1 locs hB hz hk hS => ?_)
  obtain ⟨hP, hD⟩ := q_join (wr := [(a_t, .inr (5, [.int x_t_placeCount, .ref a_t_right, .ref a_t_persons, .int x_t_personCount, .ref a_t_table, .ref a_t_joining, .ref a_t_units, .int x_t_unitCount, .ref a_t_draft, .ref a_t_reader])), (a_t_units, .inl (G.2 0, 1000, .inl x_t_units))]) (wn := (ws_PS_readUnits G a_t a_t_right a_t_persons a_t_table a_t_joining a_t_units a_t_draft a_t_draft_entries a_t_draft_markBits a_t_reader n x_t_placeCount x_t_personCount x_t_unitCount x_t_units y1.2.2.2.1 y1.2.2.2.2 x_t_reader_placeCount y1.1 y1.2.1 y1.2.2.1 x_t_reader_lastMark)) hP hD [5, 2, 3, 4] [0, 1] [0, 1, 3, 4, 5, 2] rfl rfl (by decide) (by decide) rfl (by decide) hk hFc hB.1 hB.2
  generalize H1 = H at hP hS ⊢
  replace hP : va_P G.1 vwCl (ws_PS_readUnits G a_t a_t_right a_t_persons a_t_table a_t_joining a_t_units a_t_draft a_t_draft_entries a_t_draft_markBits a_t_reader n x_t_placeCount x_t_personCount x_t_unitCount x_t_units y1.2.2.2.1 y1.2.2.2.2 x_t_reader_placeCount y1.1 y1.2.1 y1.2.2.1 x_t_reader_lastMark) H := hP
  replace hD : va_D A (ws_PS_readUnits G a_t a_t_right a_t_persons a_t_table a_t_joining a_t_units a_t_draft a_t_draft_entries a_t_draft_markBits a_t_reader n x_t_placeCount x_t_personCount x_t_unitCount x_t_units y1.2.2.2.1 y1.2.2.2.2 x_t_reader_placeCount y1.1 y1.2.1 y1.2.2.1 x_t_reader_lastMark) := hD
  refine lv_iconst (v := (0 : Int32)) hx hb d_PS_readUnits_7 (by decide) ?_
  refine lv_istore_n (lv' := [(1, .int (0 : Int32)), (0, .ref a_t)]) hx hb d_PS_readUnits_8 rfl hl (by decide) rfl (fun ls hl => ?_)
  have L9 : ∀ (nf : Nat) (l9_1 : Int32) (x_t_draft_entries_9 : Nat → Int32) (x_t_draft_markBits_9 : Nat → Int32) (x_t_reader_placesRead_9 : Int32) (x_t_reader_mayOpen_9 : Int32) (x_t_reader_open_9 : Int32) (x_t_reader_lastMark_9 : Int32) (H : Heap) (locs : List Loc) (ls : Array Slot), f_PS_readUnits_L9 fu n x_t_placeCount x_t_personCount x_t_unitCount x_t_units x_t_reader_placeCount nf l9_1 x_t_draft_entries_9 x_t_draft_markBits_9 x_t_reader_placesRead_9 x_t_reader_mayOpen_9 x_t_reader_open_9 x_t_reader_lastMark_9 = some (r, x_t_draft_entries', x_t_draft_markBits', x_t_reader_placesRead', x_t_reader_mayOpen', x_t_reader_open', x_t_reader_lastMark') → va_P G.1 vwCl (ws_PS_readUnits G a_t a_t_right a_t_persons a_t_table a_t_joining a_t_units a_t_draft a_t_draft_entries a_t_draft_markBits a_t_reader n x_t_placeCount x_t_personCount x_t_unitCount x_t_units x_t_draft_entries_9 x_t_draft_markBits_9 x_t_reader_placeCount x_t_reader_placesRead_9 x_t_reader_mayOpen_9 x_t_reader_open_9 x_t_reader_lastMark_9) H → va_D A (ws_PS_readUnits G a_t a_t_right a_t_persons a_t_table a_t_joining a_t_units a_t_draft a_t_draft_entries a_t_draft_markBits a_t_reader n x_t_placeCount x_t_personCount x_t_unitCount x_t_units x_t_draft_entries_9 x_t_draft_markBits_9 x_t_reader_placeCount x_t_reader_placesRead_9 x_t_reader_mayOpen_9 x_t_reader_open_9 x_t_reader_lastMark_9) → va_S A s.heap H locs → lv_has ls 2 [(0, .ref a_t), (1, .int l9_1)] → W p l e { frames := 3, cells := 0, slots := 0, locals := 65 } s m args below meth c H locs 0 0 (MQ below (qQ (some (.int r)) (wB G (ws_PS_readUnits G a_t a_t_right a_t_persons a_t_table a_t_joining a_t_units a_t_draft a_t_draft_entries a_t_draft_markBits a_t_reader n x_t_placeCount x_t_personCount x_t_unitCount x_t_units x_t_draft_entries' x_t_draft_markBits' x_t_reader_placeCount x_t_reader_placesRead' x_t_reader_mayOpen' x_t_reader_open' x_t_reader_lastMark') A) A) args s 0 0 A) (F0 m 9 ls []) := by
    clear h hP hD hS hl
    intro n9
    induction n9 with
    | zero => intro _ _ _ _ _ _ _ H locs ls h; exact nomatch (show none = some _ from h)
    | succ n9 ih9 =>
      intro l9_1 x_t_draft_entries_9 x_t_draft_markBits_9 x_t_reader_placesRead_9 x_t_reader_mayOpen_9 x_t_reader_open_9 x_t_reader_lastMark_9 H locs ls h hP hD hS hl
      replace h : fb_PS_readUnits_L9 fu n x_t_placeCount x_t_personCount x_t_unitCount x_t_units x_t_reader_placeCount (f_PS_readUnits_L9 fu n x_t_placeCount x_t_personCount x_t_unitCount x_t_units x_t_reader_placeCount n9) l9_1 x_t_draft_entries_9 x_t_draft_markBits_9 x_t_reader_placesRead_9 x_t_reader_mayOpen_9 x_t_reader_open_9 x_t_reader_lastMark_9 = some (r, x_t_draft_entries', x_t_draft_markBits', x_t_reader_placesRead', x_t_reader_mayOpen', x_t_reader_open', x_t_reader_lastMark') := h
      unfold fb_PS_readUnits_L9 at h
      refine lv_iload_n hx hb d_PS_readUnits_9 rfl (lv_at hl 1 rfl) ?_
      refine lv_aload_n hx hb d_PS_readUnits_10 rfl (lv_at hl 0 rfl) ?_
      refine va_get (D := G.1) (ci := 5) (v := .int x_t_unitCount) (C := "PlayStates") (T := TPS) (N := 10) hx hb hts iw_5 hown hK hP 0 rfl rfl 7 (by decide) (hts _ gw_109) (fun _ h9 => h9) rfl d_PS_readUnits_11 ?_
      refine lv_icmp_ge (tgt := 39) hx hb d_PS_readUnits_14 (by decide) (fun c2 => ?_) (fun c2 => ?_)
      · replace h := (if_pos c2).symm.trans h
        refine lv_iload_n hx hb d_PS_readUnits_39 rfl (lv_at hl 1 rfl) ?_
        cases h
        exact q_iretW hx hb hr hlocks hP hD hS d_PS_readUnits_40
      · replace h := (if_neg c2).symm.trans h
        refine lv_aload_n hx hb d_PS_readUnits_17 rfl (lv_at hl 0 rfl) ?_
        refine va_get (D := G.1) (ci := 5) (v := .ref a_t_reader) (C := "PlayStates") (T := TPS) (N := 10) hx hb hts iw_5 hown hK hP 0 rfl rfl 9 (by decide) (hts _ gw_111) (fun _ h9 => h9) rfl d_PS_readUnits_18 ?_
        refine lv_aload_n hx hb d_PS_readUnits_21 rfl (lv_at hl 0 rfl) ?_
        refine va_get (D := G.1) (ci := 5) (v := .ref a_t_units) (C := "PlayStates") (T := TPS) (N := 10) hx hb hts iw_5 hown hK hP 0 rfl rfl 6 (by decide) (hts _ gw_108) (fun _ h9 => h9) rfl d_PS_readUnits_22 ?_
        refine lv_iload_n hx hb d_PS_readUnits_25 rfl (lv_at hl 1 rfl) ?_
        obtain ⟨i3, h⟩ := o_if h
        refine va_iald (n := 1000) (f := x_t_units) hx hb hK hP 1 0 rfl rfl i3 d_PS_readUnits_26 ?_
        obtain ⟨y4, hy4, h⟩ := o_bind h
        have hPc := hP.sub (ws' := (ws_Sr_accepts G a_t_reader a_t_draft a_t_draft_entries a_t_draft_markBits n x_t_reader_placeCount x_t_reader_placesRead_9 x_t_reader_mayOpen_9 x_t_reader_open_9 x_t_reader_lastMark_9 x_t_draft_entries_9 x_t_draft_markBits_9)) [5, 2, 3, 4] rfl
        have hDc := hD.sub (ws' := (ws_Sr_accepts G a_t_reader a_t_draft a_t_draft_entries a_t_draft_markBits n x_t_reader_placeCount x_t_reader_placesRead_9 x_t_reader_mayOpen_9 x_t_reader_open_9 x_t_reader_lastMark_9 x_t_draft_entries_9 x_t_draft_markBits_9)) [5, 2, 3, 4] (by decide) rfl
        have hFc := va_free (wc := (ws_Sr_accepts G a_t_reader a_t_draft a_t_draft_entries a_t_draft_markBits n x_t_reader_placeCount x_t_reader_placesRead_9 x_t_reader_mayOpen_9 x_t_reader_open_9 x_t_reader_lastMark_9 x_t_draft_entries_9 x_t_draft_markBits_9)) hD hS hA [5, 2, 3, 4] rfl
        refine q_call1 (va_runV (As := [.int (x_t_units l9_1.toNatClampNeg)]) (rest := []) ⟨hx, hb, hml, hown, hts⟩ (c_Sr_accepts l G H.size a_t_reader a_t_draft a_t_draft_entries a_t_draft_markBits n (x_t_units l9_1.toNatClampNeg) x_t_reader_placeCount x_t_reader_placesRead_9 x_t_reader_mayOpen_9 x_t_reader_open_9 x_t_reader_lastMark_9 x_t_draft_entries_9 x_t_draft_markBits_9 _ _ _ _ _ _ _ hy4) (cwV 1 hts (gV gw_336 gw_337 gw_338 gw_35 gw_339) rfl rfl rfl (by decide +kernel) ⟨Nat.le_of_ble_eq_true rfl, Nat.le_of_ble_eq_true rfl⟩) (pV hK hN hPc hDc (ci := 4) (q0 := 0) rfl rfl) rfl rfl hl.1 rfl (lv_room (Nat.le_of_ble_eq_true rfl)) d_PS_readUnits_27 ⟨Nat.le_of_ble_eq_true rfl, Nat.le_of_ble_eq_true rfl⟩) hS (fun q _ h => hFc q h) hFc (fun H1 locs hB hz hk hS => ?_)
        obtain ⟨hP, hD⟩ := q_join (wr := [(a_t, .inr (5, [.int x_t_placeCount, .ref a_t_right, .ref a_t_persons, .int x_t_personCount, .ref a_t_table, .ref a_t_joining, .ref a_t_units, .int x_t_unitCount, .ref a_t_draft, .ref a_t_reader])), (a_t_units, .inl (G.2 0, 1000, .inl x_t_units))]) (wn := (ws_PS_readUnits G a_t a_t_right a_t_persons a_t_table a_t_joining a_t_units a_t_draft a_t_draft_entries a_t_draft_markBits a_t_reader n x_t_placeCount x_t_personCount x_t_unitCount x_t_units y4.2.2.2.2.2.1 y4.2.2.2.2.2.2 x_t_reader_placeCount y4.2.1 y4.2.2.1 y4.2.2.2.1 y4.2.2.2.2.1)) hP hD [5, 2, 3, 4] [0, 1] [0, 1, 3, 4, 5, 2] rfl rfl (by decide) (by decide) rfl (by decide) hk hFc hB.1 hB.2
        generalize H1 = H at hP hS ⊢
        replace hP : va_P G.1 vwCl (ws_PS_readUnits G a_t a_t_right a_t_persons a_t_table a_t_joining a_t_units a_t_draft a_t_draft_entries a_t_draft_markBits a_t_reader n x_t_placeCount x_t_personCount x_t_unitCount x_t_units y4.2.2.2.2.2.1 y4.2.2.2.2.2.2 x_t_reader_placeCount y4.2.1 y4.2.2.1 y4.2.2.2.1 y4.2.2.2.2.1) H := hP
        replace hD : va_D A (ws_PS_readUnits G a_t a_t_right a_t_persons a_t_table a_t_joining a_t_units a_t_draft a_t_draft_entries a_t_draft_markBits a_t_reader n x_t_placeCount x_t_personCount x_t_unitCount x_t_units y4.2.2.2.2.2.1 y4.2.2.2.2.2.2 x_t_reader_placeCount y4.2.1 y4.2.2.1 y4.2.2.2.1 y4.2.2.2.2.1) := hD
        refine lv_if_eq (tgt := 39) hx hb d_PS_readUnits_30 (by decide) (fun c5 => ?_) (fun c5 => ?_)
        · replace h := (if_pos c5).symm.trans h
          refine lv_iload_n hx hb d_PS_readUnits_39 rfl (lv_at hl 1 rfl) ?_
          cases h
          exact q_iretW hx hb hr hlocks hP hD hS d_PS_readUnits_40
        · replace h := (if_neg c5).symm.trans h
          refine lv_iinc (v := (l9_1 + (1 : Int32))) (lv' := [(1, .int (l9_1 + (1 : Int32))), (0, .ref a_t)]) hx hb d_PS_readUnits_33 hl (k := 1) rfl rfl (by decide) rfl (fun ls hl => ?_)
          refine lv_goto (tgt := 9) hx hb d_PS_readUnits_36 (by decide) ?_
          exact ih9 (l9_1 + (1 : Int32)) y4.2.2.2.2.2.1 y4.2.2.2.2.2.2 y4.2.1 y4.2.2.1 y4.2.2.2.1 y4.2.2.2.2.1 _ _ _ h hP hD hS (lv_sub hl [1, 0] rfl)
  exact L9 fu (0 : Int32) y1.2.2.2.1 y1.2.2.2.2 y1.1 y1.2.1 y1.2.2.1 x_t_reader_lastMark _ _ _ h hP hD hS (lv_sub hl [1, 0] rfl)

theorem d_PS_tellJoined_0 : decode prog_1_method_32_code 0 = .ok (.aload_n 0, 1) := by decide +kernel
theorem d_PS_tellJoined_1 : decode prog_1_method_32_code 1 = .ok (.getfield 35, 3) := by decide +kernel
theorem d_PS_tellJoined_4 : decode prog_1_method_32_code 4 = .ok (.getfield 197, 3) := by decide +kernel
theorem d_PS_tellJoined_7 : decode prog_1_method_32_code 7 = .ok (.istore_n 2, 1) := by decide +kernel
theorem d_PS_tellJoined_8 : decode prog_1_method_32_code 8 = .ok (.iconst 0, 1) := by decide +kernel
theorem d_PS_tellJoined_9 : decode prog_1_method_32_code 9 = .ok (.istore_n 3, 1) := by decide +kernel
theorem d_PS_tellJoined_10 : decode prog_1_method_32_code 10 = .ok (.iload_n 3, 1) := by decide +kernel
theorem d_PS_tellJoined_11 : decode prog_1_method_32_code 11 = .ok (.iload_n 2, 1) := by decide +kernel
theorem d_PS_tellJoined_12 : decode prog_1_method_32_code 12 = .ok (.if_icmp .ge 42, 3) := by decide +kernel
theorem d_PS_tellJoined_15 : decode prog_1_method_32_code 15 = .ok (.aload_n 0, 1) := by decide +kernel
theorem d_PS_tellJoined_16 : decode prog_1_method_32_code 16 = .ok (.getfield 39, 3) := by decide +kernel
theorem d_PS_tellJoined_19 : decode prog_1_method_32_code 19 = .ok (.iload_n 3, 1) := by decide +kernel
theorem d_PS_tellJoined_20 : decode prog_1_method_32_code 20 = .ok (.baload, 1) := by decide +kernel
theorem d_PS_tellJoined_21 : decode prog_1_method_32_code 21 = .ok (.ifCond .eq 27, 3) := by decide +kernel
theorem d_PS_tellJoined_24 : decode prog_1_method_32_code 24 = .ok (.aload_n 0, 1) := by decide +kernel
theorem d_PS_tellJoined_25 : decode prog_1_method_32_code 25 = .ok (.aload_n 1, 1) := by decide +kernel
theorem d_PS_tellJoined_26 : decode prog_1_method_32_code 26 = .ok (.aload_n 0, 1) := by decide +kernel
theorem d_PS_tellJoined_27 : decode prog_1_method_32_code 27 = .ok (.getfield 35, 3) := by decide +kernel
theorem d_PS_tellJoined_30 : decode prog_1_method_32_code 30 = .ok (.getfield 102, 3) := by decide +kernel
theorem d_PS_tellJoined_33 : decode prog_1_method_32_code 33 = .ok (.iload_n 3, 1) := by decide +kernel
theorem d_PS_tellJoined_34 : decode prog_1_method_32_code 34 = .ok (.iaload, 1) := by decide +kernel
theorem d_PS_tellJoined_35 : decode prog_1_method_32_code 35 = .ok (.aload_n 0, 1) := by decide +kernel
theorem d_PS_tellJoined_36 : decode prog_1_method_32_code 36 = .ok (.getfield 35, 3) := by decide +kernel
theorem d_PS_tellJoined_39 : decode prog_1_method_32_code 39 = .ok (.getfield 118, 3) := by decide +kernel
theorem d_PS_tellJoined_42 : decode prog_1_method_32_code 42 = .ok (.iload_n 3, 1) := by decide +kernel
theorem d_PS_tellJoined_43 : decode prog_1_method_32_code 43 = .ok (.iaload, 1) := by decide +kernel
theorem d_PS_tellJoined_44 : decode prog_1_method_32_code 44 = .ok (.invokevirtual 86, 3) := by decide +kernel
theorem d_PS_tellJoined_47 : decode prog_1_method_32_code 47 = .ok (.pop, 1) := by decide +kernel
theorem d_PS_tellJoined_48 : decode prog_1_method_32_code 48 = .ok (.iinc 3 1, 3) := by decide +kernel
theorem d_PS_tellJoined_51 : decode prog_1_method_32_code 51 = .ok (.goto (-41), 3) := by decide +kernel
theorem d_PS_tellJoined_54 : decode prog_1_method_32_code 54 = .ok (.return_, 1) := by decide +kernel
-- PlayStates.tellJoined(LPlayStates$Person;)V 
def ws_PS_tellJoined (G : gG) (a_t a_t_right a_t_persons a_t_units a_t_draft a_t_reader a_t_table a_t_table_place a_t_table_told a_t_table_before a_t_table_behind a_t_joining a_w a_w_clock a_w_board a_w_board_entries a_w_board_markBits : Nat) (n : Nat) (x_t_placeCount : Int32) (x_t_personCount : Int32) (x_t_unitCount : Int32) (x_t_table_count : Int32) (x_t_table_place : Nat → Int32) (x_t_table_told : Nat → Int32) (x_t_table_before : Nat → Int32) (x_t_table_behind : Nat → Int32) (x_t_joining : Nat → Int32) (x_w_number : Int32) (x_w_present : Int32) (x_w_helpCount : Int32) (x_w_board_entries : Nat → Int32) (x_w_board_markBits : Nat → Int32) : va_W := [(a_t, .inr (5, [.int x_t_placeCount, .ref a_t_right, .ref a_t_persons, .int x_t_personCount, .ref a_t_table, .ref a_t_joining, .ref a_t_units, .int x_t_unitCount, .ref a_t_draft, .ref a_t_reader])), (a_t_table, .inr (3, [.ref a_t_table_place, .ref a_t_table_told, .ref a_t_table_before, .ref a_t_table_behind, .int x_t_table_count])), (a_t_table_place, .inl (G.2 0, 600, .inl x_t_table_place)), (a_t_table_told, .inl (G.2 0, 600, .inl x_t_table_told)), (a_t_table_before, .inl (G.2 0, 600, .inl x_t_table_before)), (a_t_table_behind, .inl (G.2 0, 600, .inl x_t_table_behind)), (a_t_joining, .inl (G.2 1, 600, .inl x_t_joining)), (a_w, .inr (2, [.int x_w_number, .ref a_w_board, .ref a_w_clock, .int x_w_present, .int x_w_helpCount])), (a_w_board, .inr (0, [.ref a_w_board_entries, .ref a_w_board_markBits])), (a_w_board_entries, .inl (G.2 0, n, .inl x_w_board_entries)), (a_w_board_markBits, .inl (G.2 0, n, .inl x_w_board_markBits))]
def fb_PS_tellJoined_L10 (fu : Nat) (n : Nat) (x_t_placeCount : Int32) (x_t_personCount : Int32) (x_t_unitCount : Int32) (x_t_joining : Nat → Int32) (x_w_number : Int32) (x_w_helpCount : Int32)  (k10 : (Int32 → Int32 → Int32 → (Nat → Int32) → (Nat → Int32) → (Nat → Int32) → (Nat → Int32) → Int32 → (Nat → Int32) → (Nat → Int32) → Option (Int32 × (Nat → Int32) × (Nat → Int32) × (Nat → Int32) × (Nat → Int32) × Int32 × (Nat → Int32) × (Nat → Int32)))) (l10_2 : Int32) (l10_3 : Int32) (x_t_table_count_10 : Int32) (x_t_table_place_10 : Nat → Int32) (x_t_table_told_10 : Nat → Int32) (x_t_table_before_10 : Nat → Int32) (x_t_table_behind_10 : Nat → Int32) (x_w_present_10 : Int32) (x_w_board_entries_10 : Nat → Int32) (x_w_board_markBits_10 : Nat → Int32) : Option (Int32 × (Nat → Int32) × (Nat → Int32) × (Nat → Int32) × (Nat → Int32) × Int32 × (Nat → Int32) × (Nat → Int32)) :=
  (if l10_2 ≤ l10_3 then some (x_t_table_count_10, x_t_table_place_10, x_t_table_told_10, x_t_table_before_10, x_t_table_behind_10, x_w_present_10, x_w_board_entries_10, x_w_board_markBits_10) else (if inB l10_3 600 then (if (x_t_joining l10_3.toNatClampNeg) = 0 then (k10 l10_2 (l10_3 + (1 : Int32)) x_t_table_count_10 x_t_table_place_10 x_t_table_told_10 x_t_table_before_10 x_t_table_behind_10 x_w_present_10 x_w_board_entries_10 x_w_board_markBits_10) else (if inB l10_3 600 then (if inB l10_3 600 then ((f_PS_tell n (x_t_table_place_10 l10_3.toNatClampNeg) (x_t_table_told_10 l10_3.toNatClampNeg) x_t_placeCount x_t_personCount x_t_unitCount x_t_table_count_10 x_t_table_place_10 x_t_table_told_10 x_t_table_before_10 x_t_table_behind_10 x_w_number x_w_present_10 x_w_helpCount x_w_board_entries_10 x_w_board_markBits_10).bind fun y6 => (k10 l10_2 (l10_3 + (1 : Int32)) y6.2.1 y6.2.2.1 y6.2.2.2.1 y6.2.2.2.2.1 y6.2.2.2.2.2.1 y6.2.2.2.2.2.2.1 y6.2.2.2.2.2.2.2.1 y6.2.2.2.2.2.2.2.2)) else none) else none)) else none))
def f_PS_tellJoined_L10 (fu : Nat) (n : Nat) (x_t_placeCount : Int32) (x_t_personCount : Int32) (x_t_unitCount : Int32) (x_t_joining : Nat → Int32) (x_w_number : Int32) (x_w_helpCount : Int32)  : Nat → Int32 → Int32 → Int32 → (Nat → Int32) → (Nat → Int32) → (Nat → Int32) → (Nat → Int32) → Int32 → (Nat → Int32) → (Nat → Int32) → Option (Int32 × (Nat → Int32) × (Nat → Int32) × (Nat → Int32) × (Nat → Int32) × Int32 × (Nat → Int32) × (Nat → Int32))
  | 0 => fun _ _ _ _ _ _ _ _ _ _ => none
  | k9 + 1 => fb_PS_tellJoined_L10 fu n x_t_placeCount x_t_personCount x_t_unitCount x_t_joining x_w_number x_w_helpCount (f_PS_tellJoined_L10 fu n x_t_placeCount x_t_personCount x_t_unitCount x_t_joining x_w_number x_w_helpCount k9)
def f_PS_tellJoined (fu : Nat) (n : Nat)  (x_t_placeCount : Int32) (x_t_personCount : Int32) (x_t_unitCount : Int32) (x_t_table_count : Int32) (x_t_table_place : Nat → Int32) (x_t_table_told : Nat → Int32) (x_t_table_before : Nat → Int32) (x_t_table_behind : Nat → Int32) (x_t_joining : Nat → Int32) (x_w_number : Int32) (x_w_present : Int32) (x_w_helpCount : Int32) (x_w_board_entries : Nat → Int32) (x_w_board_markBits : Nat → Int32) : Option (Int32 × (Nat → Int32) × (Nat → Int32) × (Nat → Int32) × (Nat → Int32) × Int32 × (Nat → Int32) × (Nat → Int32)) :=
  (f_PS_tellJoined_L10 fu n x_t_placeCount x_t_personCount x_t_unitCount x_t_joining x_w_number x_w_helpCount fu x_t_table_count (0 : Int32) x_t_table_count x_t_table_place x_t_table_told x_t_table_before x_t_table_behind x_w_present x_w_board_entries x_w_board_markBits)
set_option maxHeartbeats 4000000 in
set_option maxRecDepth 100000 in
theorem c_PS_tellJoined (l : Launch) (G : gG) (sz : Nat) (a_t a_t_right a_t_persons a_t_units a_t_draft a_t_reader a_t_table a_t_table_place a_t_table_told a_t_table_before a_t_table_behind a_t_joining a_w a_w_clock a_w_board a_w_board_entries a_w_board_markBits : Nat) (fu : Nat) (n : Nat)  (x_t_placeCount : Int32) (x_t_personCount : Int32) (x_t_unitCount : Int32) (x_t_table_count : Int32) (x_t_table_place : Nat → Int32) (x_t_table_told : Nat → Int32) (x_t_table_before : Nat → Int32) (x_t_table_behind : Nat → Int32) (x_t_joining : Nat → Int32) (x_w_number : Int32) (x_w_present : Int32) (x_w_helpCount : Int32) (x_w_board_entries : Nat → Int32) (x_w_board_markBits : Nat → Int32) (x_t_table_count' : Int32) (x_t_table_place' : Nat → Int32) (x_t_table_told' : Nat → Int32) (x_t_table_before' : Nat → Int32) (x_t_table_behind' : Nat → Int32) (x_w_present' : Int32) (x_w_board_entries' : Nat → Int32) (x_w_board_markBits' : Nat → Int32) (h : f_PS_tellJoined fu n x_t_placeCount x_t_personCount x_t_unitCount x_t_table_count x_t_table_place x_t_table_told x_t_table_before x_t_table_behind x_t_joining x_w_number x_w_present x_w_helpCount x_w_board_entries x_w_board_markBits = some (x_t_table_count', x_t_table_place', x_t_table_told', x_t_table_before', x_t_table_behind', x_w_present', x_w_board_entries', x_w_board_markBits'))  : cN l y_PS_tellJoined w_PS_tellJoined { frames := 3, cells := 0, slots := 0, locals := 69 } G sz [.ref a_t, .ref a_w] (ws_PS_tellJoined G a_t a_t_right a_t_persons a_t_units a_t_draft a_t_reader a_t_table a_t_table_place a_t_table_told a_t_table_before a_t_table_behind a_t_joining a_w a_w_clock a_w_board a_w_board_entries a_w_board_markBits n x_t_placeCount x_t_personCount x_t_unitCount x_t_table_count x_t_table_place x_t_table_told x_t_table_before x_t_table_behind x_t_joining x_w_number x_w_present x_w_helpCount x_w_board_entries x_w_board_markBits) none (wB G (ws_PS_tellJoined G a_t a_t_right a_t_persons a_t_units a_t_draft a_t_reader a_t_table a_t_table_place a_t_table_told a_t_table_before a_t_table_behind a_t_joining a_w a_w_clock a_w_board a_w_board_entries a_w_board_markBits n x_t_placeCount x_t_personCount x_t_unitCount x_t_table_count' x_t_table_place' x_t_table_told' x_t_table_before' x_t_table_behind' x_t_joining x_w_number x_w_present' x_w_helpCount x_w_board_entries' x_w_board_markBits')) 0 0 := by
  refine cN_ofW (cc := prog_1_method_32_code) (maxL := 4) (ret := none) (by decide) rfl (Nat.le_of_ble_eq_true rfl) ?_
  intro p e s m args below meth c A H locs ls hx hb hr hts hown hlocks hin hml hK hN hP hD hA hS hl
  replace hl : lv_has ls 4 [(0, .ref a_t), (1, .ref a_w)] := hl
  replace hown : s.vm.findClass "PlayStates" = some m.cls := hown
  unfold f_PS_tellJoined at h
  refine lv_aload_n hx hb d_PS_tellJoined_0 rfl (lv_at hl 0 rfl) ?_
  refine va_get (D := G.1) (ci := 5) (v := .ref a_t_table) (C := "PlayStates") (T := TPS) (N := 10) hx hb hts iw_5 hown hK hP 0 rfl rfl 4 (by decide) (hts _ gw_106) (fun _ h9 => h9) rfl d_PS_tellJoined_1 ?_
  refine va_getN (D := G.1) (ci := 3) (v := .int x_t_table_count) (C := "PlayStates$RowTable") (T := TRt) (N := 5) hx hb hts iw_3 hown hK hP 1 rfl rfl 4 (by decide) (va_Nw.use rfl (hN.1 ("PlayStates", 197, "PlayStates$RowTable", "count", "I", "PlayStates") (by decide +kernel))) (fun _ h9 => h9) rfl d_PS_tellJoined_4 ?_
  refine lv_istore_n (lv' := [(2, .int x_t_table_count), (0, .ref a_t), (1, .ref a_w)]) hx hb d_PS_tellJoined_7 rfl hl (by decide) rfl (fun ls hl => ?_)
  refine lv_iconst (v := (0 : Int32)) hx hb d_PS_tellJoined_8 (by decide) ?_
  refine lv_istore_n (lv' := [(3, .int (0 : Int32)), (2, .int x_t_table_count), (0, .ref a_t), (1, .ref a_w)]) hx hb d_PS_tellJoined_9 rfl hl (by decide) rfl (fun ls hl => ?_)
  have L10 : ∀ (nf : Nat) (l10_2 : Int32) (l10_3 : Int32) (x_t_table_count_10 : Int32) (x_t_table_place_10 : Nat → Int32) (x_t_table_told_10 : Nat → Int32) (x_t_table_before_10 : Nat → Int32) (x_t_table_behind_10 : Nat → Int32) (x_w_present_10 : Int32) (x_w_board_entries_10 : Nat → Int32) (x_w_board_markBits_10 : Nat → Int32) (H : Heap) (locs : List Loc) (ls : Array Slot), f_PS_tellJoined_L10 fu n x_t_placeCount x_t_personCount x_t_unitCount x_t_joining x_w_number x_w_helpCount nf l10_2 l10_3 x_t_table_count_10 x_t_table_place_10 x_t_table_told_10 x_t_table_before_10 x_t_table_behind_10 x_w_present_10 x_w_board_entries_10 x_w_board_markBits_10 = some (x_t_table_count', x_t_table_place', x_t_table_told', x_t_table_before', x_t_table_behind', x_w_present', x_w_board_entries', x_w_board_markBits') → va_P G.1 vwCl (ws_PS_tellJoined G a_t a_t_right a_t_persons a_t_units a_t_draft a_t_reader a_t_table a_t_table_place a_t_table_told a_t_table_before a_t_table_behind a_t_joining a_w a_w_clock a_w_board a_w_board_entries a_w_board_markBits n x_t_placeCount x_t_personCount x_t_unitCount x_t_table_count_10 x_t_table_place_10 x_t_table_told_10 x_t_table_before_10 x_t_table_behind_10 x_t_joining x_w_number x_w_present_10 x_w_helpCount x_w_board_entries_10 x_w_board_markBits_10) H → va_D A (ws_PS_tellJoined G a_t a_t_right a_t_persons a_t_units a_t_draft a_t_reader a_t_table a_t_table_place a_t_table_told a_t_table_before a_t_table_behind a_t_joining a_w a_w_clock a_w_board a_w_board_entries a_w_board_markBits n x_t_placeCount x_t_personCount x_t_unitCount x_t_table_count_10 x_t_table_place_10 x_t_table_told_10 x_t_table_before_10 x_t_table_behind_10 x_t_joining x_w_number x_w_present_10 x_w_helpCount x_w_board_entries_10 x_w_board_markBits_10) → va_S A s.heap H locs → lv_has ls 4 [(0, .ref a_t), (1, .ref a_w), (2, .int l10_2), (3, .int l10_3)] → W p l e { frames := 3, cells := 0, slots := 0, locals := 69 } s m args below meth c H locs 0 0 (MQ below (qQ none (wB G (ws_PS_tellJoined G a_t a_t_right a_t_persons a_t_units a_t_draft a_t_reader a_t_table a_t_table_place a_t_table_told a_t_table_before a_t_table_behind a_t_joining a_w a_w_clock a_w_board a_w_board_entries a_w_board_markBits n x_t_placeCount x_t_personCount x_t_unitCount x_t_table_count' x_t_table_place' x_t_table_told' x_t_table_before' x_t_table_behind' x_t_joining x_w_number x_w_present' x_w_helpCount x_w_board_entries' x_w_board_markBits') A) A) args s 0 0 A) (F0 m 10 ls []) := by
    clear h hP hD hS hl
    intro n10
    induction n10 with
    | zero => intro _ _ _ _ _ _ _ _ _ _ H locs ls h; exact nomatch (show none = some _ from h)
    | succ n10 ih10 =>
      intro l10_2 l10_3 x_t_table_count_10 x_t_table_place_10 x_t_table_told_10 x_t_table_before_10 x_t_table_behind_10 x_w_present_10 x_w_board_entries_10 x_w_board_markBits_10 H locs ls h hP hD hS hl
      replace h : fb_PS_tellJoined_L10 fu n x_t_placeCount x_t_personCount x_t_unitCount x_t_joining x_w_number x_w_helpCount (f_PS_tellJoined_L10 fu n x_t_placeCount x_t_personCount x_t_unitCount x_t_joining x_w_number x_w_helpCount n10) l10_2 l10_3 x_t_table_count_10 x_t_table_place_10 x_t_table_told_10 x_t_table_before_10 x_t_table_behind_10 x_w_present_10 x_w_board_entries_10 x_w_board_markBits_10 = some (x_t_table_count', x_t_table_place', x_t_table_told', x_t_table_before', x_t_table_behind', x_w_present', x_w_board_entries', x_w_board_markBits') := h
      unfold fb_PS_tellJoined_L10 at h
      refine lv_iload_n hx hb d_PS_tellJoined_10 rfl (lv_at hl 3 rfl) ?_
      refine lv_iload_n hx hb d_PS_tellJoined_11 rfl (lv_at hl 2 rfl) ?_
      refine lv_icmp_ge (tgt := 54) hx hb d_PS_tellJoined_12 (by decide) (fun c1 => ?_) (fun c1 => ?_)
      · replace h := (if_pos c1).symm.trans h
        cases h
        exact q_vretW hx hb hr hlocks hP hD hS d_PS_tellJoined_54
      · replace h := (if_neg c1).symm.trans h
        refine lv_aload_n hx hb d_PS_tellJoined_15 rfl (lv_at hl 0 rfl) ?_
        refine va_get (D := G.1) (ci := 5) (v := .ref a_t_joining) (C := "PlayStates") (T := TPS) (N := 10) hx hb hts iw_5 hown hK hP 0 rfl rfl 5 (by decide) (hts _ gw_107) (fun _ h9 => h9) rfl d_PS_tellJoined_16 ?_
        refine lv_iload_n hx hb d_PS_tellJoined_19 rfl (lv_at hl 3 rfl) ?_
        obtain ⟨i2, h⟩ := o_if h
        refine va_zald (n := 600) (f := x_t_joining) hx hb hK hP 6 1 rfl rfl i2 d_PS_tellJoined_20 ?_
        refine lv_if_eq (tgt := 48) hx hb d_PS_tellJoined_21 (by decide) (fun c3 => ?_) (fun c3 => ?_)
        · replace h := (if_pos c3).symm.trans h
          refine lv_iinc (v := (l10_3 + (1 : Int32))) (lv' := [(3, .int (l10_3 + (1 : Int32))), (0, .ref a_t), (1, .ref a_w), (2, .int l10_2)]) hx hb d_PS_tellJoined_48 hl (k := 3) rfl rfl (by decide) rfl (fun ls hl => ?_)
          refine lv_goto (tgt := 10) hx hb d_PS_tellJoined_51 (by decide) ?_
          exact ih10 l10_2 (l10_3 + (1 : Int32)) x_t_table_count_10 x_t_table_place_10 x_t_table_told_10 x_t_table_before_10 x_t_table_behind_10 x_w_present_10 x_w_board_entries_10 x_w_board_markBits_10 _ _ _ h hP hD hS (lv_sub hl [1, 2, 3, 0] rfl)
        · replace h := (if_neg c3).symm.trans h
          refine lv_aload_n hx hb d_PS_tellJoined_24 rfl (lv_at hl 0 rfl) ?_
          refine lv_aload_n hx hb d_PS_tellJoined_25 rfl (lv_at hl 1 rfl) ?_
          refine lv_aload_n hx hb d_PS_tellJoined_26 rfl (lv_at hl 0 rfl) ?_
          refine va_get (D := G.1) (ci := 5) (v := .ref a_t_table) (C := "PlayStates") (T := TPS) (N := 10) hx hb hts iw_5 hown hK hP 0 rfl rfl 4 (by decide) (hts _ gw_106) (fun _ h9 => h9) rfl d_PS_tellJoined_27 ?_
          refine va_getN (D := G.1) (ci := 3) (v := .ref a_t_table_place) (C := "PlayStates$RowTable") (T := TRt) (N := 5) hx hb hts iw_3 hown hK hP 1 rfl rfl 0 (by decide) (va_Nw.use rfl (hN.1 ("PlayStates", 102, "PlayStates$RowTable", "place", "[I", "PlayStates") (by decide +kernel))) (fun _ h9 => h9) rfl d_PS_tellJoined_30 ?_
          refine lv_iload_n hx hb d_PS_tellJoined_33 rfl (lv_at hl 3 rfl) ?_
          obtain ⟨i4, h⟩ := o_if h
          refine va_iald (n := 600) (f := x_t_table_place_10) hx hb hK hP 2 0 rfl rfl i4 d_PS_tellJoined_34 ?_
          refine lv_aload_n hx hb d_PS_tellJoined_35 rfl (lv_at hl 0 rfl) ?_
          refine va_get (D := G.1) (ci := 5) (v := .ref a_t_table) (C := "PlayStates") (T := TPS) (N := 10) hx hb hts iw_5 hown hK hP 0 rfl rfl 4 (by decide) (hts _ gw_106) (fun _ h9 => h9) rfl d_PS_tellJoined_36 ?_
          refine va_getN (D := G.1) (ci := 3) (v := .ref a_t_table_told) (C := "PlayStates$RowTable") (T := TRt) (N := 5) hx hb hts iw_3 hown hK hP 1 rfl rfl 1 (by decide) (va_Nw.use rfl (hN.1 ("PlayStates", 118, "PlayStates$RowTable", "told", "[I", "PlayStates") (by decide +kernel))) (fun _ h9 => h9) rfl d_PS_tellJoined_39 ?_
          refine lv_iload_n hx hb d_PS_tellJoined_42 rfl (lv_at hl 3 rfl) ?_
          obtain ⟨i5, h⟩ := o_if h
          refine va_iald (n := 600) (f := x_t_table_told_10) hx hb hK hP 3 0 rfl rfl i5 d_PS_tellJoined_43 ?_
          obtain ⟨y6, hy6, h⟩ := o_bind h
          have hPc := hP.sub (ws' := (ws_PS_tell G a_t a_t_right a_t_persons a_t_joining a_t_units a_t_draft a_t_reader a_t_table a_t_table_place a_t_table_told a_t_table_before a_t_table_behind a_w a_w_clock a_w_board a_w_board_entries a_w_board_markBits n x_t_placeCount x_t_personCount x_t_unitCount x_t_table_count_10 x_t_table_place_10 x_t_table_told_10 x_t_table_before_10 x_t_table_behind_10 x_w_number x_w_present_10 x_w_helpCount x_w_board_entries_10 x_w_board_markBits_10)) [0, 1, 2, 3, 4, 5, 7, 8, 9, 10] rfl
          have hDc := hD.sub (ws' := (ws_PS_tell G a_t a_t_right a_t_persons a_t_joining a_t_units a_t_draft a_t_reader a_t_table a_t_table_place a_t_table_told a_t_table_before a_t_table_behind a_w a_w_clock a_w_board a_w_board_entries a_w_board_markBits n x_t_placeCount x_t_personCount x_t_unitCount x_t_table_count_10 x_t_table_place_10 x_t_table_told_10 x_t_table_before_10 x_t_table_behind_10 x_w_number x_w_present_10 x_w_helpCount x_w_board_entries_10 x_w_board_markBits_10)) [0, 1, 2, 3, 4, 5, 7, 8, 9, 10] (by decide) rfl
          have hFc := va_free (wc := (ws_PS_tell G a_t a_t_right a_t_persons a_t_joining a_t_units a_t_draft a_t_reader a_t_table a_t_table_place a_t_table_told a_t_table_before a_t_table_behind a_w a_w_clock a_w_board a_w_board_entries a_w_board_markBits n x_t_placeCount x_t_personCount x_t_unitCount x_t_table_count_10 x_t_table_place_10 x_t_table_told_10 x_t_table_before_10 x_t_table_behind_10 x_w_number x_w_present_10 x_w_helpCount x_w_board_entries_10 x_w_board_markBits_10)) hD hS hA [0, 1, 2, 3, 4, 5, 7, 8, 9, 10] rfl
          refine q_call1 (va_runV (As := [.ref a_w, .int (x_t_table_place_10 l10_3.toNatClampNeg), .int (x_t_table_told_10 l10_3.toNatClampNeg)]) (rest := []) ⟨hx, hb, hml, hown, hts⟩ (c_PS_tell l G H.size a_t a_t_right a_t_persons a_t_joining a_t_units a_t_draft a_t_reader a_t_table a_t_table_place a_t_table_told a_t_table_before a_t_table_behind a_w a_w_clock a_w_board a_w_board_entries a_w_board_markBits n (x_t_table_place_10 l10_3.toNatClampNeg) (x_t_table_told_10 l10_3.toNatClampNeg) x_t_placeCount x_t_personCount x_t_unitCount x_t_table_count_10 x_t_table_place_10 x_t_table_told_10 x_t_table_before_10 x_t_table_behind_10 x_w_number x_w_present_10 x_w_helpCount x_w_board_entries_10 x_w_board_markBits_10 _ _ _ _ _ _ _ _ _ hy6) (cwV 3 hts (gV gw_172 gw_173 gw_4 gw_31 gw_174) rfl rfl rfl (by decide +kernel) ⟨Nat.le_of_ble_eq_true rfl, Nat.le_of_ble_eq_true rfl⟩) (pV hK hN hPc hDc (ci := 5) (q0 := 0) rfl rfl) rfl rfl hl.1 rfl (lv_room (Nat.le_of_ble_eq_true rfl)) d_PS_tellJoined_44 ⟨Nat.le_of_ble_eq_true rfl, Nat.le_of_ble_eq_true rfl⟩) hS (fun q _ h => hFc q h) hFc (fun H1 locs hB hz hk hS => ?_)
          obtain ⟨hP, hD⟩ := q_join (wr := [(a_t_joining, .inl (G.2 1, 600, .inl x_t_joining))]) (wn := (ws_PS_tellJoined G a_t a_t_right a_t_persons a_t_units a_t_draft a_t_reader a_t_table a_t_table_place a_t_table_told a_t_table_before a_t_table_behind a_t_joining a_w a_w_clock a_w_board a_w_board_entries a_w_board_markBits n x_t_placeCount x_t_personCount x_t_unitCount y6.2.1 y6.2.2.1 y6.2.2.2.1 y6.2.2.2.2.1 y6.2.2.2.2.2.1 x_t_joining x_w_number y6.2.2.2.2.2.2.1 x_w_helpCount y6.2.2.2.2.2.2.2.1 y6.2.2.2.2.2.2.2.2)) hP hD [0, 1, 2, 3, 4, 5, 7, 8, 9, 10] [6] [1, 2, 3, 4, 5, 6, 0, 7, 8, 9, 10] rfl rfl (by decide) (by decide) rfl (by decide) hk hFc hB.1 hB.2
          generalize H1 = H at hP hS ⊢
          replace hP : va_P G.1 vwCl (ws_PS_tellJoined G a_t a_t_right a_t_persons a_t_units a_t_draft a_t_reader a_t_table a_t_table_place a_t_table_told a_t_table_before a_t_table_behind a_t_joining a_w a_w_clock a_w_board a_w_board_entries a_w_board_markBits n x_t_placeCount x_t_personCount x_t_unitCount y6.2.1 y6.2.2.1 y6.2.2.2.1 y6.2.2.2.2.1 y6.2.2.2.2.2.1 x_t_joining x_w_number y6.2.2.2.2.2.2.1 x_w_helpCount y6.2.2.2.2.2.2.2.1 y6.2.2.2.2.2.2.2.2) H := hP
          replace hD : va_D A (ws_PS_tellJoined G a_t a_t_right a_t_persons a_t_units a_t_draft a_t_reader a_t_table a_t_table_place a_t_table_told a_t_table_before a_t_table_behind a_t_joining a_w a_w_clock a_w_board a_w_board_entries a_w_board_markBits n x_t_placeCount x_t_personCount x_t_unitCount y6.2.1 y6.2.2.1 y6.2.2.2.1 y6.2.2.2.2.1 y6.2.2.2.2.2.1 x_t_joining x_w_number y6.2.2.2.2.2.2.1 x_w_helpCount y6.2.2.2.2.2.2.2.1 y6.2.2.2.2.2.2.2.2) := hD
          refine lv_pop hx hb d_PS_tellJoined_47 rfl ?_
          refine lv_iinc (v := (l10_3 + (1 : Int32))) (lv' := [(3, .int (l10_3 + (1 : Int32))), (0, .ref a_t), (1, .ref a_w), (2, .int l10_2)]) hx hb d_PS_tellJoined_48 hl (k := 3) rfl rfl (by decide) rfl (fun ls hl => ?_)
          refine lv_goto (tgt := 10) hx hb d_PS_tellJoined_51 (by decide) ?_
          exact ih10 l10_2 (l10_3 + (1 : Int32)) y6.2.1 y6.2.2.1 y6.2.2.2.1 y6.2.2.2.2.1 y6.2.2.2.2.2.1 y6.2.2.2.2.2.2.1 y6.2.2.2.2.2.2.2.1 y6.2.2.2.2.2.2.2.2 _ _ _ h hP hD hS (lv_sub hl [1, 2, 3, 0] rfl)
  exact L10 fu x_t_table_count (0 : Int32) x_t_table_count x_t_table_place x_t_table_told x_t_table_before x_t_table_behind x_w_present x_w_board_entries x_w_board_markBits _ _ _ h hP hD hS (lv_sub hl [2, 3, 1, 0] rfl)

theorem gw_364 : (.methodLink "PlayStates" 221 ⟨"PlayStates$Board", "hasMark", "(II)Z"⟩ : Cond) ∈ GW := gT 402 (by decide +kernel) (by decide +kernel)
theorem d_PS_tellDraft_0 : decode prog_1_method_34_code 0 = .ok (.iconst 0, 1) := by decide +kernel
theorem d_PS_tellDraft_1 : decode prog_1_method_34_code 1 = .ok (.istore_n 2, 1) := by decide +kernel
theorem d_PS_tellDraft_2 : decode prog_1_method_34_code 2 = .ok (.iload_n 2, 1) := by decide +kernel
theorem d_PS_tellDraft_3 : decode prog_1_method_34_code 3 = .ok (.aload_n 0, 1) := by decide +kernel
theorem d_PS_tellDraft_4 : decode prog_1_method_34_code 4 = .ok (.getfield 18, 3) := by decide +kernel
theorem d_PS_tellDraft_7 : decode prog_1_method_34_code 7 = .ok (.if_icmp .ge 62, 3) := by decide +kernel
theorem d_PS_tellDraft_10 : decode prog_1_method_34_code 10 = .ok (.aload_n 0, 1) := by decide +kernel
theorem d_PS_tellDraft_11 : decode prog_1_method_34_code 11 = .ok (.aload_n 1, 1) := by decide +kernel
theorem d_PS_tellDraft_12 : decode prog_1_method_34_code 12 = .ok (.iload_n 2, 1) := by decide +kernel
theorem d_PS_tellDraft_13 : decode prog_1_method_34_code 13 = .ok (.aload_n 0, 1) := by decide +kernel
theorem d_PS_tellDraft_14 : decode prog_1_method_34_code 14 = .ok (.getfield 51, 3) := by decide +kernel
theorem d_PS_tellDraft_17 : decode prog_1_method_34_code 17 = .ok (.getfield 125, 3) := by decide +kernel
theorem d_PS_tellDraft_20 : decode prog_1_method_34_code 20 = .ok (.iload_n 2, 1) := by decide +kernel
theorem d_PS_tellDraft_21 : decode prog_1_method_34_code 21 = .ok (.iaload, 1) := by decide +kernel
theorem d_PS_tellDraft_22 : decode prog_1_method_34_code 22 = .ok (.invokevirtual 86, 3) := by decide +kernel
theorem d_PS_tellDraft_25 : decode prog_1_method_34_code 25 = .ok (.pop, 1) := by decide +kernel
theorem d_PS_tellDraft_26 : decode prog_1_method_34_code 26 = .ok (.iconst 1, 1) := by decide +kernel
theorem d_PS_tellDraft_27 : decode prog_1_method_34_code 27 = .ok (.istore_n 3, 1) := by decide +kernel
theorem d_PS_tellDraft_28 : decode prog_1_method_34_code 28 = .ok (.iload_n 3, 1) := by decide +kernel
theorem d_PS_tellDraft_29 : decode prog_1_method_34_code 29 = .ok (.bipush 9, 2) := by decide +kernel
theorem d_PS_tellDraft_31 : decode prog_1_method_34_code 31 = .ok (.if_icmp .gt 32, 3) := by decide +kernel
theorem d_PS_tellDraft_34 : decode prog_1_method_34_code 34 = .ok (.aload_n 0, 1) := by decide +kernel
theorem d_PS_tellDraft_35 : decode prog_1_method_34_code 35 = .ok (.getfield 51, 3) := by decide +kernel
theorem d_PS_tellDraft_38 : decode prog_1_method_34_code 38 = .ok (.iload_n 2, 1) := by decide +kernel
theorem d_PS_tellDraft_39 : decode prog_1_method_34_code 39 = .ok (.iload_n 3, 1) := by decide +kernel
theorem d_PS_tellDraft_40 : decode prog_1_method_34_code 40 = .ok (.invokevirtual 221, 3) := by decide +kernel
theorem d_PS_tellDraft_43 : decode prog_1_method_34_code 43 = .ok (.ifCond .eq 14, 3) := by decide +kernel
theorem d_PS_tellDraft_46 : decode prog_1_method_34_code 46 = .ok (.aload_n 0, 1) := by decide +kernel
theorem d_PS_tellDraft_47 : decode prog_1_method_34_code 47 = .ok (.aload_n 1, 1) := by decide +kernel
theorem d_PS_tellDraft_48 : decode prog_1_method_34_code 48 = .ok (.iload_n 2, 1) := by decide +kernel
theorem d_PS_tellDraft_49 : decode prog_1_method_34_code 49 = .ok (.bipush 10, 2) := by decide +kernel
theorem d_PS_tellDraft_51 : decode prog_1_method_34_code 51 = .ok (.iload_n 3, 1) := by decide +kernel
theorem d_PS_tellDraft_52 : decode prog_1_method_34_code 52 = .ok (.iadd, 1) := by decide +kernel
theorem d_PS_tellDraft_53 : decode prog_1_method_34_code 53 = .ok (.invokevirtual 86, 3) := by decide +kernel
theorem d_PS_tellDraft_56 : decode prog_1_method_34_code 56 = .ok (.pop, 1) := by decide +kernel
theorem d_PS_tellDraft_57 : decode prog_1_method_34_code 57 = .ok (.iinc 3 1, 3) := by decide +kernel
theorem d_PS_tellDraft_60 : decode prog_1_method_34_code 60 = .ok (.goto (-32), 3) := by decide +kernel
theorem d_PS_tellDraft_63 : decode prog_1_method_34_code 63 = .ok (.iinc 2 1, 3) := by decide +kernel
theorem d_PS_tellDraft_66 : decode prog_1_method_34_code 66 = .ok (.goto (-64), 3) := by decide +kernel
theorem d_PS_tellDraft_69 : decode prog_1_method_34_code 69 = .ok (.return_, 1) := by decide +kernel
-- PlayStates.tellDraft(LPlayStates$Person;)V 
def ws_PS_tellDraft (G : gG) (a_t a_t_right a_t_persons a_t_joining a_t_units a_t_reader a_t_table a_t_table_place a_t_table_told a_t_table_before a_t_table_behind a_t_draft a_t_draft_entries a_t_draft_markBits a_w a_w_clock a_w_board a_w_board_entries a_w_board_markBits : Nat) (n : Nat) (x_t_placeCount : Int32) (x_t_personCount : Int32) (x_t_unitCount : Int32) (x_t_table_count : Int32) (x_t_table_place : Nat → Int32) (x_t_table_told : Nat → Int32) (x_t_table_before : Nat → Int32) (x_t_table_behind : Nat → Int32) (x_t_draft_entries : Nat → Int32) (x_t_draft_markBits : Nat → Int32) (x_w_number : Int32) (x_w_present : Int32) (x_w_helpCount : Int32) (x_w_board_entries : Nat → Int32) (x_w_board_markBits : Nat → Int32) : va_W := [(a_t, .inr (5, [.int x_t_placeCount, .ref a_t_right, .ref a_t_persons, .int x_t_personCount, .ref a_t_table, .ref a_t_joining, .ref a_t_units, .int x_t_unitCount, .ref a_t_draft, .ref a_t_reader])), (a_t_table, .inr (3, [.ref a_t_table_place, .ref a_t_table_told, .ref a_t_table_before, .ref a_t_table_behind, .int x_t_table_count])), (a_t_table_place, .inl (G.2 0, 600, .inl x_t_table_place)), (a_t_table_told, .inl (G.2 0, 600, .inl x_t_table_told)), (a_t_table_before, .inl (G.2 0, 600, .inl x_t_table_before)), (a_t_table_behind, .inl (G.2 0, 600, .inl x_t_table_behind)), (a_t_draft, .inr (0, [.ref a_t_draft_entries, .ref a_t_draft_markBits])), (a_t_draft_entries, .inl (G.2 0, n, .inl x_t_draft_entries)), (a_t_draft_markBits, .inl (G.2 0, n, .inl x_t_draft_markBits)), (a_w, .inr (2, [.int x_w_number, .ref a_w_board, .ref a_w_clock, .int x_w_present, .int x_w_helpCount])), (a_w_board, .inr (0, [.ref a_w_board_entries, .ref a_w_board_markBits])), (a_w_board_entries, .inl (G.2 0, n, .inl x_w_board_entries)), (a_w_board_markBits, .inl (G.2 0, n, .inl x_w_board_markBits))]
def fb_PS_tellDraft_L28 (fu : Nat) (n : Nat) (x_t_placeCount : Int32) (x_t_personCount : Int32) (x_t_unitCount : Int32) (x_t_draft_entries : Nat → Int32) (x_t_draft_markBits : Nat → Int32) (x_w_number : Int32) (x_w_helpCount : Int32) (k2 : (Int32 → Int32 → (Nat → Int32) → (Nat → Int32) → (Nat → Int32) → (Nat → Int32) → Int32 → (Nat → Int32) → (Nat → Int32) → Option (Int32 × (Nat → Int32) × (Nat → Int32) × (Nat → Int32) × (Nat → Int32) × Int32 × (Nat → Int32) × (Nat → Int32)))) (k28 : (Int32 → Int32 → Int32 → (Nat → Int32) → (Nat → Int32) → (Nat → Int32) → (Nat → Int32) → Int32 → (Nat → Int32) → (Nat → Int32) → Option (Int32 × (Nat → Int32) × (Nat → Int32) × (Nat → Int32) × (Nat → Int32) × Int32 × (Nat → Int32) × (Nat → Int32)))) (l28_2 : Int32) (l28_3 : Int32) (x_t_table_count_28 : Int32) (x_t_table_place_28 : Nat → Int32) (x_t_table_told_28 : Nat → Int32) (x_t_table_before_28 : Nat → Int32) (x_t_table_behind_28 : Nat → Int32) (x_w_present_28 : Int32) (x_w_board_entries_28 : Nat → Int32) (x_w_board_markBits_28 : Nat → Int32) : Option (Int32 × (Nat → Int32) × (Nat → Int32) × (Nat → Int32) × (Nat → Int32) × Int32 × (Nat → Int32) × (Nat → Int32)) :=
  (if (9 : Int32) < l28_3 then (k2 (l28_2 + (1 : Int32)) x_t_table_count_28 x_t_table_place_28 x_t_table_told_28 x_t_table_before_28 x_t_table_behind_28 x_w_present_28 x_w_board_entries_28 x_w_board_markBits_28) else ((f_Bd_hasMark n l28_2 l28_3 x_t_draft_markBits).bind fun y5 => (if y5 = 0 then (k28 l28_2 (l28_3 + (1 : Int32)) x_t_table_count_28 x_t_table_place_28 x_t_table_told_28 x_t_table_before_28 x_t_table_behind_28 x_w_present_28 x_w_board_entries_28 x_w_board_markBits_28) else ((f_PS_tell n l28_2 ((10 : Int32) + l28_3) x_t_placeCount x_t_personCount x_t_unitCount x_t_table_count_28 x_t_table_place_28 x_t_table_told_28 x_t_table_before_28 x_t_table_behind_28 x_w_number x_w_present_28 x_w_helpCount x_w_board_entries_28 x_w_board_markBits_28).bind fun y7 => (k28 l28_2 (l28_3 + (1 : Int32)) y7.2.1 y7.2.2.1 y7.2.2.2.1 y7.2.2.2.2.1 y7.2.2.2.2.2.1 y7.2.2.2.2.2.2.1 y7.2.2.2.2.2.2.2.1 y7.2.2.2.2.2.2.2.2)))))
def f_PS_tellDraft_L28 (fu : Nat) (n : Nat) (x_t_placeCount : Int32) (x_t_personCount : Int32) (x_t_unitCount : Int32) (x_t_draft_entries : Nat → Int32) (x_t_draft_markBits : Nat → Int32) (x_w_number : Int32) (x_w_helpCount : Int32) (k2 : (Int32 → Int32 → (Nat → Int32) → (Nat → Int32) → (Nat → Int32) → (Nat → Int32) → Int32 → (Nat → Int32) → (Nat → Int32) → Option (Int32 × (Nat → Int32) × (Nat → Int32) × (Nat → Int32) × (Nat → Int32) × Int32 × (Nat → Int32) × (Nat → Int32)))) : Nat → Int32 → Int32 → Int32 → (Nat → Int32) → (Nat → Int32) → (Nat → Int32) → (Nat → Int32) → Int32 → (Nat → Int32) → (Nat → Int32) → Option (Int32 × (Nat → Int32) × (Nat → Int32) × (Nat → Int32) × (Nat → Int32) × Int32 × (Nat → Int32) × (Nat → Int32))
  | 0 => fun _ _ _ _ _ _ _ _ _ _ => none
  | k9 + 1 => fb_PS_tellDraft_L28 fu n x_t_placeCount x_t_personCount x_t_unitCount x_t_draft_entries x_t_draft_markBits x_w_number x_w_helpCount k2 (f_PS_tellDraft_L28 fu n x_t_placeCount x_t_personCount x_t_unitCount x_t_draft_entries x_t_draft_markBits x_w_number x_w_helpCount k2 k9)
def fb_PS_tellDraft_L2 (fu : Nat) (n : Nat) (x_t_placeCount : Int32) (x_t_personCount : Int32) (x_t_unitCount : Int32) (x_t_draft_entries : Nat → Int32) (x_t_draft_markBits : Nat → Int32) (x_w_number : Int32) (x_w_helpCount : Int32)  (k2 : (Int32 → Int32 → (Nat → Int32) → (Nat → Int32) → (Nat → Int32) → (Nat → Int32) → Int32 → (Nat → Int32) → (Nat → Int32) → Option (Int32 × (Nat → Int32) × (Nat → Int32) × (Nat → Int32) × (Nat → Int32) × Int32 × (Nat → Int32) × (Nat → Int32)))) (l2_2 : Int32) (x_t_table_count_2 : Int32) (x_t_table_place_2 : Nat → Int32) (x_t_table_told_2 : Nat → Int32) (x_t_table_before_2 : Nat → Int32) (x_t_table_behind_2 : Nat → Int32) (x_w_present_2 : Int32) (x_w_board_entries_2 : Nat → Int32) (x_w_board_markBits_2 : Nat → Int32) : Option (Int32 × (Nat → Int32) × (Nat → Int32) × (Nat → Int32) × (Nat → Int32) × Int32 × (Nat → Int32) × (Nat → Int32)) :=
  (if x_t_placeCount ≤ l2_2 then some (x_t_table_count_2, x_t_table_place_2, x_t_table_told_2, x_t_table_before_2, x_t_table_behind_2, x_w_present_2, x_w_board_entries_2, x_w_board_markBits_2) else (if inB l2_2 n then ((f_PS_tell n l2_2 (x_t_draft_entries l2_2.toNatClampNeg) x_t_placeCount x_t_personCount x_t_unitCount x_t_table_count_2 x_t_table_place_2 x_t_table_told_2 x_t_table_before_2 x_t_table_behind_2 x_w_number x_w_present_2 x_w_helpCount x_w_board_entries_2 x_w_board_markBits_2).bind fun y3 => (f_PS_tellDraft_L28 fu n x_t_placeCount x_t_personCount x_t_unitCount x_t_draft_entries x_t_draft_markBits x_w_number x_w_helpCount k2 fu l2_2 (1 : Int32) y3.2.1 y3.2.2.1 y3.2.2.2.1 y3.2.2.2.2.1 y3.2.2.2.2.2.1 y3.2.2.2.2.2.2.1 y3.2.2.2.2.2.2.2.1 y3.2.2.2.2.2.2.2.2)) else none))
def f_PS_tellDraft_L2 (fu : Nat) (n : Nat) (x_t_placeCount : Int32) (x_t_personCount : Int32) (x_t_unitCount : Int32) (x_t_draft_entries : Nat → Int32) (x_t_draft_markBits : Nat → Int32) (x_w_number : Int32) (x_w_helpCount : Int32)  : Nat → Int32 → Int32 → (Nat → Int32) → (Nat → Int32) → (Nat → Int32) → (Nat → Int32) → Int32 → (Nat → Int32) → (Nat → Int32) → Option (Int32 × (Nat → Int32) × (Nat → Int32) × (Nat → Int32) × (Nat → Int32) × Int32 × (Nat → Int32) × (Nat → Int32))
  | 0 => fun _ _ _ _ _ _ _ _ _ => none
  | k9 + 1 => fb_PS_tellDraft_L2 fu n x_t_placeCount x_t_personCount x_t_unitCount x_t_draft_entries x_t_draft_markBits x_w_number x_w_helpCount (f_PS_tellDraft_L2 fu n x_t_placeCount x_t_personCount x_t_unitCount x_t_draft_entries x_t_draft_markBits x_w_number x_w_helpCount k9)
def f_PS_tellDraft (fu : Nat) (n : Nat)  (x_t_placeCount : Int32) (x_t_personCount : Int32) (x_t_unitCount : Int32) (x_t_table_count : Int32) (x_t_table_place : Nat → Int32) (x_t_table_told : Nat → Int32) (x_t_table_before : Nat → Int32) (x_t_table_behind : Nat → Int32) (x_t_draft_entries : Nat → Int32) (x_t_draft_markBits : Nat → Int32) (x_w_number : Int32) (x_w_present : Int32) (x_w_helpCount : Int32) (x_w_board_entries : Nat → Int32) (x_w_board_markBits : Nat → Int32) : Option (Int32 × (Nat → Int32) × (Nat → Int32) × (Nat → Int32) × (Nat → Int32) × Int32 × (Nat → Int32) × (Nat → Int32)) :=
  (f_PS_tellDraft_L2 fu n x_t_placeCount x_t_personCount x_t_unitCount x_t_draft_entries x_t_draft_markBits x_w_number x_w_helpCount fu (0 : Int32) x_t_table_count x_t_table_place x_t_table_told x_t_table_before x_t_table_behind x_w_present x_w_board_entries x_w_board_markBits)
set_option maxHeartbeats 4000000 in
set_option maxRecDepth 100000 in
theorem c_PS_tellDraft (l : Launch) (G : gG) (sz : Nat) (a_t a_t_right a_t_persons a_t_joining a_t_units a_t_reader a_t_table a_t_table_place a_t_table_told a_t_table_before a_t_table_behind a_t_draft a_t_draft_entries a_t_draft_markBits a_w a_w_clock a_w_board a_w_board_entries a_w_board_markBits : Nat) (fu : Nat) (n : Nat)  (x_t_placeCount : Int32) (x_t_personCount : Int32) (x_t_unitCount : Int32) (x_t_table_count : Int32) (x_t_table_place : Nat → Int32) (x_t_table_told : Nat → Int32) (x_t_table_before : Nat → Int32) (x_t_table_behind : Nat → Int32) (x_t_draft_entries : Nat → Int32) (x_t_draft_markBits : Nat → Int32) (x_w_number : Int32) (x_w_present : Int32) (x_w_helpCount : Int32) (x_w_board_entries : Nat → Int32) (x_w_board_markBits : Nat → Int32) (x_t_table_count' : Int32) (x_t_table_place' : Nat → Int32) (x_t_table_told' : Nat → Int32) (x_t_table_before' : Nat → Int32) (x_t_table_behind' : Nat → Int32) (x_w_present' : Int32) (x_w_board_entries' : Nat → Int32) (x_w_board_markBits' : Nat → Int32) (h : f_PS_tellDraft fu n x_t_placeCount x_t_personCount x_t_unitCount x_t_table_count x_t_table_place x_t_table_told x_t_table_before x_t_table_behind x_t_draft_entries x_t_draft_markBits x_w_number x_w_present x_w_helpCount x_w_board_entries x_w_board_markBits = some (x_t_table_count', x_t_table_place', x_t_table_told', x_t_table_before', x_t_table_behind', x_w_present', x_w_board_entries', x_w_board_markBits'))  : cN l y_PS_tellDraft w_PS_tellDraft { frames := 3, cells := 0, slots := 0, locals := 69 } G sz [.ref a_t, .ref a_w] (ws_PS_tellDraft G a_t a_t_right a_t_persons a_t_joining a_t_units a_t_reader a_t_table a_t_table_place a_t_table_told a_t_table_before a_t_table_behind a_t_draft a_t_draft_entries a_t_draft_markBits a_w a_w_clock a_w_board a_w_board_entries a_w_board_markBits n x_t_placeCount x_t_personCount x_t_unitCount x_t_table_count x_t_table_place x_t_table_told x_t_table_before x_t_table_behind x_t_draft_entries x_t_draft_markBits x_w_number x_w_present x_w_helpCount x_w_board_entries x_w_board_markBits) none (wB G (ws_PS_tellDraft G a_t a_t_right a_t_persons a_t_joining a_t_units a_t_reader a_t_table a_t_table_place a_t_table_told a_t_table_before a_t_table_behind a_t_draft a_t_draft_entries a_t_draft_markBits a_w a_w_clock a_w_board a_w_board_entries a_w_board_markBits n x_t_placeCount x_t_personCount x_t_unitCount x_t_table_count' x_t_table_place' x_t_table_told' x_t_table_before' x_t_table_behind' x_t_draft_entries x_t_draft_markBits x_w_number x_w_present' x_w_helpCount x_w_board_entries' x_w_board_markBits')) 0 0 := by
  refine cN_ofW (cc := prog_1_method_34_code) (maxL := 4) (ret := none) (by decide) rfl (Nat.le_of_ble_eq_true rfl) ?_
  intro p e s m args below meth c A H locs ls hx hb hr hts hown hlocks hin hml hK hN hP hD hA hS hl
  replace hl : lv_has ls 4 [(0, .ref a_t), (1, .ref a_w)] := hl
  replace hown : s.vm.findClass "PlayStates" = some m.cls := hown
  unfold f_PS_tellDraft at h
  refine lv_iconst (v := (0 : Int32)) hx hb d_PS_tellDraft_0 (by decide) ?_
  refine lv_istore_n (lv' := [(2, .int (0 : Int32)), (0, .ref a_t), (1, .ref a_w)]) hx hb d_PS_tellDraft_1 rfl hl (by decide) rfl (fun ls hl => ?_)
  have L2 : ∀ (nf : Nat) (l2_2 : Int32) (x_t_table_count_2 : Int32) (x_t_table_place_2 : Nat → Int32) (x_t_table_told_2 : Nat → Int32) (x_t_table_before_2 : Nat → Int32) (x_t_table_behind_2 : Nat → Int32) (x_w_present_2 : Int32) (x_w_board_entries_2 : Nat → Int32) (x_w_board_markBits_2 : Nat → Int32) (H : Heap) (locs : List Loc) (ls : Array Slot), f_PS_tellDraft_L2 fu n x_t_placeCount x_t_personCount x_t_unitCount x_t_draft_entries x_t_draft_markBits x_w_number x_w_helpCount nf l2_2 x_t_table_count_2 x_t_table_place_2 x_t_table_told_2 x_t_table_before_2 x_t_table_behind_2 x_w_present_2 x_w_board_entries_2 x_w_board_markBits_2 = some (x_t_table_count', x_t_table_place', x_t_table_told', x_t_table_before', x_t_table_behind', x_w_present', x_w_board_entries', x_w_board_markBits') → va_P G.1 vwCl (ws_PS_tellDraft G a_t a_t_right a_t_persons a_t_joining a_t_units a_t_reader a_t_table a_t_table_place a_t_table_told a_t_table_before a_t_table_behind a_t_draft a_t_draft_entries a_t_draft_markBits a_w a_w_clock a_w_board a_w_board_entries a_w_board_markBits n x_t_placeCount x_t_personCount x_t_unitCount x_t_table_count_2 x_t_table_place_2 x_t_table_told_2 x_t_table_before_2 x_t_table_behind_2 x_t_draft_entries x_t_draft_markBits x_w_number x_w_present_2 x_w_helpCount x_w_board_entries_2 x_w_board_markBits_2) H → va_D A (ws_PS_tellDraft G a_t a_t_right a_t_persons a_t_joining a_t_units a_t_reader a_t_table a_t_table_place a_t_table_told a_t_table_before a_t_table_behind a_t_draft a_t_draft_entries a_t_draft_markBits a_w a_w_clock a_w_board a_w_board_entries a_w_board_markBits n x_t_placeCount x_t_personCount x_t_unitCount x_t_table_count_2 x_t_table_place_2 x_t_table_told_2 x_t_table_before_2 x_t_table_behind_2 x_t_draft_entries x_t_draft_markBits x_w_number x_w_present_2 x_w_helpCount x_w_board_entries_2 x_w_board_markBits_2) → va_S A s.heap H locs → lv_has ls 4 [(0, .ref a_t), (1, .ref a_w), (2, .int l2_2)] → W p l e { frames := 3, cells := 0, slots := 0, locals := 69 } s m args below meth c H locs 0 0 (MQ below (qQ none (wB G (ws_PS_tellDraft G a_t a_t_right a_t_persons a_t_joining a_t_units a_t_reader a_t_table a_t_table_place a_t_table_told a_t_table_before a_t_table_behind a_t_draft a_t_draft_entries a_t_draft_markBits a_w a_w_clock a_w_board a_w_board_entries a_w_board_markBits n x_t_placeCount x_t_personCount x_t_unitCount x_t_table_count' x_t_table_place' x_t_table_told' x_t_table_before' x_t_table_behind' x_t_draft_entries x_t_draft_markBits x_w_number x_w_present' x_w_helpCount x_w_board_entries' x_w_board_markBits') A) A) args s 0 0 A) (F0 m 2 ls []) := by
    clear h hP hD hS hl
    intro n2
    induction n2 with
    | zero => intro _ _ _ _ _ _ _ _ _ H locs ls h; exact nomatch (show none = some _ from h)
    | succ n2 ih2 =>
      intro l2_2 x_t_table_count_2 x_t_table_place_2 x_t_table_told_2 x_t_table_before_2 x_t_table_behind_2 x_w_present_2 x_w_board_entries_2 x_w_board_markBits_2 H locs ls h hP hD hS hl
      replace h : fb_PS_tellDraft_L2 fu n x_t_placeCount x_t_personCount x_t_unitCount x_t_draft_entries x_t_draft_markBits x_w_number x_w_helpCount (f_PS_tellDraft_L2 fu n x_t_placeCount x_t_personCount x_t_unitCount x_t_draft_entries x_t_draft_markBits x_w_number x_w_helpCount n2) l2_2 x_t_table_count_2 x_t_table_place_2 x_t_table_told_2 x_t_table_before_2 x_t_table_behind_2 x_w_present_2 x_w_board_entries_2 x_w_board_markBits_2 = some (x_t_table_count', x_t_table_place', x_t_table_told', x_t_table_before', x_t_table_behind', x_w_present', x_w_board_entries', x_w_board_markBits') := h
      unfold fb_PS_tellDraft_L2 at h
      refine lv_iload_n hx hb d_PS_tellDraft_2 rfl (lv_at hl 2 rfl) ?_
      refine lv_aload_n hx hb d_PS_tellDraft_3 rfl (lv_at hl 0 rfl) ?_
      refine va_get (D := G.1) (ci := 5) (v := .int x_t_placeCount) (C := "PlayStates") (T := TPS) (N := 10) hx hb hts iw_5 hown hK hP 0 rfl rfl 0 (by decide) (hts _ gw_102) (fun _ h9 => h9) rfl d_PS_tellDraft_4 ?_
      refine lv_icmp_ge (tgt := 69) hx hb d_PS_tellDraft_7 (by decide) (fun c1 => ?_) (fun c1 => ?_)
      · replace h := (if_pos c1).symm.trans h
        cases h
        exact q_vretW hx hb hr hlocks hP hD hS d_PS_tellDraft_69
      · replace h := (if_neg c1).symm.trans h
        refine lv_aload_n hx hb d_PS_tellDraft_10 rfl (lv_at hl 0 rfl) ?_
        refine lv_aload_n hx hb d_PS_tellDraft_11 rfl (lv_at hl 1 rfl) ?_
        refine lv_iload_n hx hb d_PS_tellDraft_12 rfl (lv_at hl 2 rfl) ?_
        refine lv_aload_n hx hb d_PS_tellDraft_13 rfl (lv_at hl 0 rfl) ?_
        refine va_get (D := G.1) (ci := 5) (v := .ref a_t_draft) (C := "PlayStates") (T := TPS) (N := 10) hx hb hts iw_5 hown hK hP 0 rfl rfl 8 (by decide) (hts _ gw_110) (fun _ h9 => h9) rfl d_PS_tellDraft_14 ?_
        refine va_getN (D := G.1) (ci := 0) (v := .ref a_t_draft_entries) (C := "PlayStates$Board") (T := TBd) (N := 2) hx hb hts iw_0 hown hK hP 6 rfl rfl 0 (by decide) (va_Nw.use rfl (hN.1 ("PlayStates", 125, "PlayStates$Board", "entries", "[I", "PlayStates") (by decide +kernel))) (fun _ h9 => h9) rfl d_PS_tellDraft_17 ?_
        refine lv_iload_n hx hb d_PS_tellDraft_20 rfl (lv_at hl 2 rfl) ?_
        obtain ⟨i2, h⟩ := o_if h
        refine va_iald (n := n) (f := x_t_draft_entries) hx hb hK hP 7 0 rfl rfl i2 d_PS_tellDraft_21 ?_
        obtain ⟨y3, hy3, h⟩ := o_bind h
        have hPc := hP.sub (ws' := (ws_PS_tell G a_t a_t_right a_t_persons a_t_joining a_t_units a_t_draft a_t_reader a_t_table a_t_table_place a_t_table_told a_t_table_before a_t_table_behind a_w a_w_clock a_w_board a_w_board_entries a_w_board_markBits n x_t_placeCount x_t_personCount x_t_unitCount x_t_table_count_2 x_t_table_place_2 x_t_table_told_2 x_t_table_before_2 x_t_table_behind_2 x_w_number x_w_present_2 x_w_helpCount x_w_board_entries_2 x_w_board_markBits_2)) [0, 1, 2, 3, 4, 5, 9, 10, 11, 12] rfl
        have hDc := hD.sub (ws' := (ws_PS_tell G a_t a_t_right a_t_persons a_t_joining a_t_units a_t_draft a_t_reader a_t_table a_t_table_place a_t_table_told a_t_table_before a_t_table_behind a_w a_w_clock a_w_board a_w_board_entries a_w_board_markBits n x_t_placeCount x_t_personCount x_t_unitCount x_t_table_count_2 x_t_table_place_2 x_t_table_told_2 x_t_table_before_2 x_t_table_behind_2 x_w_number x_w_present_2 x_w_helpCount x_w_board_entries_2 x_w_board_markBits_2)) [0, 1, 2, 3, 4, 5, 9, 10, 11, 12] (by decide) rfl
        have hFc := va_free (wc := (ws_PS_tell G a_t a_t_right a_t_persons a_t_joining a_t_units a_t_draft a_t_reader a_t_table a_t_table_place a_t_table_told a_t_table_before a_t_table_behind a_w a_w_clock a_w_board a_w_board_entries a_w_board_markBits n x_t_placeCount x_t_personCount x_t_unitCount x_t_table_count_2 x_t_table_place_2 x_t_table_told_2 x_t_table_before_2 x_t_table_behind_2 x_w_number x_w_present_2 x_w_helpCount x_w_board_entries_2 x_w_board_markBits_2)) hD hS hA [0, 1, 2, 3, 4, 5, 9, 10, 11, 12] rfl
        refine q_call1 (va_runV (As := [.ref a_w, .int l2_2, .int (x_t_draft_entries l2_2.toNatClampNeg)]) (rest := []) ⟨hx, hb, hml, hown, hts⟩ (c_PS_tell l G H.size a_t a_t_right a_t_persons a_t_joining a_t_units a_t_draft a_t_reader a_t_table a_t_table_place a_t_table_told a_t_table_before a_t_table_behind a_w a_w_clock a_w_board a_w_board_entries a_w_board_markBits n l2_2 (x_t_draft_entries l2_2.toNatClampNeg) x_t_placeCount x_t_personCount x_t_unitCount x_t_table_count_2 x_t_table_place_2 x_t_table_told_2 x_t_table_before_2 x_t_table_behind_2 x_w_number x_w_present_2 x_w_helpCount x_w_board_entries_2 x_w_board_markBits_2 _ _ _ _ _ _ _ _ _ hy3) (cwV 3 hts (gV gw_172 gw_173 gw_4 gw_31 gw_174) rfl rfl rfl (by decide +kernel) ⟨Nat.le_of_ble_eq_true rfl, Nat.le_of_ble_eq_true rfl⟩) (pV hK hN hPc hDc (ci := 5) (q0 := 0) rfl rfl) rfl rfl hl.1 rfl (lv_room (Nat.le_of_ble_eq_true rfl)) d_PS_tellDraft_22 ⟨Nat.le_of_ble_eq_true rfl, Nat.le_of_ble_eq_true rfl⟩) hS (fun q _ h => hFc q h) hFc (fun H1 locs hB hz hk hS => ?_)
        obtain ⟨hP, hD⟩ := q_join (wr := [(a_t_draft, .inr (0, [.ref a_t_draft_entries, .ref a_t_draft_markBits])), (a_t_draft_entries, .inl (G.2 0, n, .inl x_t_draft_entries)), (a_t_draft_markBits, .inl (G.2 0, n, .inl x_t_draft_markBits))]) (wn := (ws_PS_tellDraft G a_t a_t_right a_t_persons a_t_joining a_t_units a_t_reader a_t_table a_t_table_place a_t_table_told a_t_table_before a_t_table_behind a_t_draft a_t_draft_entries a_t_draft_markBits a_w a_w_clock a_w_board a_w_board_entries a_w_board_markBits n x_t_placeCount x_t_personCount x_t_unitCount y3.2.1 y3.2.2.1 y3.2.2.2.1 y3.2.2.2.2.1 y3.2.2.2.2.2.1 x_t_draft_entries x_t_draft_markBits x_w_number y3.2.2.2.2.2.2.1 x_w_helpCount y3.2.2.2.2.2.2.2.1 y3.2.2.2.2.2.2.2.2)) hP hD [0, 1, 2, 3, 4, 5, 9, 10, 11, 12] [6, 7, 8] [3, 4, 5, 6, 7, 8, 0, 1, 2, 9, 10, 11, 12] rfl rfl (by decide) (by decide) rfl (by decide) hk hFc hB.1 hB.2
        generalize H1 = H at hP hS ⊢
        replace hP : va_P G.1 vwCl (ws_PS_tellDraft G a_t a_t_right a_t_persons a_t_joining a_t_units a_t_reader a_t_table a_t_table_place a_t_table_told a_t_table_before a_t_table_behind a_t_draft a_t_draft_entries a_t_draft_markBits a_w a_w_clock a_w_board a_w_board_entries a_w_board_markBits n x_t_placeCount x_t_personCount x_t_unitCount y3.2.1 y3.2.2.1 y3.2.2.2.1 y3.2.2.2.2.1 y3.2.2.2.2.2.1 x_t_draft_entries x_t_draft_markBits x_w_number y3.2.2.2.2.2.2.1 x_w_helpCount y3.2.2.2.2.2.2.2.1 y3.2.2.2.2.2.2.2.2) H := hP
        replace hD : va_D A (ws_PS_tellDraft G a_t a_t_right a_t_persons a_t_joining a_t_units a_t_reader a_t_table a_t_table_place a_t_table_told a_t_table_before a_t_table_behind a_t_draft a_t_draft_entries a_t_draft_markBits a_w a_w_clock a_w_board a_w_board_entries a_w_board_markBits n x_t_placeCount x_t_personCount x_t_unitCount y3.2.1 y3.2.2.1 y3.2.2.2.1 y3.2.2.2.2.1 y3.2.2.2.2.2.1 x_t_draft_entries x_t_draft_markBits x_w_number y3.2.2.2.2.2.2.1 x_w_helpCount y3.2.2.2.2.2.2.2.1 y3.2.2.2.2.2.2.2.2) := hD
        refine lv_pop hx hb d_PS_tellDraft_25 rfl ?_
        refine lv_iconst (v := (1 : Int32)) hx hb d_PS_tellDraft_26 (by decide) ?_
        refine lv_istore_n (lv' := [(3, .int (1 : Int32)), (0, .ref a_t), (1, .ref a_w), (2, .int l2_2)]) hx hb d_PS_tellDraft_27 rfl hl (by decide) rfl (fun ls hl => ?_)
        have L28 : ∀ (nf : Nat) (l28_2 : Int32) (l28_3 : Int32) (x_t_table_count_28 : Int32) (x_t_table_place_28 : Nat → Int32) (x_t_table_told_28 : Nat → Int32) (x_t_table_before_28 : Nat → Int32) (x_t_table_behind_28 : Nat → Int32) (x_w_present_28 : Int32) (x_w_board_entries_28 : Nat → Int32) (x_w_board_markBits_28 : Nat → Int32) (H : Heap) (locs : List Loc) (ls : Array Slot), f_PS_tellDraft_L28 fu n x_t_placeCount x_t_personCount x_t_unitCount x_t_draft_entries x_t_draft_markBits x_w_number x_w_helpCount (f_PS_tellDraft_L2 fu n x_t_placeCount x_t_personCount x_t_unitCount x_t_draft_entries x_t_draft_markBits x_w_number x_w_helpCount n2) nf l28_2 l28_3 x_t_table_count_28 x_t_table_place_28 x_t_table_told_28 x_t_table_before_28 x_t_table_behind_28 x_w_present_28 x_w_board_entries_28 x_w_board_markBits_28 = some (x_t_table_count', x_t_table_place', x_t_table_told', x_t_table_before', x_t_table_behind', x_w_present', x_w_board_entries', x_w_board_markBits') → va_P G.1 vwCl (ws_PS_tellDraft G a_t a_t_right a_t_persons a_t_joining a_t_units a_t_reader a_t_table a_t_table_place a_t_table_told a_t_table_before a_t_table_behind a_t_draft a_t_draft_entries a_t_draft_markBits a_w a_w_clock a_w_board a_w_board_entries a_w_board_markBits n x_t_placeCount x_t_personCount x_t_unitCount x_t_table_count_28 x_t_table_place_28 x_t_table_told_28 x_t_table_before_28 x_t_table_behind_28 x_t_draft_entries x_t_draft_markBits x_w_number x_w_present_28 x_w_helpCount x_w_board_entries_28 x_w_board_markBits_28) H → va_D A (ws_PS_tellDraft G a_t a_t_right a_t_persons a_t_joining a_t_units a_t_reader a_t_table a_t_table_place a_t_table_told a_t_table_before a_t_table_behind a_t_draft a_t_draft_entries a_t_draft_markBits a_w a_w_clock a_w_board a_w_board_entries a_w_board_markBits n x_t_placeCount x_t_personCount x_t_unitCount x_t_table_count_28 x_t_table_place_28 x_t_table_told_28 x_t_table_before_28 x_t_table_behind_28 x_t_draft_entries x_t_draft_markBits x_w_number x_w_present_28 x_w_helpCount x_w_board_entries_28 x_w_board_markBits_28) → va_S A s.heap H locs → lv_has ls 4 [(0, .ref a_t), (1, .ref a_w), (2, .int l28_2), (3, .int l28_3)] → W p l e { frames := 3, cells := 0, slots := 0, locals := 69 } s m args below meth c H locs 0 0 (MQ below (qQ none (wB G (ws_PS_tellDraft G a_t a_t_right a_t_persons a_t_joining a_t_units a_t_reader a_t_table a_t_table_place a_t_table_told a_t_table_before a_t_table_behind a_t_draft a_t_draft_entries a_t_draft_markBits a_w a_w_clock a_w_board a_w_board_entries a_w_board_markBits n x_t_placeCount x_t_personCount x_t_unitCount x_t_table_count' x_t_table_place' x_t_table_told' x_t_table_before' x_t_table_behind' x_t_draft_entries x_t_draft_markBits x_w_number x_w_present' x_w_helpCount x_w_board_entries' x_w_board_markBits') A) A) args s 0 0 A) (F0 m 28 ls []) := by
          clear h hP hD hS hl
          intro n28
          induction n28 with
          | zero => intro _ _ _ _ _ _ _ _ _ _ H locs ls h; exact nomatch (show none = some _ from h)
          | succ n28 ih28 =>
            intro l28_2 l28_3 x_t_table_count_28 x_t_table_place_28 x_t_table_told_28 x_t_table_before_28 x_t_table_behind_28 x_w_present_28 x_w_board_entries_28 x_w_board_markBits_28 H locs ls h hP hD hS hl
            replace h : fb_PS_tellDraft_L28 fu n x_t_placeCount x_t_personCount x_t_unitCount x_t_draft_entries x_t_draft_markBits x_w_number x_w_helpCount (f_PS_tellDraft_L2 fu n x_t_placeCount x_t_personCount x_t_unitCount x_t_draft_entries x_t_draft_markBits x_w_number x_w_helpCount n2) (f_PS_tellDraft_L28 fu n x_t_placeCount x_t_personCount x_t_unitCount x_t_draft_entries x_t_draft_markBits x_w_number x_w_helpCount (f_PS_tellDraft_L2 fu n x_t_placeCount x_t_personCount x_t_unitCount x_t_draft_entries x_t_draft_markBits x_w_number x_w_helpCount n2) n28) l28_2 l28_3 x_t_table_count_28 x_t_table_place_28 x_t_table_told_28 x_t_table_before_28 x_t_table_behind_28 x_w_present_28 x_w_board_entries_28 x_w_board_markBits_28 = some (x_t_table_count', x_t_table_place', x_t_table_told', x_t_table_before', x_t_table_behind', x_w_present', x_w_board_entries', x_w_board_markBits') := h
            unfold fb_PS_tellDraft_L28 at h
            refine lv_iload_n hx hb d_PS_tellDraft_28 rfl (lv_at hl 3 rfl) ?_
            refine lv_bipush (v := (9 : Int32)) hx hb d_PS_tellDraft_29 (by decide) ?_
            refine lv_icmp_gt (tgt := 63) hx hb d_PS_tellDraft_31 (by decide) (fun c4 => ?_) (fun c4 => ?_)
            · replace h := (if_pos c4).symm.trans h
              refine lv_iinc (v := (l28_2 + (1 : Int32))) (lv' := [(2, .int (l28_2 + (1 : Int32))), (0, .ref a_t), (1, .ref a_w), (3, .int l28_3)]) hx hb d_PS_tellDraft_63 hl (k := 2) rfl rfl (by decide) rfl (fun ls hl => ?_)
              refine lv_goto (tgt := 2) hx hb d_PS_tellDraft_66 (by decide) ?_
              exact ih2 (l28_2 + (1 : Int32)) x_t_table_count_28 x_t_table_place_28 x_t_table_told_28 x_t_table_before_28 x_t_table_behind_28 x_w_present_28 x_w_board_entries_28 x_w_board_markBits_28 _ _ _ h hP hD hS (lv_sub hl [1, 2, 0] rfl)
            · replace h := (if_neg c4).symm.trans h
              refine lv_aload_n hx hb d_PS_tellDraft_34 rfl (lv_at hl 0 rfl) ?_
              refine va_get (D := G.1) (ci := 5) (v := .ref a_t_draft) (C := "PlayStates") (T := TPS) (N := 10) hx hb hts iw_5 hown hK hP 0 rfl rfl 8 (by decide) (hts _ gw_110) (fun _ h9 => h9) rfl d_PS_tellDraft_35 ?_
              refine lv_iload_n hx hb d_PS_tellDraft_38 rfl (lv_at hl 2 rfl) ?_
              refine lv_iload_n hx hb d_PS_tellDraft_39 rfl (lv_at hl 3 rfl) ?_
              obtain ⟨y5, hy5, h⟩ := o_bind h
              have hPc := hP.sub (ws' := (ws_Bd_hasMark G a_t_draft a_t_draft_entries a_t_draft_markBits n x_t_draft_markBits)) [6, 8] rfl
              have hDc := hD.sub (ws' := (ws_Bd_hasMark G a_t_draft a_t_draft_entries a_t_draft_markBits n x_t_draft_markBits)) [6, 8] (by decide) rfl
              have hFc := va_free (wc := (ws_Bd_hasMark G a_t_draft a_t_draft_entries a_t_draft_markBits n x_t_draft_markBits)) hD hS hA [6, 8] rfl
              refine q_call1 (va_runV (As := [.int l28_2, .int l28_3]) (rest := []) ⟨hx, hb, hml, hown, hts⟩ (c_Bd_hasMark l G H.size a_t_draft a_t_draft_entries a_t_draft_markBits n l28_2 l28_3 x_t_draft_markBits _ hy5) (cwV 2 hts (gV gw_364 gw_180 gw_181 gw_34 gw_182) rfl rfl rfl (by decide +kernel) ⟨Nat.le_of_ble_eq_true rfl, Nat.le_of_ble_eq_true rfl⟩) (pV hK hN hPc hDc (ci := 0) (q0 := 0) rfl rfl) rfl rfl hl.1 rfl (lv_room (Nat.le_of_ble_eq_true rfl)) d_PS_tellDraft_40 ⟨Nat.le_of_ble_eq_true rfl, Nat.le_of_ble_eq_true rfl⟩) hS (fun q _ h => hFc q h) hFc (fun H1 locs hB hz hk hS => ?_)
              obtain ⟨hP, hD⟩ := q_join (wr := [(a_t, .inr (5, [.int x_t_placeCount, .ref a_t_right, .ref a_t_persons, .int x_t_personCount, .ref a_t_table, .ref a_t_joining, .ref a_t_units, .int x_t_unitCount, .ref a_t_draft, .ref a_t_reader])), (a_t_table, .inr (3, [.ref a_t_table_place, .ref a_t_table_told, .ref a_t_table_before, .ref a_t_table_behind, .int x_t_table_count_28])), (a_t_table_place, .inl (G.2 0, 600, .inl x_t_table_place_28)), (a_t_table_told, .inl (G.2 0, 600, .inl x_t_table_told_28)), (a_t_table_before, .inl (G.2 0, 600, .inl x_t_table_before_28)), (a_t_table_behind, .inl (G.2 0, 600, .inl x_t_table_behind_28)), (a_t_draft_entries, .inl (G.2 0, n, .inl x_t_draft_entries)), (a_w, .inr (2, [.int x_w_number, .ref a_w_board, .ref a_w_clock, .int x_w_present_28, .int x_w_helpCount])), (a_w_board, .inr (0, [.ref a_w_board_entries, .ref a_w_board_markBits])), (a_w_board_entries, .inl (G.2 0, n, .inl x_w_board_entries_28)), (a_w_board_markBits, .inl (G.2 0, n, .inl x_w_board_markBits_28))]) (wn := (ws_PS_tellDraft G a_t a_t_right a_t_persons a_t_joining a_t_units a_t_reader a_t_table a_t_table_place a_t_table_told a_t_table_before a_t_table_behind a_t_draft a_t_draft_entries a_t_draft_markBits a_w a_w_clock a_w_board a_w_board_entries a_w_board_markBits n x_t_placeCount x_t_personCount x_t_unitCount x_t_table_count_28 x_t_table_place_28 x_t_table_told_28 x_t_table_before_28 x_t_table_behind_28 x_t_draft_entries x_t_draft_markBits x_w_number x_w_present_28 x_w_helpCount x_w_board_entries_28 x_w_board_markBits_28)) hP hD [6, 8] [0, 1, 2, 3, 4, 5, 7, 9, 10, 11, 12] [0, 1, 2, 3, 4, 5, 11, 6, 12, 7, 8, 9, 10] rfl rfl (by decide) (by decide) rfl (by decide) hk hFc hB.1 hB.2
              generalize H1 = H at hP hS ⊢
              replace hP : va_P G.1 vwCl (ws_PS_tellDraft G a_t a_t_right a_t_persons a_t_joining a_t_units a_t_reader a_t_table a_t_table_place a_t_table_told a_t_table_before a_t_table_behind a_t_draft a_t_draft_entries a_t_draft_markBits a_w a_w_clock a_w_board a_w_board_entries a_w_board_markBits n x_t_placeCount x_t_personCount x_t_unitCount x_t_table_count_28 x_t_table_place_28 x_t_table_told_28 x_t_table_before_28 x_t_table_behind_28 x_t_draft_entries x_t_draft_markBits x_w_number x_w_present_28 x_w_helpCount x_w_board_entries_28 x_w_board_markBits_28) H := hP
              replace hD : va_D A (ws_PS_tellDraft G a_t a_t_right a_t_persons a_t_joining a_t_units a_t_reader a_t_table a_t_table_place a_t_table_told a_t_table_before a_t_table_behind a_t_draft a_t_draft_entries a_t_draft_markBits a_w a_w_clock a_w_board a_w_board_entries a_w_board_markBits n x_t_placeCount x_t_personCount x_t_unitCount x_t_table_count_28 x_t_table_place_28 x_t_table_told_28 x_t_table_before_28 x_t_table_behind_28 x_t_draft_entries x_t_draft_markBits x_w_number x_w_present_28 x_w_helpCount x_w_board_entries_28 x_w_board_markBits_28) := hD
              refine lv_if_eq (tgt := 57) hx hb d_PS_tellDraft_43 (by decide) (fun c6 => ?_) (fun c6 => ?_)
              · replace h := (if_pos c6).symm.trans h
                refine lv_iinc (v := (l28_3 + (1 : Int32))) (lv' := [(3, .int (l28_3 + (1 : Int32))), (0, .ref a_t), (1, .ref a_w), (2, .int l28_2)]) hx hb d_PS_tellDraft_57 hl (k := 3) rfl rfl (by decide) rfl (fun ls hl => ?_)
                refine lv_goto (tgt := 28) hx hb d_PS_tellDraft_60 (by decide) ?_
                exact ih28 l28_2 (l28_3 + (1 : Int32)) x_t_table_count_28 x_t_table_place_28 x_t_table_told_28 x_t_table_before_28 x_t_table_behind_28 x_w_present_28 x_w_board_entries_28 x_w_board_markBits_28 _ _ _ h hP hD hS (lv_sub hl [1, 2, 3, 0] rfl)
              · replace h := (if_neg c6).symm.trans h
                refine lv_aload_n hx hb d_PS_tellDraft_46 rfl (lv_at hl 0 rfl) ?_
                refine lv_aload_n hx hb d_PS_tellDraft_47 rfl (lv_at hl 1 rfl) ?_
                refine lv_iload_n hx hb d_PS_tellDraft_48 rfl (lv_at hl 2 rfl) ?_
                refine lv_bipush (v := (10 : Int32)) hx hb d_PS_tellDraft_49 (by decide) ?_
                refine lv_iload_n hx hb d_PS_tellDraft_51 rfl (lv_at hl 3 rfl) ?_
                refine lv_iadd hx hb d_PS_tellDraft_52 ?_
                obtain ⟨y7, hy7, h⟩ := o_bind h
                have hPc := hP.sub (ws' := (ws_PS_tell G a_t a_t_right a_t_persons a_t_joining a_t_units a_t_draft a_t_reader a_t_table a_t_table_place a_t_table_told a_t_table_before a_t_table_behind a_w a_w_clock a_w_board a_w_board_entries a_w_board_markBits n x_t_placeCount x_t_personCount x_t_unitCount x_t_table_count_28 x_t_table_place_28 x_t_table_told_28 x_t_table_before_28 x_t_table_behind_28 x_w_number x_w_present_28 x_w_helpCount x_w_board_entries_28 x_w_board_markBits_28)) [0, 1, 2, 3, 4, 5, 9, 10, 11, 12] rfl
                have hDc := hD.sub (ws' := (ws_PS_tell G a_t a_t_right a_t_persons a_t_joining a_t_units a_t_draft a_t_reader a_t_table a_t_table_place a_t_table_told a_t_table_before a_t_table_behind a_w a_w_clock a_w_board a_w_board_entries a_w_board_markBits n x_t_placeCount x_t_personCount x_t_unitCount x_t_table_count_28 x_t_table_place_28 x_t_table_told_28 x_t_table_before_28 x_t_table_behind_28 x_w_number x_w_present_28 x_w_helpCount x_w_board_entries_28 x_w_board_markBits_28)) [0, 1, 2, 3, 4, 5, 9, 10, 11, 12] (by decide) rfl
                have hFc := va_free (wc := (ws_PS_tell G a_t a_t_right a_t_persons a_t_joining a_t_units a_t_draft a_t_reader a_t_table a_t_table_place a_t_table_told a_t_table_before a_t_table_behind a_w a_w_clock a_w_board a_w_board_entries a_w_board_markBits n x_t_placeCount x_t_personCount x_t_unitCount x_t_table_count_28 x_t_table_place_28 x_t_table_told_28 x_t_table_before_28 x_t_table_behind_28 x_w_number x_w_present_28 x_w_helpCount x_w_board_entries_28 x_w_board_markBits_28)) hD hS hA [0, 1, 2, 3, 4, 5, 9, 10, 11, 12] rfl
                refine q_call1 (va_runV (As := [.ref a_w, .int l28_2, .int ((10 : Int32) + l28_3)]) (rest := []) ⟨hx, hb, hml, hown, hts⟩ (c_PS_tell l G H.size a_t a_t_right a_t_persons a_t_joining a_t_units a_t_draft a_t_reader a_t_table a_t_table_place a_t_table_told a_t_table_before a_t_table_behind a_w a_w_clock a_w_board a_w_board_entries a_w_board_markBits n l28_2 ((10 : Int32) + l28_3) x_t_placeCount x_t_personCount x_t_unitCount x_t_table_count_28 x_t_table_place_28 x_t_table_told_28 x_t_table_before_28 x_t_table_behind_28 x_w_number x_w_present_28 x_w_helpCount x_w_board_entries_28 x_w_board_markBits_28 _ _ _ _ _ _ _ _ _ hy7) (cwV 3 hts (gV gw_172 gw_173 gw_4 gw_31 gw_174) rfl rfl rfl (by decide +kernel) ⟨Nat.le_of_ble_eq_true rfl, Nat.le_of_ble_eq_true rfl⟩) (pV hK hN hPc hDc (ci := 5) (q0 := 0) rfl rfl) rfl rfl hl.1 rfl (lv_room (Nat.le_of_ble_eq_true rfl)) d_PS_tellDraft_53 ⟨Nat.le_of_ble_eq_true rfl, Nat.le_of_ble_eq_true rfl⟩) hS (fun q _ h => hFc q h) hFc (fun H1 locs hB hz hk hS => ?_)
                obtain ⟨hP, hD⟩ := q_join (wr := [(a_t_draft, .inr (0, [.ref a_t_draft_entries, .ref a_t_draft_markBits])), (a_t_draft_entries, .inl (G.2 0, n, .inl x_t_draft_entries)), (a_t_draft_markBits, .inl (G.2 0, n, .inl x_t_draft_markBits))]) (wn := (ws_PS_tellDraft G a_t a_t_right a_t_persons a_t_joining a_t_units a_t_reader a_t_table a_t_table_place a_t_table_told a_t_table_before a_t_table_behind a_t_draft a_t_draft_entries a_t_draft_markBits a_w a_w_clock a_w_board a_w_board_entries a_w_board_markBits n x_t_placeCount x_t_personCount x_t_unitCount y7.2.1 y7.2.2.1 y7.2.2.2.1 y7.2.2.2.2.1 y7.2.2.2.2.2.1 x_t_draft_entries x_t_draft_markBits x_w_number y7.2.2.2.2.2.2.1 x_w_helpCount y7.2.2.2.2.2.2.2.1 y7.2.2.2.2.2.2.2.2)) hP hD [0, 1, 2, 3, 4, 5, 9, 10, 11, 12] [6, 7, 8] [3, 4, 5, 6, 7, 8, 0, 1, 2, 9, 10, 11, 12] rfl rfl (by decide) (by decide) rfl (by decide) hk hFc hB.1 hB.2
                generalize H1 = H at hP hS ⊢
                replace hP : va_P G.1 vwCl (ws_PS_tellDraft G a_t a_t_right a_t_persons a_t_joining a_t_units a_t_reader a_t_table a_t_table_place a_t_table_told a_t_table_before a_t_table_behind a_t_draft a_t_draft_entries a_t_draft_markBits a_w a_w_clock a_w_board a_w_board_entries a_w_board_markBits n x_t_placeCount x_t_personCount x_t_unitCount y7.2.1 y7.2.2.1 y7.2.2.2.1 y7.2.2.2.2.1 y7.2.2.2.2.2.1 x_t_draft_entries x_t_draft_markBits x_w_number y7.2.2.2.2.2.2.1 x_w_helpCount y7.2.2.2.2.2.2.2.1 y7.2.2.2.2.2.2.2.2) H := hP
                replace hD : va_D A (ws_PS_tellDraft G a_t a_t_right a_t_persons a_t_joining a_t_units a_t_reader a_t_table a_t_table_place a_t_table_told a_t_table_before a_t_table_behind a_t_draft a_t_draft_entries a_t_draft_markBits a_w a_w_clock a_w_board a_w_board_entries a_w_board_markBits n x_t_placeCount x_t_personCount x_t_unitCount y7.2.1 y7.2.2.1 y7.2.2.2.1 y7.2.2.2.2.1 y7.2.2.2.2.2.1 x_t_draft_entries x_t_draft_markBits x_w_number y7.2.2.2.2.2.2.1 x_w_helpCount y7.2.2.2.2.2.2.2.1 y7.2.2.2.2.2.2.2.2) := hD
                refine lv_pop hx hb d_PS_tellDraft_56 rfl ?_
                refine lv_iinc (v := (l28_3 + (1 : Int32))) (lv' := [(3, .int (l28_3 + (1 : Int32))), (0, .ref a_t), (1, .ref a_w), (2, .int l28_2)]) hx hb d_PS_tellDraft_57 hl (k := 3) rfl rfl (by decide) rfl (fun ls hl => ?_)
                refine lv_goto (tgt := 28) hx hb d_PS_tellDraft_60 (by decide) ?_
                exact ih28 l28_2 (l28_3 + (1 : Int32)) y7.2.1 y7.2.2.1 y7.2.2.2.1 y7.2.2.2.2.1 y7.2.2.2.2.2.1 y7.2.2.2.2.2.2.1 y7.2.2.2.2.2.2.2.1 y7.2.2.2.2.2.2.2.2 _ _ _ h hP hD hS (lv_sub hl [1, 2, 3, 0] rfl)
        exact L28 fu l2_2 (1 : Int32) y3.2.1 y3.2.2.1 y3.2.2.2.1 y3.2.2.2.2.1 y3.2.2.2.2.2.1 y3.2.2.2.2.2.2.1 y3.2.2.2.2.2.2.2.1 y3.2.2.2.2.2.2.2.2 _ _ _ h hP hD hS (lv_sub hl [1, 2, 3, 0] rfl)
  exact L2 fu (0 : Int32) x_t_table_count x_t_table_place x_t_table_told x_t_table_before x_t_table_behind x_w_present x_w_board_entries x_w_board_markBits _ _ _ h hP hD hS (lv_sub hl [1, 2, 0] rfl)
end
