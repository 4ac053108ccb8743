section
-- ===== PART A: goes FIRST, ahead of the names: the tables' words, and 'selects' of the private methods out of them =====
/-- a private method of a class that the tables say can be made, by its rows of tables_1 -/
def lw_okq (q : MethodName × Nat) : Prop := (q.1.cls ≠ "java/lang/invoke/MethodHandle" ∧ q.1.cls ≠ "java/lang/invoke/VarHandle") ∧ Cond.instantiable q.1.cls q.2 ∈ tables_1 ∧ Cond.privateMethod q.1 ∈ tables_1 ∧ Cond.instanceMethod q.1 ∈ tables_1
theorem lw_p0 : lw_okq (⟨"PlayStates", "hasRoomForPerson", "()Z"⟩, 10) := ⟨⟨by decide +kernel, by decide +kernel⟩, List.mem_of_getElem? (i := 12) (by decide +kernel), List.mem_of_getElem? (i := 132) (by decide +kernel), List.mem_of_getElem? (i := 133) (by decide +kernel)⟩
theorem lw_p1 : lw_okq (⟨"PlayStates", "addPerson", "()LPlayStates$Person;"⟩, 10) := ⟨⟨by decide +kernel, by decide +kernel⟩, List.mem_of_getElem? (i := 12) (by decide +kernel), List.mem_of_getElem? (i := 136) (by decide +kernel), List.mem_of_getElem? (i := 137) (by decide +kernel)⟩
theorem lw_p2 : lw_okq (⟨"PlayStates", "find", "(I)LPlayStates$Person;"⟩, 10) := ⟨⟨by decide +kernel, by decide +kernel⟩, List.mem_of_getElem? (i := 12) (by decide +kernel), List.mem_of_getElem? (i := 187) (by decide +kernel), List.mem_of_getElem? (i := 188) (by decide +kernel)⟩
theorem lw_p3 : lw_okq (⟨"PlayStates", "isPlace", "(I)Z"⟩, 10) := ⟨⟨by decide +kernel, by decide +kernel⟩, List.mem_of_getElem? (i := 12) (by decide +kernel), List.mem_of_getElem? (i := 191) (by decide +kernel), List.mem_of_getElem? (i := 192) (by decide +kernel)⟩
theorem lw_p4 : lw_okq (⟨"PlayStates", "tell", "(LPlayStates$Person;II)I"⟩, 10) := ⟨⟨by decide +kernel, by decide +kernel⟩, List.mem_of_getElem? (i := 12) (by decide +kernel), List.mem_of_getElem? (i := 198) (by decide +kernel), List.mem_of_getElem? (i := 199) (by decide +kernel)⟩
theorem lw_p5 : lw_okq (⟨"PlayStates", "findPlaceToHelp", "(LPlayStates$Board;)I"⟩, 10) := ⟨⟨by decide +kernel, by decide +kernel⟩, List.mem_of_getElem? (i := 12) (by decide +kernel), List.mem_of_getElem? (i := 276) (by decide +kernel), List.mem_of_getElem? (i := 277) (by decide +kernel)⟩
theorem lw_p6 : lw_okq (⟨"PlayStates", "chooseJoining", "(II)V"⟩, 10) := ⟨⟨by decide +kernel, by decide +kernel⟩, List.mem_of_getElem? (i := 12) (by decide +kernel), List.mem_of_getElem? (i := 310) (by decide +kernel), List.mem_of_getElem? (i := 311) (by decide +kernel)⟩
theorem lw_p7 : lw_okq (⟨"PlayStates", "countJoined", "()I"⟩, 10) := ⟨⟨by decide +kernel, by decide +kernel⟩, List.mem_of_getElem? (i := 12) (by decide +kernel), List.mem_of_getElem? (i := 314) (by decide +kernel), List.mem_of_getElem? (i := 315) (by decide +kernel)⟩
theorem lw_p8 : lw_okq (⟨"PlayStates", "tellJoined", "(LPlayStates$Person;)V"⟩, 10) := ⟨⟨by decide +kernel, by decide +kernel⟩, List.mem_of_getElem? (i := 12) (by decide +kernel), List.mem_of_getElem? (i := 325) (by decide +kernel), List.mem_of_getElem? (i := 326) (by decide +kernel)⟩
theorem lw_p9 : lw_okq (⟨"PlayStates$Board", "findMark", "(II)I"⟩, 2) := ⟨⟨by decide +kernel, by decide +kernel⟩, List.mem_of_getElem? (i := 56) (by decide +kernel), List.mem_of_getElem? (i := 348) (by decide +kernel), List.mem_of_getElem? (i := 349) (by decide +kernel)⟩
theorem lw_p10 : lw_okq (⟨"PlayStates", "readUnits", "()I"⟩, 10) := ⟨⟨by decide +kernel, by decide +kernel⟩, List.mem_of_getElem? (i := 12) (by decide +kernel), List.mem_of_getElem? (i := 360) (by decide +kernel), List.mem_of_getElem? (i := 361) (by decide +kernel)⟩
theorem lw_p11 : lw_okq (⟨"PlayStates$StateReader", "acceptsClosing", "()Z"⟩, 6) := ⟨⟨by decide +kernel, by decide +kernel⟩, List.mem_of_getElem? (i := 72) (by decide +kernel), List.mem_of_getElem? (i := 373) (by decide +kernel), List.mem_of_getElem? (i := 374) (by decide +kernel)⟩
theorem lw_p12 : lw_okq (⟨"PlayStates$StateReader", "acceptsMark", "(I)Z"⟩, 6) := ⟨⟨by decide +kernel, by decide +kernel⟩, List.mem_of_getElem? (i := 72) (by decide +kernel), List.mem_of_getElem? (i := 377) (by decide +kernel), List.mem_of_getElem? (i := 378) (by decide +kernel)⟩
theorem lw_p13 : lw_okq (⟨"PlayStates$StateReader", "acceptsOpening", "()Z"⟩, 6) := ⟨⟨by decide +kernel, by decide +kernel⟩, List.mem_of_getElem? (i := 72) (by decide +kernel), List.mem_of_getElem? (i := 383) (by decide +kernel), List.mem_of_getElem? (i := 384) (by decide +kernel)⟩
theorem lw_p14 : lw_okq (⟨"PlayStates$StateReader", "acceptsEntry", "(I)Z"⟩, 6) := ⟨⟨by decide +kernel, by decide +kernel⟩, List.mem_of_getElem? (i := 72) (by decide +kernel), List.mem_of_getElem? (i := 387) (by decide +kernel), List.mem_of_getElem? (i := 388) (by decide +kernel)⟩
theorem lw_p15 : lw_okq (⟨"PlayStates", "tellDraft", "(LPlayStates$Person;)V"⟩, 10) := ⟨⟨by decide +kernel, by decide +kernel⟩, List.mem_of_getElem? (i := 12) (by decide +kernel), List.mem_of_getElem? (i := 399) (by decide +kernel), List.mem_of_getElem? (i := 400) (by decide +kernel)⟩
def lw_privs_1 : List (MethodName × Nat) := [(⟨"PlayStates", "hasRoomForPerson", "()Z"⟩, 10), (⟨"PlayStates", "addPerson", "()LPlayStates$Person;"⟩, 10), (⟨"PlayStates", "find", "(I)LPlayStates$Person;"⟩, 10), (⟨"PlayStates", "isPlace", "(I)Z"⟩, 10), (⟨"PlayStates", "tell", "(LPlayStates$Person;II)I"⟩, 10), (⟨"PlayStates", "findPlaceToHelp", "(LPlayStates$Board;)I"⟩, 10), (⟨"PlayStates", "chooseJoining", "(II)V"⟩, 10), (⟨"PlayStates", "countJoined", "()I"⟩, 10), (⟨"PlayStates", "tellJoined", "(LPlayStates$Person;)V"⟩, 10), (⟨"PlayStates$Board", "findMark", "(II)I"⟩, 2), (⟨"PlayStates", "readUnits", "()I"⟩, 10), (⟨"PlayStates$StateReader", "acceptsClosing", "()Z"⟩, 6), (⟨"PlayStates$StateReader", "acceptsMark", "(I)Z"⟩, 6), (⟨"PlayStates$StateReader", "acceptsOpening", "()Z"⟩, 6), (⟨"PlayStates$StateReader", "acceptsEntry", "(I)Z"⟩, 6), (⟨"PlayStates", "tellDraft", "(LPlayStates$Person;)V"⟩, 10)]
theorem lw_r1 : ∀ q ∈ lw_privs_1, lw_okq q := List.forall_mem_cons.mpr ⟨lw_p0, List.forall_mem_cons.mpr ⟨lw_p1, List.forall_mem_cons.mpr ⟨lw_p2, List.forall_mem_cons.mpr ⟨lw_p3, List.forall_mem_cons.mpr ⟨lw_p4, List.forall_mem_cons.mpr ⟨lw_p5, List.forall_mem_cons.mpr ⟨lw_p6, List.forall_mem_cons.mpr ⟨lw_p7, List.forall_mem_cons.mpr ⟨lw_p8, List.forall_mem_cons.mpr ⟨lw_p9, List.forall_mem_cons.mpr ⟨lw_p10, List.forall_mem_cons.mpr ⟨lw_p11, List.forall_mem_cons.mpr ⟨lw_p12, List.forall_mem_cons.mpr ⟨lw_p13, List.forall_mem_cons.mpr ⟨lw_p14, List.forall_mem_cons.mpr ⟨lw_p15, fun _ h => absurd h List.not_mem_nil⟩⟩⟩⟩⟩⟩⟩⟩⟩⟩⟩⟩⟩⟩⟩⟩
theorem lw_p16 : lw_okq (⟨"PlayStatesModel", "newPerson", "()I"⟩, 25) := ⟨⟨by decide +kernel, by decide +kernel⟩, List.mem_of_getElem? (i := 411) (by decide +kernel), List.mem_of_getElem? (i := 499) (by decide +kernel), List.mem_of_getElem? (i := 500) (by decide +kernel)⟩
theorem lw_p17 : lw_okq (⟨"PlayStatesModel", "isPerson", "(I)Z"⟩, 25) := ⟨⟨by decide +kernel, by decide +kernel⟩, List.mem_of_getElem? (i := 411) (by decide +kernel), List.mem_of_getElem? (i := 507) (by decide +kernel), List.mem_of_getElem? (i := 508) (by decide +kernel)⟩
theorem lw_p18 : lw_okq (⟨"PlayStatesModel", "isPlace", "(I)Z"⟩, 25) := ⟨⟨by decide +kernel, by decide +kernel⟩, List.mem_of_getElem? (i := 411) (by decide +kernel), List.mem_of_getElem? (i := 511) (by decide +kernel), List.mem_of_getElem? (i := 512) (by decide +kernel)⟩
theorem lw_p19 : lw_okq (⟨"PlayStatesModel", "addRow", "(III)I"⟩, 25) := ⟨⟨by decide +kernel, by decide +kernel⟩, List.mem_of_getElem? (i := 411) (by decide +kernel), List.mem_of_getElem? (i := 515) (by decide +kernel), List.mem_of_getElem? (i := 516) (by decide +kernel)⟩
theorem lw_p20 : lw_okq (⟨"PlayStatesModel", "act", "(III)V"⟩, 25) := ⟨⟨by decide +kernel, by decide +kernel⟩, List.mem_of_getElem? (i := 411) (by decide +kernel), List.mem_of_getElem? (i := 519) (by decide +kernel), List.mem_of_getElem? (i := 520) (by decide +kernel)⟩
theorem lw_p21 : lw_okq (⟨"PlayStatesModel", "branch", "(II)I"⟩, 25) := ⟨⟨by decide +kernel, by decide +kernel⟩, List.mem_of_getElem? (i := 411) (by decide +kernel), List.mem_of_getElem? (i := 535) (by decide +kernel), List.mem_of_getElem? (i := 536) (by decide +kernel)⟩
theorem lw_p22 : lw_okq (⟨"PlayStatesModel", "mayTell", "(IJ)Z"⟩, 25) := ⟨⟨by decide +kernel, by decide +kernel⟩, List.mem_of_getElem? (i := 411) (by decide +kernel), List.mem_of_getElem? (i := 571) (by decide +kernel), List.mem_of_getElem? (i := 572) (by decide +kernel)⟩
theorem lw_p23 : lw_okq (⟨"PlayStatesModel", "countedTo", "(IJ)J"⟩, 25) := ⟨⟨by decide +kernel, by decide +kernel⟩, List.mem_of_getElem? (i := 411) (by decide +kernel), List.mem_of_getElem? (i := 575) (by decide +kernel), List.mem_of_getElem? (i := 576) (by decide +kernel)⟩
theorem lw_p24 : lw_okq (⟨"PlayStatesModel", "walk", "(I)V"⟩, 25) := ⟨⟨by decide +kernel, by decide +kernel⟩, List.mem_of_getElem? (i := 411) (by decide +kernel), List.mem_of_getElem? (i := 587) (by decide +kernel), List.mem_of_getElem? (i := 588) (by decide +kernel)⟩
theorem lw_p25 : lw_okq (⟨"PlayStatesModel", "changes", "(I)Z"⟩, 25) := ⟨⟨by decide +kernel, by decide +kernel⟩, List.mem_of_getElem? (i := 411) (by decide +kernel), List.mem_of_getElem? (i := 591) (by decide +kernel), List.mem_of_getElem? (i := 592) (by decide +kernel)⟩
theorem lw_p26 : lw_okq (⟨"PlayStatesModel", "say", "(I)V"⟩, 25) := ⟨⟨by decide +kernel, by decide +kernel⟩, List.mem_of_getElem? (i := 411) (by decide +kernel), List.mem_of_getElem? (i := 599) (by decide +kernel), List.mem_of_getElem? (i := 600) (by decide +kernel)⟩
theorem lw_p27 : lw_okq (⟨"PlayStatesModel", "parse", "()I"⟩, 25) := ⟨⟨by decide +kernel, by decide +kernel⟩, List.mem_of_getElem? (i := 411) (by decide +kernel), List.mem_of_getElem? (i := 611) (by decide +kernel), List.mem_of_getElem? (i := 612) (by decide +kernel)⟩
theorem lw_p28 : lw_okq (⟨"PlayStatesModel", "digitAt", "(I)I"⟩, 25) := ⟨⟨by decide +kernel, by decide +kernel⟩, List.mem_of_getElem? (i := 411) (by decide +kernel), List.mem_of_getElem? (i := 615) (by decide +kernel), List.mem_of_getElem? (i := 616) (by decide +kernel)⟩
theorem lw_p29 : lw_okq (⟨"PlayStatesModel", "byteAt", "(I)I"⟩, 25) := ⟨⟨by decide +kernel, by decide +kernel⟩, List.mem_of_getElem? (i := 411) (by decide +kernel), List.mem_of_getElem? (i := 619) (by decide +kernel), List.mem_of_getElem? (i := 620) (by decide +kernel)⟩
def lw_privs_2 : List (MethodName × Nat) := [(⟨"PlayStatesModel", "newPerson", "()I"⟩, 25), (⟨"PlayStatesModel", "isPerson", "(I)Z"⟩, 25), (⟨"PlayStatesModel", "isPlace", "(I)Z"⟩, 25), (⟨"PlayStatesModel", "addRow", "(III)I"⟩, 25), (⟨"PlayStatesModel", "act", "(III)V"⟩, 25), (⟨"PlayStatesModel", "branch", "(II)I"⟩, 25), (⟨"PlayStatesModel", "mayTell", "(IJ)Z"⟩, 25), (⟨"PlayStatesModel", "countedTo", "(IJ)J"⟩, 25), (⟨"PlayStatesModel", "walk", "(I)V"⟩, 25), (⟨"PlayStatesModel", "changes", "(I)Z"⟩, 25), (⟨"PlayStatesModel", "say", "(I)V"⟩, 25), (⟨"PlayStatesModel", "parse", "()I"⟩, 25), (⟨"PlayStatesModel", "digitAt", "(I)I"⟩, 25), (⟨"PlayStatesModel", "byteAt", "(I)I"⟩, 25)]
theorem lw_r2 : ∀ q ∈ lw_privs_2, lw_okq q := List.forall_mem_cons.mpr ⟨lw_p16, List.forall_mem_cons.mpr ⟨lw_p17, List.forall_mem_cons.mpr ⟨lw_p18, List.forall_mem_cons.mpr ⟨lw_p19, List.forall_mem_cons.mpr ⟨lw_p20, List.forall_mem_cons.mpr ⟨lw_p21, List.forall_mem_cons.mpr ⟨lw_p22, List.forall_mem_cons.mpr ⟨lw_p23, List.forall_mem_cons.mpr ⟨lw_p24, List.forall_mem_cons.mpr ⟨lw_p25, List.forall_mem_cons.mpr ⟨lw_p26, List.forall_mem_cons.mpr ⟨lw_p27, List.forall_mem_cons.mpr ⟨lw_p28, List.forall_mem_cons.mpr ⟨lw_p29, fun _ h => absurd h List.not_mem_nil⟩⟩⟩⟩⟩⟩⟩⟩⟩⟩⟩⟩⟩⟩
def lw_privs : List (MethodName × Nat) := lw_privs_1 ++ (lw_privs_2)
def lw_tbl : List Cond := k2_sels lw_privs ++ tables_1
theorem lw_privs_ok : ∀ q ∈ lw_privs, lw_okq q := by
  show ∀ q ∈ lw_privs_1 ++ (lw_privs_2), lw_okq q
  exact List.forall_mem_append.mpr ⟨lw_r1, lw_r2⟩
end
section
def TBd : u_T := fun k => match k with
  | 0 => ("PlayStates$Board", "entries", "[I", true)
  | _ => ("PlayStates$Board", "markBits", "[I", true)
def tyBd : Nat → FieldType := fun k => match k with
  | 0 => .array .int
  | _ => .array .int
theorem nmBd : ∀ a, a < 2 → ∀ b, b < 2 → a ≠ b → (TBd a).2.1 ≠ (TBd b).2.1 := by decide +kernel
theorem tyBd_ok : ∀ k, k < 2 → parseFieldDescriptor (TBd k).2.2.1 = some (tyBd k) := by decide +kernel
def TCk : u_T := fun k => match k with
  | 0 => ("PlayStates$Clock", "running", "Z", false)
  | 1 => ("PlayStates$Clock", "lastTold", "J", false)
  | _ => ("PlayStates$Clock", "counted", "J", false)
def tyCk : Nat → FieldType := fun k => match k with
  | 0 => .boolean
  | 1 => .long
  | _ => .long
theorem nmCk : ∀ a, a < 3 → ∀ b, b < 3 → a ≠ b → (TCk a).2.1 ≠ (TCk b).2.1 := by decide +kernel
theorem tyCk_ok : ∀ k, k < 3 → parseFieldDescriptor (TCk k).2.2.1 = some (tyCk k) := by decide +kernel
def TPn : u_T := fun k => match k with
  | 0 => ("PlayStates$Person", "number", "I", true)
  | 1 => ("PlayStates$Person", "board", "LPlayStates$Board;", true)
  | 2 => ("PlayStates$Person", "clock", "LPlayStates$Clock;", true)
  | 3 => ("PlayStates$Person", "present", "I", false)
  | _ => ("PlayStates$Person", "helpCount", "I", false)
def tyPn : Nat → FieldType := fun k => match k with
  | 0 => .int
  | 1 => .object "PlayStates$Board"
  | 2 => .object "PlayStates$Clock"
  | 3 => .int
  | _ => .int
theorem nmPn : ∀ a, a < 5 → ∀ b, b < 5 → a ≠ b → (TPn a).2.1 ≠ (TPn b).2.1 := by decide +kernel
theorem tyPn_ok : ∀ k, k < 5 → parseFieldDescriptor (TPn k).2.2.1 = some (tyPn k) := by decide +kernel
def TRt : u_T := fun k => match k with
  | 0 => ("PlayStates$RowTable", "place", "[I", true)
  | 1 => ("PlayStates$RowTable", "told", "[I", true)
  | 2 => ("PlayStates$RowTable", "before", "[I", true)
  | 3 => ("PlayStates$RowTable", "behind", "[I", true)
  | _ => ("PlayStates$RowTable", "count", "I", false)
def tyRt : Nat → FieldType := fun k => match k with
  | 0 => .array .int
  | 1 => .array .int
  | 2 => .array .int
  | 3 => .array .int
  | _ => .int
theorem nmRt : ∀ a, a < 5 → ∀ b, b < 5 → a ≠ b → (TRt a).2.1 ≠ (TRt b).2.1 := by decide +kernel
theorem tyRt_ok : ∀ k, k < 5 → parseFieldDescriptor (TRt k).2.2.1 = some (tyRt k) := by decide +kernel
def TSr : u_T := fun k => match k with
  | 0 => ("PlayStates$StateReader", "board", "LPlayStates$Board;", true)
  | 1 => ("PlayStates$StateReader", "placeCount", "I", true)
  | 2 => ("PlayStates$StateReader", "placesRead", "I", false)
  | 3 => ("PlayStates$StateReader", "mayOpen", "Z", false)
  | 4 => ("PlayStates$StateReader", "open", "Z", false)
  | _ => ("PlayStates$StateReader", "lastMark", "I", false)
def tySr : Nat → FieldType := fun k => match k with
  | 0 => .object "PlayStates$Board"
  | 1 => .int
  | 2 => .int
  | 3 => .boolean
  | 4 => .boolean
  | _ => .int
theorem nmSr : ∀ a, a < 6 → ∀ b, b < 6 → a ≠ b → (TSr a).2.1 ≠ (TSr b).2.1 := by decide +kernel
theorem tySr_ok : ∀ k, k < 6 → parseFieldDescriptor (TSr k).2.2.1 = some (tySr k) := by decide +kernel
def TPS : u_T := fun k => match k with
  | 0 => ("PlayStates", "placeCount", "I", true)
  | 1 => ("PlayStates", "right", "[I", true)
  | 2 => ("PlayStates", "persons", "[LPlayStates$Person;", true)
  | 3 => ("PlayStates", "personCount", "I", false)
  | 4 => ("PlayStates", "table", "LPlayStates$RowTable;", true)
  | 5 => ("PlayStates", "joining", "[Z", true)
  | 6 => ("PlayStates", "units", "[I", true)
  | 7 => ("PlayStates", "unitCount", "I", false)
  | 8 => ("PlayStates", "draft", "LPlayStates$Board;", true)
  | _ => ("PlayStates", "reader", "LPlayStates$StateReader;", true)
def tyPS : Nat → FieldType := fun k => match k with
  | 0 => .int
  | 1 => .array .int
  | 2 => .array (.object "PlayStates$Person")
  | 3 => .int
  | 4 => .object "PlayStates$RowTable"
  | 5 => .array .boolean
  | 6 => .array .int
  | 7 => .int
  | 8 => .object "PlayStates$Board"
  | _ => .object "PlayStates$StateReader"
theorem nmPS : ∀ a, a < 10 → ∀ b, b < 10 → a ≠ b → (TPS a).2.1 ≠ (TPS b).2.1 := by decide +kernel
theorem tyPS_ok : ∀ k, k < 10 → parseFieldDescriptor (TPS k).2.2.1 = some (tyPS k) := by decide +kernel
def TMd : u_T := fun k => match k with
  | 0 => ("PlayStatesModel", "thrown", "I", false)
  | 1 => ("PlayStatesModel", "places", "I", true)
  | 2 => ("PlayStatesModel", "persons", "I", false)
  | 3 => ("PlayStatesModel", "truth", "[I", true)
  | 4 => ("PlayStatesModel", "entries", "[I", true)
  | 5 => ("PlayStatesModel", "marked", "[I", true)
  | 6 => ("PlayStatesModel", "present", "[I", true)
  | 7 => ("PlayStatesModel", "helped", "[I", true)
  | 8 => ("PlayStatesModel", "counted", "[J", true)
  | 9 => ("PlayStatesModel", "told", "[J", true)
  | 10 => ("PlayStatesModel", "runs", "[Z", true)
  | 11 => ("PlayStatesModel", "many", "I", false)
  | 12 => ("PlayStatesModel", "whose", "[I", true)
  | 13 => ("PlayStatesModel", "where", "[I", true)
  | 14 => ("PlayStatesModel", "what", "[I", true)
  | 15 => ("PlayStatesModel", "before", "[I", true)
  | 16 => ("PlayStatesModel", "behind", "[I", true)
  | 17 => ("PlayStatesModel", "isOn", "[Z", true)
  | 18 => ("PlayStatesModel", "tryEntries", "[I", true)
  | 19 => ("PlayStatesModel", "tryMarks", "[I", true)
  | 20 => ("PlayStatesModel", "size", "I", false)
  | 21 => ("PlayStatesModel", "text", "[I", true)
  | 22 => ("PlayStatesModel", "at", "I", false)
  | 23 => ("PlayStatesModel", "sought", "I", false)
  | _ => ("PlayStatesModel", "found", "I", false)
def tyMd : Nat → FieldType := fun k => match k with
  | 0 => .int
  | 1 => .int
  | 2 => .int
  | 3 => .array .int
  | 4 => .array .int
  | 5 => .array .int
  | 6 => .array .int
  | 7 => .array .int
  | 8 => .array .long
  | 9 => .array .long
  | 10 => .array .boolean
  | 11 => .int
  | 12 => .array .int
  | 13 => .array .int
  | 14 => .array .int
  | 15 => .array .int
  | 16 => .array .int
  | 17 => .array .boolean
  | 18 => .array .int
  | 19 => .array .int
  | 20 => .int
  | 21 => .array .int
  | 22 => .int
  | 23 => .int
  | _ => .int
theorem nmMd : ∀ a, a < 25 → ∀ b, b < 25 → a ≠ b → (TMd a).2.1 ≠ (TMd b).2.1 := by decide +kernel
theorem tyMd_ok : ∀ k, k < 25 → parseFieldDescriptor (TMd k).2.2.1 = some (tyMd k) := by decide +kernel
abbrev vwCl : List vw_C := [("PlayStates$Board", TBd, 2), ("PlayStates$Clock", TCk, 3), ("PlayStates$Person", TPn, 5), ("PlayStates$RowTable", TRt, 5), ("PlayStates$StateReader", TSr, 6), ("PlayStates", TPS, 10), ("PlayStatesModel", TMd, 25)]
/-- the words of the tables that last -/
def GW : List Cond := lw_tbl.filter goodWord
theorem gT {w : Cond} (i : Nat) (h : tables_1[i]? = some w) (hg : goodWord w = true) : w ∈ GW := List.mem_filter.mpr ⟨List.mem_append_right _ (List.mem_of_getElem? h), hg⟩
theorem gP {w : Cond} (i : Nat) (h : (k2_sels lw_privs)[i]? = some w) (hg : goodWord w = true) : w ∈ GW := List.mem_filter.mpr ⟨List.mem_append_left _ (List.mem_of_getElem? h), hg⟩
theorem GW_in : ∀ w ∈ GW, w ∈ lw_tbl := fun w h => (List.mem_filter.mp h).1
theorem gWm {w : Cond} (h : w ∈ GW) : w ∈ GW ∧ ((w.onTables && w.keeps) = true ∨ ∃ ty, w = .arrayClass ty) := ⟨h, good_of_word (List.mem_filter.mp h).2⟩
theorem gC {cd : Cond} (h5 : cd ∈ GW) : GoodIn GW (cd :: GW) := fun w hw => by
  rcases List.mem_cons.mp hw with rfl | h
  · exact gWm h5
  · exact gWm h
theorem gV {own C : String} {idx : Nat} {y : MethodName} {cd : Cond} (h1 : Cond.methodLink own idx y ∈ GW) (h2 : Cond.instanceMethod y ∈ GW) (h3 : Cond.selects C y y ∈ GW) (h4 : Cond.initialized C ∈ GW) (h5 : cd ∈ GW) : GoodIn GW (wsV own idx C y (cd :: GW)) := fun w hw => by
  rcases List.mem_append.mp hw with h | h
  · rcases List.mem_cons.mp h with rfl | h
    · exact gWm h1
    rcases List.mem_cons.mp h with rfl | h
    · exact gWm h2
    rcases List.mem_cons.mp h with rfl | h
    · exact gWm h3
    rcases List.mem_cons.mp h with rfl | h
    · exact gWm h4
    · exact absurd h List.not_mem_nil
  · exact gC h5 w h
theorem gS {own : String} {idx : Nat} {y : MethodName} {cd : Cond} (h1 : Cond.methodLink own idx y ∈ GW) (h2 : Cond.static y ∈ GW) (h4 : Cond.initialized own ∈ GW) (h5 : cd ∈ GW) : GoodIn GW (wsS own idx y (cd :: GW)) := fun w hw => by
  rcases List.mem_append.mp hw with h | h
  · rcases List.mem_cons.mp h with rfl | h
    · exact gWm h1
    rcases List.mem_cons.mp h with rfl | h
    · exact gWm h2
    rcases List.mem_cons.mp h with rfl | h
    · exact gWm h4
    · exact absurd h List.not_mem_nil
  · exact gC h5 w h
def nwF : List (String × Nat × String × String × String × String) := [("PlayStates", 102, "PlayStates$RowTable", "place", "[I", "PlayStates"), ("PlayStates", 118, "PlayStates$RowTable", "told", "[I", "PlayStates"), ("PlayStates", 105, "PlayStates$RowTable", "before", "[I", "PlayStates"), ("PlayStates", 112, "PlayStates$RowTable", "behind", "[I", "PlayStates"), ("PlayStates", 197, "PlayStates$RowTable", "count", "I", "PlayStates"), ("PlayStates", 125, "PlayStates$Board", "entries", "[I", "PlayStates"), ("PlayStates", 128, "PlayStates$Board", "markBits", "[I", "PlayStates"), ("PlayStates", 72, "PlayStates$Person", "number", "I", "PlayStates"), ("PlayStates", 99, "PlayStates$Person", "board", "LPlayStates$Board;", "PlayStates"), ("PlayStates", 142, "PlayStates$Person", "clock", "LPlayStates$Clock;", "PlayStates"), ("PlayStates", 93, "PlayStates$Person", "present", "I", "PlayStates"), ("PlayStates", 139, "PlayStates$Person", "helpCount", "I", "PlayStates")]
def nwM : List (String × Nat × MethodName × String) := [("PlayStates$Person", 24, ⟨"PlayStates$Clock", "<init>", "()V"⟩, "PlayStates"), ("PlayStates$StateReader", 51, ⟨"PlayStates", "isOneToNine", "(I)Z"⟩, "PlayStates")]
abbrev y_PS_init : MethodName := ⟨"PlayStates", "<init>", "(I)V"⟩
abbrev w_PS_init : List Cond := Cond.code y_PS_init prog_1_method_1_code 2 none :: GW
abbrev y_PS_person : MethodName := ⟨"PlayStates", "person", "()I"⟩
abbrev w_PS_person : List Cond := Cond.code y_PS_person prog_1_method_2_code 1 ((some .int)) :: GW
abbrev y_PS_enter : MethodName := ⟨"PlayStates", "enter", "(III)I"⟩
abbrev w_PS_enter : List Cond := Cond.code y_PS_enter prog_1_method_3_code 5 ((some .int)) :: GW
abbrev y_PS_mark : MethodName := ⟨"PlayStates", "mark", "(IIIZ)I"⟩
abbrev w_PS_mark : List Cond := Cond.code y_PS_mark prog_1_method_4_code 6 ((some .int)) :: GW
abbrev y_PS_undo : MethodName := ⟨"PlayStates", "undo", "(I)I"⟩
abbrev w_PS_undo : List Cond := Cond.code y_PS_undo prog_1_method_5_code 4 ((some .int)) :: GW
abbrev y_PS_redo : MethodName := ⟨"PlayStates", "redo", "(II)I"⟩
abbrev w_PS_redo : List Cond := Cond.code y_PS_redo prog_1_method_6_code 5 ((some .int)) :: GW
abbrev y_PS_branches : MethodName := ⟨"PlayStates", "branches", "(I)I"⟩
abbrev w_PS_branches : List Cond := Cond.code y_PS_branches prog_1_method_7_code 3 ((some .int)) :: GW
abbrev y_PS_at : MethodName := ⟨"PlayStates", "at", "(II)I"⟩
abbrev w_PS_at : List Cond := Cond.code y_PS_at prog_1_method_8_code 4 ((some .int)) :: GW
abbrev y_PS_marks : MethodName := ⟨"PlayStates", "marks", "(II)I"⟩
abbrev w_PS_marks : List Cond := Cond.code y_PS_marks prog_1_method_9_code 4 ((some .int)) :: GW
abbrev y_PS_truth : MethodName := ⟨"PlayStates", "truth", "(II)Z"⟩
abbrev w_PS_truth : List Cond := Cond.code y_PS_truth prog_1_method_10_code 3 ((some .boolean)) :: GW
abbrev y_PS_wrong : MethodName := ⟨"PlayStates", "wrong", "(I)I"⟩
abbrev w_PS_wrong : List Cond := Cond.code y_PS_wrong prog_1_method_11_code 5 ((some .int)) :: GW
abbrev y_PS_help : MethodName := ⟨"PlayStates", "help", "(I)I"⟩
abbrev w_PS_help : List Cond := Cond.code y_PS_help prog_1_method_12_code 4 ((some .int)) :: GW
abbrev y_PS_helps : MethodName := ⟨"PlayStates", "helps", "(I)I"⟩
abbrev w_PS_helps : List Cond := Cond.code y_PS_helps prog_1_method_13_code 3 ((some .int)) :: GW
abbrev y_PS_timer : MethodName := ⟨"PlayStates", "timer", "(IJZ)Z"⟩
abbrev w_PS_timer : List Cond := Cond.code y_PS_timer prog_1_method_14_code 6 ((some .boolean)) :: GW
abbrev y_PS_time : MethodName := ⟨"PlayStates", "time", "(IJ)J"⟩
abbrev w_PS_time : List Cond := Cond.code y_PS_time prog_1_method_15_code 5 ((some .long)) :: GW
abbrev y_PS_join : MethodName := ⟨"PlayStates", "join", "(II)I"⟩
abbrev w_PS_join : List Cond := Cond.code y_PS_join prog_1_method_16_code 6 ((some .int)) :: GW
abbrev y_PS_save : MethodName := ⟨"PlayStates", "save", "(II)I"⟩
abbrev w_PS_save : List Cond := Cond.code y_PS_save prog_1_method_17_code 7 ((some .int)) :: GW
abbrev y_PS_unit : MethodName := ⟨"PlayStates", "unit", "(I)Z"⟩
abbrev w_PS_unit : List Cond := Cond.code y_PS_unit prog_1_method_18_code 2 ((some .boolean)) :: GW
abbrev y_PS_load : MethodName := ⟨"PlayStates", "load", "()I"⟩
abbrev w_PS_load : List Cond := Cond.code y_PS_load prog_1_method_19_code 4 ((some .int)) :: GW
abbrev y_PS_rows : MethodName := ⟨"PlayStates", "rows", "()I"⟩
abbrev w_PS_rows : List Cond := Cond.code y_PS_rows prog_1_method_20_code 1 ((some .int)) :: GW
abbrev y_PS_isZeroToNine : MethodName := ⟨"PlayStates", "isZeroToNine", "(I)Z"⟩
abbrev w_PS_isZeroToNine : List Cond := Cond.code y_PS_isZeroToNine prog_1_method_21_code 1 ((some .boolean)) :: GW
abbrev y_PS_isOneToNine : MethodName := ⟨"PlayStates", "isOneToNine", "(I)Z"⟩
abbrev w_PS_isOneToNine : List Cond := Cond.code y_PS_isOneToNine prog_1_method_22_code 1 ((some .boolean)) :: GW
abbrev y_PS_isWrong : MethodName := ⟨"PlayStates", "isWrong", "(II)Z"⟩
abbrev w_PS_isWrong : List Cond := Cond.code y_PS_isWrong prog_1_method_23_code 2 ((some .boolean)) :: GW
abbrev y_PS_isPlace : MethodName := ⟨"PlayStates", "isPlace", "(I)Z"⟩
abbrev w_PS_isPlace : List Cond := Cond.code y_PS_isPlace prog_1_method_24_code 2 ((some .boolean)) :: GW
abbrev y_PS_find : MethodName := ⟨"PlayStates", "find", "(I)LPlayStates$Person;"⟩
abbrev w_PS_find : List Cond := Cond.code y_PS_find prog_1_method_25_code 2 ((some (.object "PlayStates$Person"))) :: GW
abbrev y_PS_hasRoomForPerson : MethodName := ⟨"PlayStates", "hasRoomForPerson", "()Z"⟩
abbrev w_PS_hasRoomForPerson : List Cond := Cond.code y_PS_hasRoomForPerson prog_1_method_26_code 1 ((some .boolean)) :: GW
abbrev y_PS_addPerson : MethodName := ⟨"PlayStates", "addPerson", "()LPlayStates$Person;"⟩
abbrev w_PS_addPerson : List Cond := Cond.code y_PS_addPerson prog_1_method_27_code 2 ((some (.object "PlayStates$Person"))) :: GW
abbrev y_PS_tell : MethodName := ⟨"PlayStates", "tell", "(LPlayStates$Person;II)I"⟩
abbrev w_PS_tell : List Cond := Cond.code y_PS_tell prog_1_method_28_code 5 ((some .int)) :: GW
abbrev y_PS_findPlaceToHelp : MethodName := ⟨"PlayStates", "findPlaceToHelp", "(LPlayStates$Board;)I"⟩
abbrev w_PS_findPlaceToHelp : List Cond := Cond.code y_PS_findPlaceToHelp prog_1_method_29_code 3 ((some .int)) :: GW
abbrev y_PS_chooseJoining : MethodName := ⟨"PlayStates", "chooseJoining", "(II)V"⟩
abbrev w_PS_chooseJoining : List Cond := Cond.code y_PS_chooseJoining prog_1_method_30_code 6 none :: GW
abbrev y_PS_countJoined : MethodName := ⟨"PlayStates", "countJoined", "()I"⟩
abbrev w_PS_countJoined : List Cond := Cond.code y_PS_countJoined prog_1_method_31_code 5 ((some .int)) :: GW
abbrev y_PS_tellJoined : MethodName := ⟨"PlayStates", "tellJoined", "(LPlayStates$Person;)V"⟩
abbrev w_PS_tellJoined : List Cond := Cond.code y_PS_tellJoined prog_1_method_32_code 4 none :: GW
abbrev y_PS_readUnits : MethodName := ⟨"PlayStates", "readUnits", "()I"⟩
abbrev w_PS_readUnits : List Cond := Cond.code y_PS_readUnits prog_1_method_33_code 2 ((some .int)) :: GW
abbrev y_PS_tellDraft : MethodName := ⟨"PlayStates", "tellDraft", "(LPlayStates$Person;)V"⟩
abbrev w_PS_tellDraft : List Cond := Cond.code y_PS_tellDraft prog_1_method_34_code 4 none :: GW
abbrev y_Md_init : MethodName := ⟨"PlayStatesModel", "<init>", "(I)V"⟩
abbrev w_Md_init : List Cond := Cond.code y_Md_init prog_8_method_1_code 3 none :: GW
abbrev y_Md_isPerson : MethodName := ⟨"PlayStatesModel", "isPerson", "(I)Z"⟩
abbrev w_Md_isPerson : List Cond := Cond.code y_Md_isPerson prog_8_method_3_code 2 ((some .boolean)) :: GW
abbrev y_Md_isPlace : MethodName := ⟨"PlayStatesModel", "isPlace", "(I)Z"⟩
abbrev w_Md_isPlace : List Cond := Cond.code y_Md_isPlace prog_8_method_4_code 2 ((some .boolean)) :: GW
abbrev y_Md_person : MethodName := ⟨"PlayStatesModel", "person", "()I"⟩
abbrev w_Md_person : List Cond := Cond.code y_Md_person prog_8_method_5_code 1 ((some .int)) :: GW
abbrev y_Md_newPerson : MethodName := ⟨"PlayStatesModel", "newPerson", "()I"⟩
abbrev w_Md_newPerson : List Cond := Cond.code y_Md_newPerson prog_8_method_6_code 1 ((some .int)) :: GW
abbrev y_Md_act : MethodName := ⟨"PlayStatesModel", "act", "(III)V"⟩
abbrev w_Md_act : List Cond := Cond.code y_Md_act prog_8_method_7_code 5 none :: GW
abbrev y_Md_addRow : MethodName := ⟨"PlayStatesModel", "addRow", "(III)I"⟩
abbrev w_Md_addRow : List Cond := Cond.code y_Md_addRow prog_8_method_8_code 4 ((some .int)) :: GW
abbrev y_Md_enter : MethodName := ⟨"PlayStatesModel", "enter", "(III)I"⟩
abbrev w_Md_enter : List Cond := Cond.code y_Md_enter prog_8_method_9_code 4 ((some .int)) :: GW
abbrev y_Md_mark : MethodName := ⟨"PlayStatesModel", "mark", "(IIIZ)I"⟩
abbrev w_Md_mark : List Cond := Cond.code y_Md_mark prog_8_method_10_code 6 ((some .int)) :: GW
abbrev y_Md_undo : MethodName := ⟨"PlayStatesModel", "undo", "(I)I"⟩
abbrev w_Md_undo : List Cond := Cond.code y_Md_undo prog_8_method_11_code 4 ((some .int)) :: GW
abbrev y_Md_branch : MethodName := ⟨"PlayStatesModel", "branch", "(II)I"⟩
abbrev w_Md_branch : List Cond := Cond.code y_Md_branch prog_8_method_12_code 5 ((some .int)) :: GW
abbrev y_Md_redo : MethodName := ⟨"PlayStatesModel", "redo", "(II)I"⟩
abbrev w_Md_redo : List Cond := Cond.code y_Md_redo prog_8_method_13_code 4 ((some .int)) :: GW
abbrev y_Md_branches : MethodName := ⟨"PlayStatesModel", "branches", "(I)I"⟩
abbrev w_Md_branches : List Cond := Cond.code y_Md_branches prog_8_method_14_code 2 ((some .int)) :: GW
abbrev y_Md_at : MethodName := ⟨"PlayStatesModel", "at", "(II)I"⟩
abbrev w_Md_at : List Cond := Cond.code y_Md_at prog_8_method_15_code 3 ((some .int)) :: GW
abbrev y_Md_marks : MethodName := ⟨"PlayStatesModel", "marks", "(II)I"⟩
abbrev w_Md_marks : List Cond := Cond.code y_Md_marks prog_8_method_16_code 3 ((some .int)) :: GW
abbrev y_Md_truth : MethodName := ⟨"PlayStatesModel", "truth", "(II)Z"⟩
abbrev w_Md_truth : List Cond := Cond.code y_Md_truth prog_8_method_17_code 3 ((some .boolean)) :: GW
abbrev y_Md_wrong : MethodName := ⟨"PlayStatesModel", "wrong", "(I)I"⟩
abbrev w_Md_wrong : List Cond := Cond.code y_Md_wrong prog_8_method_18_code 5 ((some .int)) :: GW
abbrev y_Md_help : MethodName := ⟨"PlayStatesModel", "help", "(I)I"⟩
abbrev w_Md_help : List Cond := Cond.code y_Md_help prog_8_method_19_code 3 ((some .int)) :: GW
abbrev y_Md_helps : MethodName := ⟨"PlayStatesModel", "helps", "(I)I"⟩
abbrev w_Md_helps : List Cond := Cond.code y_Md_helps prog_8_method_20_code 2 ((some .int)) :: GW
abbrev y_Md_mayTell : MethodName := ⟨"PlayStatesModel", "mayTell", "(IJ)Z"⟩
abbrev w_Md_mayTell : List Cond := Cond.code y_Md_mayTell prog_8_method_21_code 4 ((some .boolean)) :: GW
abbrev y_Md_countedTo : MethodName := ⟨"PlayStatesModel", "countedTo", "(IJ)J"⟩
abbrev w_Md_countedTo : List Cond := Cond.code y_Md_countedTo prog_8_method_22_code 4 ((some .long)) :: GW
abbrev y_Md_timer : MethodName := ⟨"PlayStatesModel", "timer", "(IJZ)Z"⟩
abbrev w_Md_timer : List Cond := Cond.code y_Md_timer prog_8_method_23_code 5 ((some .boolean)) :: GW
abbrev y_Md_time : MethodName := ⟨"PlayStatesModel", "time", "(IJ)J"⟩
abbrev w_Md_time : List Cond := Cond.code y_Md_time prog_8_method_24_code 4 ((some .long)) :: GW
abbrev y_Md_walk : MethodName := ⟨"PlayStatesModel", "walk", "(I)V"⟩
abbrev w_Md_walk : List Cond := Cond.code y_Md_walk prog_8_method_25_code 3 none :: GW
abbrev y_Md_changes : MethodName := ⟨"PlayStatesModel", "changes", "(I)Z"⟩
abbrev w_Md_changes : List Cond := Cond.code y_Md_changes prog_8_method_26_code 5 ((some .boolean)) :: GW
abbrev y_Md_join : MethodName := ⟨"PlayStatesModel", "join", "(II)I"⟩
abbrev w_Md_join : List Cond := Cond.code y_Md_join prog_8_method_27_code 7 ((some .int)) :: GW
abbrev y_Md_say : MethodName := ⟨"PlayStatesModel", "say", "(I)V"⟩
abbrev w_Md_say : List Cond := Cond.code y_Md_say prog_8_method_28_code 2 none :: GW
abbrev y_Md_save : MethodName := ⟨"PlayStatesModel", "save", "(II)I"⟩
abbrev w_Md_save : List Cond := Cond.code y_Md_save prog_8_method_29_code 7 ((some .int)) :: GW
abbrev y_Md_unit : MethodName := ⟨"PlayStatesModel", "unit", "(I)Z"⟩
abbrev w_Md_unit : List Cond := Cond.code y_Md_unit prog_8_method_30_code 2 ((some .boolean)) :: GW
abbrev y_Md_byteAt : MethodName := ⟨"PlayStatesModel", "byteAt", "(I)I"⟩
abbrev w_Md_byteAt : List Cond := Cond.code y_Md_byteAt prog_8_method_31_code 2 ((some .int)) :: GW
abbrev y_Md_digitAt : MethodName := ⟨"PlayStatesModel", "digitAt", "(I)I"⟩
abbrev w_Md_digitAt : List Cond := Cond.code y_Md_digitAt prog_8_method_32_code 2 ((some .int)) :: GW
abbrev y_Md_parse : MethodName := ⟨"PlayStatesModel", "parse", "()I"⟩
abbrev w_Md_parse : List Cond := Cond.code y_Md_parse prog_8_method_33_code 4 ((some .int)) :: GW
abbrev y_Md_load : MethodName := ⟨"PlayStatesModel", "load", "()I"⟩
abbrev w_Md_load : List Cond := Cond.code y_Md_load prog_8_method_34_code 6 ((some .int)) :: GW
abbrev y_Md_rows : MethodName := ⟨"PlayStatesModel", "rows", "()I"⟩
abbrev w_Md_rows : List Cond := Cond.code y_Md_rows prog_8_method_35_code 1 ((some .int)) :: GW
abbrev y_Bd_init : MethodName := ⟨"PlayStates$Board", "<init>", "(I)V"⟩
abbrev w_Bd_init : List Cond := Cond.code y_Bd_init prog_2_method_1_code 2 none :: GW
abbrev y_Bd_clear : MethodName := ⟨"PlayStates$Board", "clear", "()V"⟩
abbrev w_Bd_clear : List Cond := Cond.code y_Bd_clear prog_2_method_2_code 1 none :: GW
abbrev y_Bd_hasMark : MethodName := ⟨"PlayStates$Board", "hasMark", "(II)Z"⟩
abbrev w_Bd_hasMark : List Cond := Cond.code y_Bd_hasMark prog_2_method_3_code 3 ((some .boolean)) :: GW
abbrev y_Bd_asItIs : MethodName := ⟨"PlayStates$Board", "asItIs", "(II)I"⟩
abbrev w_Bd_asItIs : List Cond := Cond.code y_Bd_asItIs prog_2_method_4_code 4 ((some .int)) :: GW
abbrev y_Bd_put : MethodName := ⟨"PlayStates$Board", "put", "(II)V"⟩
abbrev w_Bd_put : List Cond := Cond.code y_Bd_put prog_2_method_5_code 3 none :: GW
abbrev y_Bd_countRowsNeeded : MethodName := ⟨"PlayStates$Board", "countRowsNeeded", "()I"⟩
abbrev w_Bd_countRowsNeeded : List Cond := Cond.code y_Bd_countRowsNeeded prog_2_method_6_code 3 ((some .int)) :: GW
abbrev y_Bd_textSize : MethodName := ⟨"PlayStates$Board", "textSize", "(I)I"⟩
abbrev w_Bd_textSize : List Cond := Cond.code y_Bd_textSize prog_2_method_7_code 3 ((some .int)) :: GW
abbrev y_Bd_textByte : MethodName := ⟨"PlayStates$Board", "textByte", "(II)I"⟩
abbrev w_Bd_textByte : List Cond := Cond.code y_Bd_textByte prog_2_method_8_code 3 ((some .int)) :: GW
abbrev y_Bd_findMark : MethodName := ⟨"PlayStates$Board", "findMark", "(II)I"⟩
abbrev w_Bd_findMark : List Cond := Cond.code y_Bd_findMark prog_2_method_9_code 5 ((some .int)) :: GW
abbrev y_Ck_init : MethodName := ⟨"PlayStates$Clock", "<init>", "()V"⟩
abbrev w_Ck_init : List Cond := Cond.code y_Ck_init prog_3_method_1_code 1 none :: GW
abbrev y_Ck_mayBeTold : MethodName := ⟨"PlayStates$Clock", "mayBeTold", "(J)Z"⟩
abbrev w_Ck_mayBeTold : List Cond := Cond.code y_Ck_mayBeTold prog_3_method_2_code 3 ((some .boolean)) :: GW
abbrev y_Ck_countUpTo : MethodName := ⟨"PlayStates$Clock", "countUpTo", "(J)J"⟩
abbrev w_Ck_countUpTo : List Cond := Cond.code y_Ck_countUpTo prog_3_method_3_code 3 ((some .long)) :: GW
abbrev y_Ck_tellTime : MethodName := ⟨"PlayStates$Clock", "tellTime", "(JZ)V"⟩
abbrev w_Ck_tellTime : List Cond := Cond.code y_Ck_tellTime prog_3_method_4_code 4 none :: GW
abbrev y_Pn_init : MethodName := ⟨"PlayStates$Person", "<init>", "(II)V"⟩
abbrev w_Pn_init : List Cond := Cond.code y_Pn_init prog_4_method_1_code 3 none :: GW
abbrev y_Rt_init : MethodName := ⟨"PlayStates$RowTable", "<init>", "()V"⟩
abbrev w_Rt_init : List Cond := Cond.code y_Rt_init prog_5_method_1_code 1 none :: GW
abbrev y_Rt_holds : MethodName := ⟨"PlayStates$RowTable", "holds", "(I)Z"⟩
abbrev w_Rt_holds : List Cond := Cond.code y_Rt_holds prog_5_method_2_code 2 ((some .boolean)) :: GW
abbrev y_Rt_hasRoomFor : MethodName := ⟨"PlayStates$RowTable", "hasRoomFor", "(I)Z"⟩
abbrev w_Rt_hasRoomFor : List Cond := Cond.code y_Rt_hasRoomFor prog_5_method_3_code 2 ((some .boolean)) :: GW
abbrev y_Rt_add : MethodName := ⟨"PlayStates$RowTable", "add", "(IIII)I"⟩
abbrev w_Rt_add : List Cond := Cond.code y_Rt_add prog_5_method_4_code 6 ((some .int)) :: GW
abbrev y_Rt_countBranches : MethodName := ⟨"PlayStates$RowTable", "countBranches", "(I)I"⟩
abbrev w_Rt_countBranches : List Cond := Cond.code y_Rt_countBranches prog_5_method_5_code 4 ((some .int)) :: GW
abbrev y_Rt_findBranch : MethodName := ⟨"PlayStates$RowTable", "findBranch", "(II)I"⟩
abbrev w_Rt_findBranch : List Cond := Cond.code y_Rt_findBranch prog_5_method_6_code 5 ((some .int)) :: GW
abbrev y_Sr_init : MethodName := ⟨"PlayStates$StateReader", "<init>", "(LPlayStates$Board;I)V"⟩
abbrev w_Sr_init : List Cond := Cond.code y_Sr_init prog_6_method_1_code 3 none :: GW
abbrev y_Sr_begin : MethodName := ⟨"PlayStates$StateReader", "begin", "()V"⟩
abbrev w_Sr_begin : List Cond := Cond.code y_Sr_begin prog_6_method_2_code 1 none :: GW
abbrev y_Sr_accepts : MethodName := ⟨"PlayStates$StateReader", "accepts", "(I)Z"⟩
abbrev w_Sr_accepts : List Cond := Cond.code y_Sr_accepts prog_6_method_3_code 2 ((some .boolean)) :: GW
abbrev y_Sr_isWhole : MethodName := ⟨"PlayStates$StateReader", "isWhole", "()Z"⟩
abbrev w_Sr_isWhole : List Cond := Cond.code y_Sr_isWhole prog_6_method_4_code 1 ((some .boolean)) :: GW
abbrev y_Sr_acceptsOpening : MethodName := ⟨"PlayStates$StateReader", "acceptsOpening", "()Z"⟩
abbrev w_Sr_acceptsOpening : List Cond := Cond.code y_Sr_acceptsOpening prog_6_method_5_code 1 ((some .boolean)) :: GW
abbrev y_Sr_acceptsClosing : MethodName := ⟨"PlayStates$StateReader", "acceptsClosing", "()Z"⟩
abbrev w_Sr_acceptsClosing : List Cond := Cond.code y_Sr_acceptsClosing prog_6_method_6_code 1 ((some .boolean)) :: GW
abbrev y_Sr_acceptsMark : MethodName := ⟨"PlayStates$StateReader", "acceptsMark", "(I)Z"⟩
abbrev w_Sr_acceptsMark : List Cond := Cond.code y_Sr_acceptsMark prog_6_method_7_code 2 ((some .boolean)) :: GW
abbrev y_Sr_acceptsEntry : MethodName := ⟨"PlayStates$StateReader", "acceptsEntry", "(I)Z"⟩
abbrev w_Sr_acceptsEntry : List Cond := Cond.code y_Sr_acceptsEntry prog_6_method_8_code 3 ((some .boolean)) :: GW
abbrev y_Lw_cell : MethodName := ⟨"PlayStatesLaw", "cell", "([II)I"⟩
abbrev w_Lw_cell : List Cond := Cond.code y_Lw_cell method_2_code 2 ((some .int)) :: GW
abbrev y_Jn_bitCount : MethodName := ⟨"java/lang/Integer", "bitCount", "(I)I"⟩
abbrev w_Jn_bitCount : List Cond := Cond.code y_Jn_bitCount prog_9_method_49_code 1 ((some .int)) :: GW
abbrev y_Jm_max : MethodName := ⟨"java/lang/Math", "max", "(II)I"⟩
abbrev w_Jm_max : List Cond := Cond.code y_Jm_max prog_10_method_65_code 2 ((some .int)) :: GW
abbrev y_Jm_min : MethodName := ⟨"java/lang/Math", "min", "(II)I"⟩
abbrev w_Jm_min : List Cond := Cond.code y_Jm_min prog_10_method_69_code 2 ((some .int)) :: GW
abbrev y_Ja_fill : MethodName := ⟨"java/util/Arrays", "fill", "([II)V"⟩
abbrev w_Ja_fill : List Cond := Cond.code y_Ja_fill prog_11_method_103_code 4 none :: GW
theorem iw_0 : ∀ w ∈ u_ws "PlayStates$Board" TBd 2, w ∈ GW := by
  show ∀ w ∈ [u_lay "PlayStates$Board" TBd 0, u_lay "PlayStates$Board" TBd 1], w ∈ GW
  exact List.forall_mem_cons.mpr ⟨gT 65 (by decide +kernel) (by decide +kernel), List.forall_mem_cons.mpr ⟨gT 67 (by decide +kernel) (by decide +kernel), fun _ h => absurd h List.not_mem_nil⟩⟩
theorem iw_1 : ∀ w ∈ u_ws "PlayStates$Clock" TCk 3, w ∈ GW := by
  show ∀ w ∈ [u_lay "PlayStates$Clock" TCk 0, u_lay "PlayStates$Clock" TCk 1, u_lay "PlayStates$Clock" TCk 2], w ∈ GW
  exact List.forall_mem_cons.mpr ⟨gT 155 (by decide +kernel) (by decide +kernel), List.forall_mem_cons.mpr ⟨gT 157 (by decide +kernel) (by decide +kernel), List.forall_mem_cons.mpr ⟨gT 159 (by decide +kernel) (by decide +kernel), fun _ h => absurd h List.not_mem_nil⟩⟩⟩
theorem iw_2 : ∀ w ∈ u_ws "PlayStates$Person" TPn 5, w ∈ GW := by
  show ∀ w ∈ [u_lay "PlayStates$Person" TPn 0, u_lay "PlayStates$Person" TPn 1, u_lay "PlayStates$Person" TPn 2, u_lay "PlayStates$Person" TPn 3, u_lay "PlayStates$Person" TPn 4], w ∈ GW
  exact List.forall_mem_cons.mpr ⟨gT 171 (by decide +kernel) (by decide +kernel), List.forall_mem_cons.mpr ⟨gT 173 (by decide +kernel) (by decide +kernel), List.forall_mem_cons.mpr ⟨gT 175 (by decide +kernel) (by decide +kernel), List.forall_mem_cons.mpr ⟨gT 177 (by decide +kernel) (by decide +kernel), List.forall_mem_cons.mpr ⟨gT 179 (by decide +kernel) (by decide +kernel), fun _ h => absurd h List.not_mem_nil⟩⟩⟩⟩⟩
theorem iw_3 : ∀ w ∈ u_ws "PlayStates$RowTable" TRt 5, w ∈ GW := by
  show ∀ w ∈ [u_lay "PlayStates$RowTable" TRt 0, u_lay "PlayStates$RowTable" TRt 1, u_lay "PlayStates$RowTable" TRt 2, u_lay "PlayStates$RowTable" TRt 3, u_lay "PlayStates$RowTable" TRt 4], w ∈ GW
  exact List.forall_mem_cons.mpr ⟨gT 43 (by decide +kernel) (by decide +kernel), List.forall_mem_cons.mpr ⟨gT 45 (by decide +kernel) (by decide +kernel), List.forall_mem_cons.mpr ⟨gT 47 (by decide +kernel) (by decide +kernel), List.forall_mem_cons.mpr ⟨gT 49 (by decide +kernel) (by decide +kernel), List.forall_mem_cons.mpr ⟨gT 51 (by decide +kernel) (by decide +kernel), fun _ h => absurd h List.not_mem_nil⟩⟩⟩⟩⟩
theorem iw_4 : ∀ w ∈ u_ws "PlayStates$StateReader" TSr 6, w ∈ GW := by
  show ∀ w ∈ [u_lay "PlayStates$StateReader" TSr 0, u_lay "PlayStates$StateReader" TSr 1, u_lay "PlayStates$StateReader" TSr 2, u_lay "PlayStates$StateReader" TSr 3, u_lay "PlayStates$StateReader" TSr 4, u_lay "PlayStates$StateReader" TSr 5], w ∈ GW
  exact List.forall_mem_cons.mpr ⟨gT 83 (by decide +kernel) (by decide +kernel), List.forall_mem_cons.mpr ⟨gT 85 (by decide +kernel) (by decide +kernel), List.forall_mem_cons.mpr ⟨gT 87 (by decide +kernel) (by decide +kernel), List.forall_mem_cons.mpr ⟨gT 89 (by decide +kernel) (by decide +kernel), List.forall_mem_cons.mpr ⟨gT 91 (by decide +kernel) (by decide +kernel), List.forall_mem_cons.mpr ⟨gT 93 (by decide +kernel) (by decide +kernel), fun _ h => absurd h List.not_mem_nil⟩⟩⟩⟩⟩⟩
theorem iw_5 : ∀ w ∈ u_ws "PlayStates" TPS 10, w ∈ GW := by
  show ∀ w ∈ [u_lay "PlayStates" TPS 0, u_lay "PlayStates" TPS 1, u_lay "PlayStates" TPS 2, u_lay "PlayStates" TPS 3, u_lay "PlayStates" TPS 4, u_lay "PlayStates" TPS 5, u_lay "PlayStates" TPS 6, u_lay "PlayStates" TPS 7, u_lay "PlayStates" TPS 8, u_lay "PlayStates" TPS 9], w ∈ GW
  exact List.forall_mem_cons.mpr ⟨gT 106 (by decide +kernel) (by decide +kernel), List.forall_mem_cons.mpr ⟨gT 108 (by decide +kernel) (by decide +kernel), List.forall_mem_cons.mpr ⟨gT 110 (by decide +kernel) (by decide +kernel), List.forall_mem_cons.mpr ⟨gT 112 (by decide +kernel) (by decide +kernel), List.forall_mem_cons.mpr ⟨gT 114 (by decide +kernel) (by decide +kernel), List.forall_mem_cons.mpr ⟨gT 116 (by decide +kernel) (by decide +kernel), List.forall_mem_cons.mpr ⟨gT 118 (by decide +kernel) (by decide +kernel), List.forall_mem_cons.mpr ⟨gT 120 (by decide +kernel) (by decide +kernel), List.forall_mem_cons.mpr ⟨gT 122 (by decide +kernel) (by decide +kernel), List.forall_mem_cons.mpr ⟨gT 124 (by decide +kernel) (by decide +kernel), fun _ h => absurd h List.not_mem_nil⟩⟩⟩⟩⟩⟩⟩⟩⟩⟩
theorem iw_6 : ∀ w ∈ u_ws "PlayStatesModel" TMd 25, w ∈ GW := by
  show ∀ w ∈ [u_lay "PlayStatesModel" TMd 0, u_lay "PlayStatesModel" TMd 1, u_lay "PlayStatesModel" TMd 2, u_lay "PlayStatesModel" TMd 3, u_lay "PlayStatesModel" TMd 4, u_lay "PlayStatesModel" TMd 5, u_lay "PlayStatesModel" TMd 6, u_lay "PlayStatesModel" TMd 7, u_lay "PlayStatesModel" TMd 8, u_lay "PlayStatesModel" TMd 9, u_lay "PlayStatesModel" TMd 10, u_lay "PlayStatesModel" TMd 11, u_lay "PlayStatesModel" TMd 12, u_lay "PlayStatesModel" TMd 13, u_lay "PlayStatesModel" TMd 14, u_lay "PlayStatesModel" TMd 15, u_lay "PlayStatesModel" TMd 16, u_lay "PlayStatesModel" TMd 17, u_lay "PlayStatesModel" TMd 18, u_lay "PlayStatesModel" TMd 19, u_lay "PlayStatesModel" TMd 20, u_lay "PlayStatesModel" TMd 21, u_lay "PlayStatesModel" TMd 22, u_lay "PlayStatesModel" TMd 23, u_lay "PlayStatesModel" TMd 24], w ∈ GW
  exact List.forall_mem_cons.mpr ⟨gT 442 (by decide +kernel) (by decide +kernel), List.forall_mem_cons.mpr ⟨gT 444 (by decide +kernel) (by decide +kernel), List.forall_mem_cons.mpr ⟨gT 446 (by decide +kernel) (by decide +kernel), List.forall_mem_cons.mpr ⟨gT 448 (by decide +kernel) (by decide +kernel), List.forall_mem_cons.mpr ⟨gT 450 (by decide +kernel) (by decide +kernel), List.forall_mem_cons.mpr ⟨gT 452 (by decide +kernel) (by decide +kernel), List.forall_mem_cons.mpr ⟨gT 454 (by decide +kernel) (by decide +kernel), List.forall_mem_cons.mpr ⟨gT 456 (by decide +kernel) (by decide +kernel), List.forall_mem_cons.mpr ⟨gT 458 (by decide +kernel) (by decide +kernel), List.forall_mem_cons.mpr ⟨gT 460 (by decide +kernel) (by decide +kernel), List.forall_mem_cons.mpr ⟨gT 462 (by decide +kernel) (by decide +kernel), List.forall_mem_cons.mpr ⟨gT 464 (by decide +kernel) (by decide +kernel), List.forall_mem_cons.mpr ⟨gT 466 (by decide +kernel) (by decide +kernel), List.forall_mem_cons.mpr ⟨gT 468 (by decide +kernel) (by decide +kernel), List.forall_mem_cons.mpr ⟨gT 470 (by decide +kernel) (by decide +kernel), List.forall_mem_cons.mpr ⟨gT 472 (by decide +kernel) (by decide +kernel), List.forall_mem_cons.mpr ⟨gT 474 (by decide +kernel) (by decide +kernel), List.forall_mem_cons.mpr ⟨gT 476 (by decide +kernel) (by decide +kernel), List.forall_mem_cons.mpr ⟨gT 478 (by decide +kernel) (by decide +kernel), List.forall_mem_cons.mpr ⟨gT 480 (by decide +kernel) (by decide +kernel), List.forall_mem_cons.mpr ⟨gT 482 (by decide +kernel) (by decide +kernel), List.forall_mem_cons.mpr ⟨gT 484 (by decide +kernel) (by decide +kernel), List.forall_mem_cons.mpr ⟨gT 486 (by decide +kernel) (by decide +kernel), List.forall_mem_cons.mpr ⟨gT 488 (by decide +kernel) (by decide +kernel), List.forall_mem_cons.mpr ⟨gT 490 (by decide +kernel) (by decide +kernel), fun _ h => absurd h List.not_mem_nil⟩⟩⟩⟩⟩⟩⟩⟩⟩⟩⟩⟩⟩⟩⟩⟩⟩⟩⟩⟩⟩⟩⟩⟩⟩
end
section
/-! base: one shape of contract for every method; its calls, its returns -/
abbrev gG : Type := va_G × (Nat → ClassId)
/-- the array classes: int[], boolean[], long[], Person[] -/
def tyL (G : gG) : List (ClassId × FieldType) := [(G.2 0, .int), (G.2 1, .boolean), (G.2 2, .long), (G.2 3, .object "PlayStates$Person")]
/-- private members of nest mates -/
def nW (U : State) : Prop := (∀ x ∈ nwF, va_Nw (.fieldLinkNest x.1 x.2.1 x.2.2.1 x.2.2.2.1 x.2.2.2.2.1 x.2.2.2.2.2) U) ∧ (∀ x ∈ nwM, va_Nw (.methodLinkNest x.1 x.2.1 x.2.2.1 x.2.2.2) U) ∧ va_AO "PlayStates$Person" U
theorem nW_warm {s U : State} (hW : s.WarmedH U.vm) (h : nW s) : nW U := ⟨fun x hx => va_Nw.warmF hW (h.1 x hx), fun x hx => va_Nw.warmM hW (h.2.1 x hx), va_AO.moved hW.alike h.2.2⟩
theorem nW_same {s U : State} (hv : s.vm = U.vm) (h : nW s) : nW U := ⟨fun x hx => va_Nw.same rfl hv (h.1 x hx), fun x hx => va_Nw.same rfl hv (h.2.1 x hx), va_AO.moved (by rw [hv]; exact Vm.Alike.refl _) h.2.2⟩
def kK (G : gG) (U : State) : Prop := va_K G.1 vwCl (tyL G) U ∧ nW U
theorem kK_warm {G : gG} {s U : State} (hW : s.WarmedH U.vm) (h : kK G s) : kK G U := ⟨va_K.moved hW.alike h.1, nW_warm hW h.2⟩
theorem kK_same {G : gG} {s U : State} (hv : s.vm = U.vm) (h : kK G s) : kK G U := ⟨va_K.moved (by rw [hv]; exact Vm.Alike.refl _) h.1, nW_same hv h.2⟩
/-- a method's start: its world, the tables -/
def pP (G : gG) (sz : Nat) (av : List Value) (ws : va_W) : Array Value → State → Prop := va_Pc av (fun U => U.heap.size = sz ∧ va_P G.1 vwCl ws U.heap ∧ kK G U ∧ va_D (fun _ => True) ws)
/-- a method's end whose answer is known -/
def qQ (rv : Option Value) (B : Heap → Prop) (A : Nat → Prop) : Array Value → State → Outcome → State → Prop := fun _ st oc t => oc = .returned rv ∧ B t.heap ∧ va_F A st t
/-- the world behind it -/
abbrev wB (G : gG) (ws : va_W) (A : Nat → Prop) (H : Heap) : Prop := va_P G.1 vwCl ws H ∧ va_D A ws
abbrev cN (l : Launch) (y : MethodName) (ww : List Cond) (rm : Room) (G : gG) (sz : Nat) (av : List Value) (ws : va_W) (rv : Option Value) (B : (Nat → Prop) → Heap → Prop) (mc ms : Nat) : Prop :=
  Met l y ww rm (pP G sz av ws) (qQ rv (B (va_A ws sz)) (va_A ws sz)) mc ms (va_A ws sz)
theorem cN_ofW {l : Launch} {y : MethodName} {ww : List Cond} {rm : Room} {G : gG} {sz : Nat} {av : List Value} {ws : va_W} {rv : Option Value} {B : (Nat → Prop) → Heap → Prop} {mc ms : Nat} {cc : ByteArray} {maxL : Nat} {ret : Option FieldType}
    (hy : plainName y.cls = true) (hw : ww = Cond.code y cc maxL ret :: GW) (hle : (lg_sl av).length ≤ maxL)
    (body : ∀ (p : Program) (e : Env) (s : State) (m : MethodId) (args : Array Value) (below : List Frame) (meth : Method) (c : Code) (A : Nat → Prop) (H : Heap) (locs : List Loc) (ls : Array Slot), p.tables.exec = Jvm.exec → c.code = cc → meth.sig.returnType = ret → (∀ w ∈ GW, w.before args s = true) → s.vm.findClass y.cls = some m.cls → meth.locks = false → meth.name = y.name → c.maxLocals = maxL → va_K G.1 vwCl (tyL G) s → nW s → va_P G.1 vwCl ws H → va_D A ws → (∀ q : Nat, s.heap.size ≤ q → A q) → va_S A s.heap H locs → lv_has ls maxL (lv_args 0 av) →
      W p l e rm s m args below meth c H locs 0 0 (MQ below (qQ rv (B A) A) args s mc ms A) (F0 m 0 ls [])) : cN l y ww rm G sz av ws rv B mc ms := by
  refine Met.ofW (cc := cc) (maxL := maxL) (ret := ret) hy hw ?_
  intro p e s m args below meth c s₁ Bd hml hv
  obtain ⟨rfl, hsz, hP, hK, hD0⟩ := hv
  have hts : ∀ w ∈ GW, w.before _ s = true := fun w h => atoms_spec (ws := ww) Bd.pre w (by rw [hw]; exact List.mem_cons_of_mem _ h)
  subst hsz
  have hl := lv_entry av (n := maxL) hle
  rw [lg_entry_eq]
  exact body p e s m _ below meth c (va_A ws s.heap.size) s.heap [] _ Bd.exec Bd.bytes Bd.returns hts (findClass_of_methodNamed Bd.named) Bd.notSynchronized (name_of_methodNamed Bd.named Bd.method).1 hml hK.1 hK.2 hP (hD0.self (sz := s.heap.size)) (fun q h => Or.inr h) va_S.rf hl
/-- an end whose answer comes with the world -/
def qE (B : Option Value → Heap → Prop) (A : Nat → Prop) : Array Value → State → Outcome → State → Prop := fun _ st oc t => ∃ rv, oc = .returned rv ∧ B rv t.heap ∧ va_F A st t
abbrev cE (l : Launch) (y : MethodName) (ww : List Cond) (rm : Room) (G : gG) (sz : Nat) (av : List Value) (ws : va_W) (B : Option Value → (Nat → Prop) → Heap → Prop) (mc ms : Nat) : Prop :=
  Met l y ww rm (pP G sz av ws) (qE (fun rv => B rv (va_A ws sz)) (va_A ws sz)) mc ms (va_A ws sz)
theorem cE_ofW {l : Launch} {y : MethodName} {ww : List Cond} {rm : Room} {G : gG} {sz : Nat} {av : List Value} {ws : va_W} {B : Option Value → (Nat → Prop) → Heap → Prop} {mc ms : Nat} {cc : ByteArray} {maxL : Nat} {ret : Option FieldType}
    (hy : plainName y.cls = true) (hw : ww = Cond.code y cc maxL ret :: GW) (hle : (lg_sl av).length ≤ maxL)
    (body : ∀ (p : Program) (e : Env) (s : State) (m : MethodId) (args : Array Value) (below : List Frame) (meth : Method) (c : Code) (A : Nat → Prop) (H : Heap) (locs : List Loc) (ls : Array Slot), p.tables.exec = Jvm.exec → c.code = cc → meth.sig.returnType = ret → (∀ w ∈ GW, w.before args s = true) → s.vm.findClass y.cls = some m.cls → meth.locks = false → meth.name = y.name → c.maxLocals = maxL → va_K G.1 vwCl (tyL G) s → nW s → va_P G.1 vwCl ws H → va_D A ws → (∀ q : Nat, s.heap.size ≤ q → A q) → va_S A s.heap H locs → lv_has ls maxL (lv_args 0 av) →
      W p l e rm s m args below meth c H locs 0 0 (MQ below (qE (fun rv => B rv A) A) args s mc ms A) (F0 m 0 ls [])) : cE l y ww rm G sz av ws B mc ms := by
  refine Met.ofW (cc := cc) (maxL := maxL) (ret := ret) hy hw ?_
  intro p e s m args below meth c s₁ Bd hml hv
  obtain ⟨rfl, hsz, hP, hK, hD0⟩ := hv
  have hts : ∀ w ∈ GW, w.before _ s = true := fun w h => atoms_spec (ws := ww) Bd.pre w (by rw [hw]; exact List.mem_cons_of_mem _ h)
  subst hsz
  have hl := lv_entry av (n := maxL) hle
  rw [lg_entry_eq]
  exact body p e s m _ below meth c (va_A ws s.heap.size) s.heap [] _ Bd.exec Bd.bytes Bd.returns hts (findClass_of_methodNamed Bd.named) Bd.notSynchronized (name_of_methodNamed Bd.named Bd.method).1 hml hK.1 hK.2 hP (hD0.self (sz := s.heap.size)) (fun q h => Or.inr h) va_S.rf hl
section QQ
variable {p : Program} {l : Launch} {e : Env} {R : Room} {s : State} {m : MethodId} {args : Array Value} {below : List Frame} {meth : Method} {c : Code} {H : Heap} {locs : List Loc} {cells slots : Nat} {Q : State → Prop}
variable {pc : Nat} {ls : Array Slot} {rest st0 : List Value} {a : Array Value} {A0 A1 : Nat → Prop} {H0 : Heap} {mc ms : Nat} {free : Addr → Prop}
theorem q_call {rv : Option Value} {B : Heap → Prop} (hr : va_Run p l e R s m args below meth c H locs cells slots mc ms (F0 m pc ls st0) rest (qQ rv B A1 a) free) (hS : va_S A0 H0 H locs) (hA : ∀ q, q < H.size → A1 q → A0 q) (hf : ∀ q, free q → A0 q)
    (kk : ∀ (H1 : Heap) (locs1 : List Loc), B H1 → H.size ≤ H1.size → (∀ q : Nat, q < H.size → ¬ A1 q → H1[q]? = H[q]?) → va_S A0 H0 H1 locs1 → W p l e R s m args below meth c H1 locs1 (cells + mc) (slots + ms) Q (F0 m (pc + 3) ls (rv.toList ++ rest))) : W p l e R s m args below meth c H locs cells slots Q (F0 m pc ls st0) := by
  intro T hT X
  obtain ⟨v, st₀, t, T', L, h0, X', hL, e1, e2, ⟨hv, hb, hz, hk⟩, st⟩ := hr T hT X
  cases hv
  rw [h0] at hz hk
  obtain ⟨t2, a1, b1⟩ := kk T'.heap (locs ++ L) (by rw [e1]; exact hb) (by rw [e1]; exact hz) (fun q h1 h2 => by rw [e1]; exact hk q h1 h2)
    ⟨Nat.le_trans hS.1 (by rw [e1]; exact hz), fun q h1 h2 => by rw [e1, hk q (Nat.lt_of_lt_of_le h1 hS.1) (fun z => h2 (hA q (Nat.lt_of_lt_of_le h1 hS.1) z))]; exact hS.2.1 q h1 h2, fun q hq => by
      rcases List.mem_append.mp hq with h | h
      · exact hS.2.2 q h
      · exact hf _ (hL q h)⟩ T' rfl X'
  exact ⟨t2, st t2 a1, b1⟩
theorem q_call1 {v : Value} {B : Heap → Prop} (hr : va_Run p l e R s m args below meth c H locs cells slots mc ms (F0 m pc ls st0) rest (qQ (some v) B A1 a) free) (hS : va_S A0 H0 H locs) (hA : ∀ q, q < H.size → A1 q → A0 q) (hf : ∀ q, free q → A0 q)
    (kk : ∀ (H1 : Heap) (locs1 : List Loc), B H1 → H.size ≤ H1.size → (∀ q : Nat, q < H.size → ¬ A1 q → H1[q]? = H[q]?) → va_S A0 H0 H1 locs1 → W p l e R s m args below meth c H1 locs1 (cells + mc) (slots + ms) Q (F0 m (pc + 3) ls (v :: rest))) : W p l e R s m args below meth c H locs cells slots Q (F0 m pc ls st0) := q_call hr hS hA hf kk
theorem q_call0 {B : Heap → Prop} (hr : va_Run p l e R s m args below meth c H locs cells slots mc ms (F0 m pc ls st0) rest (qQ none B A1 a) free) (hS : va_S A0 H0 H locs) (hA : ∀ q, q < H.size → A1 q → A0 q) (hf : ∀ q, free q → A0 q)
    (kk : ∀ (H1 : Heap) (locs1 : List Loc), B H1 → H.size ≤ H1.size → (∀ q : Nat, q < H.size → ¬ A1 q → H1[q]? = H[q]?) → va_S A0 H0 H1 locs1 → W p l e R s m args below meth c H1 locs1 (cells + mc) (slots + ms) Q (F0 m (pc + 3) ls rest)) : W p l e R s m args below meth c H locs cells slots Q (F0 m pc ls st0) := q_call hr hS hA hf kk
theorem q_callE {B : Option Value → Heap → Prop} (hr : va_Run p l e R s m args below meth c H locs cells slots mc ms (F0 m pc ls st0) rest (qE B A1 a) free) (hS : va_S A0 H0 H locs) (hA : ∀ q, q < H.size → A1 q → A0 q) (hf : ∀ q, free q → A0 q)
    (kk : ∀ (rv : Option Value) (H1 : Heap) (locs1 : List Loc), B rv H1 → H.size ≤ H1.size → (∀ q : Nat, q < H.size → ¬ A1 q → H1[q]? = H[q]?) → va_S A0 H0 H1 locs1 → W p l e R s m args below meth c H1 locs1 (cells + mc) (slots + ms) Q (F0 m (pc + 3) ls (rv.toList ++ rest))) : W p l e R s m args below meth c H locs cells slots Q (F0 m pc ls st0) := by
  intro T hT X
  obtain ⟨v, st₀, t, T', L, h0, X', hL, e1, e2, ⟨rv, hv, hb, hz, hk⟩, st⟩ := hr T hT X
  cases hv
  rw [h0] at hz hk
  obtain ⟨t2, a1, b1⟩ := kk v T'.heap (locs ++ L) (by rw [e1]; exact hb) (by rw [e1]; exact hz) (fun q h1 h2 => by rw [e1]; exact hk q h1 h2)
    ⟨Nat.le_trans hS.1 (by rw [e1]; exact hz), fun q h1 h2 => by rw [e1, hk q (Nat.lt_of_lt_of_le h1 hS.1) (fun z => h2 (hA q (Nat.lt_of_lt_of_le h1 hS.1) z))]; exact hS.2.1 q h1 h2, fun q hq => by
      rcases List.mem_append.mp hq with h | h
      · exact hS.2.2 q h
      · exact hf _ (hL q h)⟩ T' rfl X'
  exact ⟨t2, st t2 a1, b1⟩
variable {cc : ByteArray} {B : (Nat → Prop) → Heap → Prop} {A : Nat → Prop}
theorem q_aretE {Bv : Option Value → (Nat → Prop) → Heap → Prop} {v : Value} {n : String} (hx : p.tables.exec = Jvm.exec) (hb : c.code = cc) (hr : meth.sig.returnType = some (.object n)) (hlocks : meth.locks = false) (hv : v = .null ∨ ∃ a, v = .ref a) (hB : Bv (some v) A H) (hS : va_S A s.heap H locs) (hdg : decode cc pc = .ok (.areturn, 1)) : W p l e R s m args below meth c H locs cells slots (MQ below (qE (fun rv => Bv rv A) A) args s cells slots A) (F0 m pc ls [v]) :=
  W.aret hx hb hr (Or.inl ⟨n, rfl⟩) hv (fun t ht _ => ⟨_, rfl, by rw [ht]; exact hB, hS.F ht⟩) hS.2.2 hdg hlocks
theorem q_iret {v : Int32} (hx : p.tables.exec = Jvm.exec) (hb : c.code = cc) (hr : meth.sig.returnType = some .int) (hlocks : meth.locks = false) (hB : B A H) (hS : va_S A s.heap H locs) (hdg : decode cc pc = .ok (.ireturn, 1)) : W p l e R s m args below meth c H locs cells slots (MQ below (qQ (some (.int v)) (B A) A) args s cells slots A) (F0 m pc ls [.int v]) :=
  W.iret hx hb hr (fun t ht _ => ⟨rfl, by rw [ht]; exact hB, hS.F ht⟩) hS.2.2 hdg hlocks
theorem q_zret {v : Int32} (hx : p.tables.exec = Jvm.exec) (hb : c.code = cc) (hr : meth.sig.returnType = some .boolean) (hlocks : meth.locks = false) (hn : narrow .boolean (.int v) = .int v) (hB : B A H) (hS : va_S A s.heap H locs) (hdg : decode cc pc = .ok (.ireturn, 1)) : W p l e R s m args below meth c H locs cells slots (MQ below (qQ (some (.int v)) (B A) A) args s cells slots A) (F0 m pc ls [.int v]) :=
  W.zret hx hb hr hn (fun t ht _ => ⟨rfl, by rw [ht]; exact hB, hS.F ht⟩) hS.2.2 hdg hlocks
theorem q_lret {v : Int64} (hx : p.tables.exec = Jvm.exec) (hb : c.code = cc) (hr : meth.sig.returnType = some .long) (hlocks : meth.locks = false) (hB : B A H) (hS : va_S A s.heap H locs) (hdg : decode cc pc = .ok (.lreturn, 1)) : W p l e R s m args below meth c H locs cells slots (MQ below (qQ (some (.long v)) (B A) A) args s cells slots A) (F0 m pc ls [.long v]) :=
  W.lret hx hb hr (fun t ht _ => ⟨rfl, by rw [ht]; exact hB, hS.F ht⟩) hS.2.2 hdg hlocks
theorem q_vret (hx : p.tables.exec = Jvm.exec) (hb : c.code = cc) (hr : meth.sig.returnType = none) (hlocks : meth.locks = false) (hB : B A H) (hS : va_S A s.heap H locs) (hdg : decode cc pc = .ok (.return_, 1)) : W p l e R s m args below meth c H locs cells slots (MQ below (qQ none (B A) A) args s cells slots A) (F0 m pc ls []) :=
  W.vret hx hb hr (fun t ht _ => ⟨rfl, by rw [ht]; exact hB, hS.F ht⟩) hS.2.2 hdg hlocks
theorem q_aret {v : Value} {n : String} (hx : p.tables.exec = Jvm.exec) (hb : c.code = cc) (hr : meth.sig.returnType = some (.object n)) (hlocks : meth.locks = false) (hv : v = .null ∨ ∃ a, v = .ref a) (hB : B A H) (hS : va_S A s.heap H locs) (hdg : decode cc pc = .ok (.areturn, 1)) : W p l e R s m args below meth c H locs cells slots (MQ below (qQ (some v) (B A) A) args s cells slots A) (F0 m pc ls [v]) :=
  W.aret hx hb hr (Or.inl ⟨n, rfl⟩) hv (fun t ht _ => ⟨rfl, by rw [ht]; exact hB, hS.F ht⟩) hS.2.2 hdg hlocks
theorem q_iretW {G : gG} {ws : va_W} {v : Int32} (hx : p.tables.exec = Jvm.exec) (hb : c.code = cc) (hr : meth.sig.returnType = some .int) (hlocks : meth.locks = false) (hP : va_P G.1 vwCl ws H) (hD : va_D A ws) (hS : va_S A s.heap H locs) (hdg : decode cc pc = .ok (.ireturn, 1)) : W p l e R s m args below meth c H locs cells slots (MQ below (qQ (some (.int v)) (wB G ws A) A) args s cells slots A) (F0 m pc ls [.int v]) := q_iret (B := wB G ws) hx hb hr hlocks ⟨hP, hD⟩ hS hdg
theorem q_lretW {G : gG} {ws : va_W} {v : Int64} (hx : p.tables.exec = Jvm.exec) (hb : c.code = cc) (hr : meth.sig.returnType = some .long) (hlocks : meth.locks = false) (hP : va_P G.1 vwCl ws H) (hD : va_D A ws) (hS : va_S A s.heap H locs) (hdg : decode cc pc = .ok (.lreturn, 1)) : W p l e R s m args below meth c H locs cells slots (MQ below (qQ (some (.long v)) (wB G ws A) A) args s cells slots A) (F0 m pc ls [.long v]) := q_lret (B := wB G ws) hx hb hr hlocks ⟨hP, hD⟩ hS hdg
theorem q_vretW {G : gG} {ws : va_W} (hx : p.tables.exec = Jvm.exec) (hb : c.code = cc) (hr : meth.sig.returnType = none) (hlocks : meth.locks = false) (hP : va_P G.1 vwCl ws H) (hD : va_D A ws) (hS : va_S A s.heap H locs) (hdg : decode cc pc = .ok (.return_, 1)) : W p l e R s m args below meth c H locs cells slots (MQ below (qQ none (wB G ws A) A) args s cells slots A) (F0 m pc ls []) := q_vret (B := wB G ws) hx hb hr hlocks ⟨hP, hD⟩ hS hdg
theorem q_zretW {G : gG} {ws : va_W} {v : Int32} (hx : p.tables.exec = Jvm.exec) (hb : c.code = cc) (hr : meth.sig.returnType = some .boolean) (hlocks : meth.locks = false) (hn : narrow .boolean (.int v) = .int v) (hP : va_P G.1 vwCl ws H) (hD : va_D A ws) (hS : va_S A s.heap H locs) (hdg : decode cc pc = .ok (.ireturn, 1)) : W p l e R s m args below meth c H locs cells slots (MQ below (qQ (some (.int v)) (wB G ws A) A) args s cells slots A) (F0 m pc ls [.int v]) := q_zret (B := wB G ws) hx hb hr hlocks hn ⟨hP, hD⟩ hS hdg
theorem q_aretW {G : gG} {ws : va_W} {v : Value} {n : String} (hx : p.tables.exec = Jvm.exec) (hb : c.code = cc) (hr : meth.sig.returnType = some (.object n)) (hlocks : meth.locks = false) (hv : v = .null ∨ ∃ a, v = .ref a) (hP : va_P G.1 vwCl ws H) (hD : va_D A ws) (hS : va_S A s.heap H locs) (hdg : decode cc pc = .ok (.areturn, 1)) : W p l e R s m args below meth c H locs cells slots (MQ below (qQ (some v) (wB G ws A) A) args s cells slots A) (F0 m pc ls [v]) := q_aret (B := wB G ws) hx hb hr hlocks hv ⟨hP, hD⟩ hS hdg
theorem q_newI {G : gG} {ws : va_W} {A : Nat → Prop} (hx : p.tables.exec = Jvm.exec) (hb : c.code = cc) (harr : (Cond.arrayClass .int).before args s = true) (hK : va_K G.1 vwCl (tyL G) s) (hP : va_P G.1 vwCl ws H) (hD : va_D A ws) (hS : va_S A H0 H locs) (hA : ∀ q, H0.size ≤ q → A q) {n : Int32} {N : Nat} (hn : ¬ n < 0) (hN : n.toNatClampNeg = N) (hbytes : N * componentBytes .int ≤ 536870912) (hcells : cells + 1 ≤ R.cells) (hslots : slots + N ≤ R.slots) (hdg : decode cc pc = .ok (.newarray .int, 2))
    (kk : ∀ (q : Nat) (H1 : Heap), va_P G.1 vwCl (ws ++ [(q, .inl (G.2 0, N, .inl (fun _ => 0)))]) H1 → va_D A (ws ++ [(q, .inl (G.2 0, N, .inl (fun _ => 0)))]) → va_S A H0 H1 locs → W p l e R s m args below meth c H1 locs (cells + 1) (slots + N) Q (F0 m (pc + 2) ls (.ref q :: rest))) : W p l e R s m args below meth c H locs cells slots Q (F0 m pc ls (.int n :: rest)) := by
  refine va_newa (atype := .int) (ty := .int) hx hb harr rfl hK hP hD hS hA (a0 := (N, .inl (fun _ => 0))) (fun _ => rfl) hn hN hbytes hcells hslots hdg (fun q cA H1 hK' hP' hD' hS' => ?_)
  have h1 : va_RA s cA .int := (hK'.2 4 (cA, .int) rfl).2
  have h2 : va_RA s (G.2 0) .int := (hK.2 0 (G.2 0, .int) rfl).2
  have hc : cA = G.2 0 := Option.some.inj (Eq.trans (Eq.symm h1) h2)
  subst hc
  exact kk q H1 hP' hD' hS'
theorem q_newZ {G : gG} {ws : va_W} {A : Nat → Prop} (hx : p.tables.exec = Jvm.exec) (hb : c.code = cc) (harr : (Cond.arrayClass .boolean).before args s = true) (hK : va_K G.1 vwCl (tyL G) s) (hP : va_P G.1 vwCl ws H) (hD : va_D A ws) (hS : va_S A H0 H locs) (hA : ∀ q, H0.size ≤ q → A q) {n : Int32} {N : Nat} (hn : ¬ n < 0) (hN : n.toNatClampNeg = N) (hbytes : N * componentBytes .boolean ≤ 536870912) (hcells : cells + 1 ≤ R.cells) (hslots : slots + N ≤ R.slots) (hdg : decode cc pc = .ok (.newarray .boolean, 2))
    (kk : ∀ (q : Nat) (H1 : Heap), va_P G.1 vwCl (ws ++ [(q, .inl (G.2 1, N, .inl (fun _ => 0)))]) H1 → va_D A (ws ++ [(q, .inl (G.2 1, N, .inl (fun _ => 0)))]) → va_S A H0 H1 locs → W p l e R s m args below meth c H1 locs (cells + 1) (slots + N) Q (F0 m (pc + 2) ls (.ref q :: rest))) : W p l e R s m args below meth c H locs cells slots Q (F0 m pc ls (.int n :: rest)) := by
  refine va_newa (atype := .boolean) (ty := .boolean) hx hb harr rfl hK hP hD hS hA (a0 := (N, .inl (fun _ => 0))) (fun _ => rfl) hn hN hbytes hcells hslots hdg (fun q cA H1 hK' hP' hD' hS' => ?_)
  have h1 : va_RA s cA .boolean := (hK'.2 4 (cA, .boolean) rfl).2
  have h2 : va_RA s (G.2 1) .boolean := (hK.2 1 (G.2 1, .boolean) rfl).2
  have hc : cA = G.2 1 := Option.some.inj (Eq.trans (Eq.symm h1) h2)
  subst hc
  exact kk q H1 hP' hD' hS'
theorem q_newJ {G : gG} {ws : va_W} {A : Nat → Prop} (hx : p.tables.exec = Jvm.exec) (hb : c.code = cc) (harr : (Cond.arrayClass .long).before args s = true) (hK : va_K G.1 vwCl (tyL G) s) (hP : va_P G.1 vwCl ws H) (hD : va_D A ws) (hS : va_S A H0 H locs) (hA : ∀ q, H0.size ≤ q → A q) {n : Int32} {N : Nat} (hn : ¬ n < 0) (hN : n.toNatClampNeg = N) (hbytes : N * componentBytes .long ≤ 536870912) (hcells : cells + 1 ≤ R.cells) (hslots : slots + N ≤ R.slots) (hdg : decode cc pc = .ok (.newarray .long, 2))
    (kk : ∀ (q : Nat) (H1 : Heap), va_P G.1 vwCl (ws ++ [(q, .inl (G.2 2, N, .inr (.inl (fun _ => 0))))]) H1 → va_D A (ws ++ [(q, .inl (G.2 2, N, .inr (.inl (fun _ => 0))))]) → va_S A H0 H1 locs → W p l e R s m args below meth c H1 locs (cells + 1) (slots + N) Q (F0 m (pc + 2) ls (.ref q :: rest))) : W p l e R s m args below meth c H locs cells slots Q (F0 m pc ls (.int n :: rest)) := by
  refine va_newa (atype := .long) (ty := .long) hx hb harr rfl hK hP hD hS hA (a0 := (N, .inr (.inl (fun _ => 0)))) (fun _ => rfl) hn hN hbytes hcells hslots hdg (fun q cA H1 hK' hP' hD' hS' => ?_)
  have h1 : va_RA s cA .long := (hK'.2 4 (cA, .long) rfl).2
  have h2 : va_RA s (G.2 2) .long := (hK.2 2 (G.2 2, .long) rfl).2
  have hc : cA = G.2 2 := Option.some.inj (Eq.trans (Eq.symm h1) h2)
  subst hc
  exact kk q H1 hP' hD' hS'
theorem q_newQ {G : gG} {ws : va_W} {A : Nat → Prop} {own : String} {index : Nat} (hx : p.tables.exec = Jvm.exec) (hb : c.code = cc) (hown : s.vm.findClass own = some m.cls) (hcl : (Cond.classLink own index "PlayStates$Person").before args s = true) (hov : va_AO "PlayStates$Person" s) (hK : va_K G.1 vwCl (tyL G) s) (hP : va_P G.1 vwCl ws H) (hD : va_D A ws) (hS : va_S A H0 H locs) (hA : ∀ q, H0.size ≤ q → A q) {n : Int32} {N : Nat} (hn : ¬ n < 0) (hN : n.toNatClampNeg = N) (hbytes : N * 4 ≤ 536870912) (hcells : cells + 1 ≤ R.cells) (hslots : slots + N ≤ R.slots) (hdg : decode cc pc = .ok (.anewarray index, 3))
    (kk : ∀ (q : Nat) (H1 : Heap), va_P G.1 vwCl (ws ++ [(q, .inl (G.2 3, N, .inr (.inr (.inr (.inr (fun _ => none))))))]) H1 → va_D A (ws ++ [(q, .inl (G.2 3, N, .inr (.inr (.inr (.inr (fun _ => none))))))]) → va_S A H0 H1 locs → W p l e R s m args below meth c H1 locs (cells + 1) (slots + N) Q (F0 m (pc + 3) ls (.ref q :: rest))) : W p l e R s m args below meth c H locs cells slots Q (F0 m pc ls (.int n :: rest)) := by
  refine va_newq hx hb hown hcl hov hK hP hD hS hA hn hN hbytes hcells hslots hdg (fun q cA H1 hK' hP' hD' hS' => ?_)
  obtain ⟨k1, c1, a1, a2, a3, a4⟩ : va_RA s cA (.object "PlayStates$Person") := (hK'.2 4 (cA, .object "PlayStates$Person") rfl).2
  obtain ⟨k2, c2, b1, b2, b3, b4⟩ : va_RA s (G.2 3) (.object "PlayStates$Person") := (hK.2 3 (G.2 3, .object "PlayStates$Person") rfl).2
  have hc : cA = G.2 3 := Option.some.inj (a4.symm.trans b4)
  subst hc
  exact kk q H1 hP' hD' hS'
end QQ
theorem pP_blind {G : gG} {sz : Nat} {av : List Value} {ws : va_W} : FrameBlind (pP G sz av ws) := by
  intro a U g mk q
  obtain ⟨q0, q1, qP, qK, qD⟩ := q
  exact ⟨q0, q1, qP, kK_same (s := U) (U := U.calling g mk a) rfl qK, qD⟩
theorem pS {G : gG} {s : State} {H : Heap} {As : List Value} {ws : va_W} {A : Nat → Prop} (hK : va_K G.1 vwCl (tyL G) s) (hN : nW s) (hP : va_P G.1 vwCl ws H) (hD : va_D A ws) : PreS s H (pP G H.size As ws) As :=
  ⟨pP_blind, fun U hU hW => ⟨rfl, by rw [hU], by rw [hU]; exact hP, kK_warm hW ⟨hK, hN⟩, hD.weaken (fun _ _ _ _ => trivial)⟩⟩
theorem pV {G : gG} {s : State} {H : Heap} {As : List Value} {ws : va_W} {A : Nat → Prop} {b q0 ci : Nat} {q : vw_C} {fs : List Value} (hK : va_K G.1 vwCl (tyL G) s) (hN : nW s) (hP : va_P G.1 vwCl ws H) (hD : va_D A ws) (hc : vwCl[ci]? = some q) (he : ws[q0]? = some (b, .inr (ci, fs))) : PreV s H q.1 b (pP G H.size (.ref b :: As) ws) As :=
  ⟨pP_blind, va_recv hK hP hc he, fun U hU hW => ⟨rfl, by rw [hU], by rw [hU]; exact hP, kK_warm hW ⟨hK, hN⟩, hD.weaken (fun _ _ _ _ => trivial)⟩⟩
/-- behind a call: the rest and what came back, in any order -/
theorem q_join {A0 : Nat → Prop} {D : va_G} {cl : List vw_C} {ws wc wr w1 wn : va_W} {H H1 : Heap} (hP : va_P D cl ws H) (hD : va_D A0 ws) (isC isR is : List Nat) (hC : isC.map (fun i => ws[i]?) = wc.map some) (hR : isR.map (fun i => ws[i]?) = wr.map some) (hn : va_nd isR = true) (hdis : ∀ i ∈ isR, i ∉ isC)
    (hI : is.map (fun i => (wr ++ w1)[i]?) = wn.map some) (hI2 : va_nd is = true)
    (hk : ∀ q : Nat, q < H.size → ¬ va_A wc H.size q → H1[q]? = H[q]?) (hF : ∀ q, va_A wc H.size q → A0 q) (hP1 : va_P D cl w1 H1) (hD1 : va_D (va_A wc H.size) w1) : va_P D cl wn H1 ∧ va_D A0 wn := by
  obtain ⟨h1, h2⟩ := va_join hP hD isC isR hC hR hn hdis hk hF hP1 hD1
  refine ⟨fun k q hq => ?_, h2.sub is hI2 hI⟩
  have h3 : (is.map (fun i => (wr ++ w1)[i]?))[k]? = some (some q) := by rw [hI, List.getElem?_map, hq]; rfl
  rw [List.getElem?_map] at h3
  cases hi : is[k]? with
  | none => rw [hi] at h3; cases h3
  | some i => rw [hi] at h3; exact h1 i q (Option.some.inj h3)
/-- .. where the callee had the whole world -/
theorem q_joinA {A0 : Nat → Prop} {D : va_G} {cl : List vw_C} {wc w1 : va_W} {H H1 : Heap} (hF : ∀ q, va_A wc H.size q → A0 q) (hP1 : va_P D cl w1 H1) (hD1 : va_D (va_A wc H.size) w1) : va_P D cl w1 H1 ∧ va_D A0 w1 := ⟨hP1, hD1.weaken (fun _ q _ h => hF q.1 h)⟩
/-- the pure side: a step that may fall -/
theorem o_if {α : Type} {c : Prop} [Decidable c] {x : Option α} {r : α} (h : (if c then x else none) = some r) : c ∧ x = some r := by
  by_cases hc : c
  · rw [if_pos hc] at h; exact ⟨hc, h⟩
  · rw [if_neg hc] at h; cases h
theorem o_bind {α β : Type} {x : Option α} {k : α → Option β} {r : β} (h : x.bind k = some r) : ∃ y, x = some y ∧ k y = some r := by
  cases x with
  | none => cases h
  | some y => exact ⟨y, rfl, h⟩
abbrev inB (i : Int32) (n : Nat) : Prop := ¬ (i < 0 ∨ n ≤ i.toNatClampNeg)
theorem bool01 {x : Int32} (h : x = 0 ∨ x = 1) : narrow .boolean (.int x) = .int x ∧ fits .boolean (.int x) = true := by
  rcases h with h | h <;> subst h <;> decide +kernel
end
section
/-! worlds up to their order; a contract with more cells around it -/
theorem vP_mem {D : va_G} {cl : List vw_C} {ws : va_W} {H : Heap} : va_P D cl ws H ↔ ∀ q ∈ ws, va_at D cl q H :=
  ⟨fun h q hq => by obtain ⟨k, hk⟩ := List.getElem?_of_mem hq; exact h k q hk, fun h k q hk => h q (List.mem_of_getElem? hk)⟩
theorem vD_pw {A : Nat → Prop} {ws : va_W} : va_D A ws ↔ ws.Pairwise (fun p q => p.1 ≠ q.1) ∧ ∀ q ∈ ws, A q.1 := by
  constructor
  · intro h
    refine ⟨List.pairwise_iff_getElem.mpr (fun i j hi hj hij he => ?_), fun q hq => ?_⟩
    · have := h.1 i j ws[i] ws[j] (List.getElem?_eq_getElem hi) (List.getElem?_eq_getElem hj) he
      omega
    · obtain ⟨k, hk⟩ := List.getElem?_of_mem hq
      exact h.2 k q hk
  · intro h
    refine ⟨fun i j p q hp hq he => ?_, fun k q hk => h.2 q (List.mem_of_getElem? hk)⟩
    obtain ⟨hi, rfl⟩ := List.getElem?_eq_some_iff.mp hp
    obtain ⟨hj, rfl⟩ := List.getElem?_eq_some_iff.mp hq
    rcases Nat.lt_trichotomy i j with hl | hl | hl
    · exact absurd he (List.pairwise_iff_getElem.mp h.1 i j hi hj hl)
    · exact hl
    · exact absurd he.symm (List.pairwise_iff_getElem.mp h.1 j i hj hi hl)
theorem vP_perm {D : va_G} {cl : List vw_C} {ws ws' : va_W} {H : Heap} (hp : ws.Perm ws') (h : va_P D cl ws H) : va_P D cl ws' H := vP_mem.mpr fun q hq => vP_mem.mp h q (hp.mem_iff.mpr hq)
theorem vD_perm {A : Nat → Prop} {ws ws' : va_W} (hp : ws.Perm ws') (h : va_D A ws) : va_D A ws' := by
  obtain ⟨h1, h2⟩ := vD_pw.mp h
  exact vD_pw.mpr ⟨(hp.pairwise_iff (fun h => h.symm)).mp h1, fun q hq => h2 q (hp.mem_iff.mpr hq)⟩
theorem vP_left {D : va_G} {cl : List vw_C} {w1 w2 : va_W} {H : Heap} (h : va_P D cl (w1 ++ w2) H) : va_P D cl w1 H := vP_mem.mpr fun q hq => vP_mem.mp h q (List.mem_append_left _ hq)
theorem vP_right {D : va_G} {cl : List vw_C} {w1 w2 : va_W} {H : Heap} (h : va_P D cl (w1 ++ w2) H) : va_P D cl w2 H := vP_mem.mpr fun q hq => vP_mem.mp h q (List.mem_append_right _ hq)
theorem vD_left {A : Nat → Prop} {w1 w2 : va_W} (h : va_D A (w1 ++ w2)) : va_D A w1 := by
  obtain ⟨h1, h2⟩ := vD_pw.mp h
  exact vD_pw.mpr ⟨(List.pairwise_append.mp h1).1, fun q hq => h2 q (List.mem_append_left _ hq)⟩
theorem vA_mem {ws : va_W} {sz q : Nat} : va_A ws sz q ↔ (∃ e, (q, e) ∈ ws) ∨ sz ≤ q := by
  constructor
  · rintro (⟨k, e, h⟩ | h)
    · exact Or.inl ⟨e, List.mem_of_getElem? h⟩
    · exact Or.inr h
  · rintro (⟨e, h⟩ | h)
    · obtain ⟨k, hk⟩ := List.getElem?_of_mem h
      exact Or.inl ⟨k, e, hk⟩
    · exact Or.inr h
theorem vA_sub {wc wr L : va_W} {sz q : Nat} (hp : L.Perm (wc ++ wr)) (h : va_A wc sz q) : va_A L sz q := by
  rcases vA_mem.mp h with ⟨e, h⟩ | h
  · exact vA_mem.mpr (Or.inl ⟨e, hp.mem_iff.mpr (List.mem_append_left _ h)⟩)
  · exact vA_mem.mpr (Or.inr h)
/-- the frame rule, by lists -/
theorem vJ {D : va_G} {cl : List vw_C} {wc wr w1 L : va_W} {H H1 : Heap} {A0 : Nat → Prop} {sz : Nat} (hsz : H.size = sz) (hp : L.Perm (wc ++ wr)) (hP : va_P D cl L H) (hD : va_D A0 L)
    (hk : ∀ q : Nat, q < H.size → ¬ va_A wc sz q → H1[q]? = H[q]?) (hP1 : va_P D cl w1 H1) (hD1 : va_D (va_A wc sz) w1) : va_P D cl (w1 ++ wr) H1 ∧ va_D (va_A L sz) (w1 ++ wr) := by
  have hP' := vP_perm hp hP
  have hD' := vD_pw.mp (vD_perm hp hD)
  have apart : ∀ q ∈ wr, q.1 < H.size ∧ ¬ va_A wc sz q.1 := by
    intro q hq
    have hl := (vP_mem.mp hP' q (List.mem_append_right _ hq)).lt
    refine ⟨hl, fun h => ?_⟩
    rcases vA_mem.mp h with ⟨e, h⟩ | h
    · exact (List.pairwise_append.mp hD'.1).2.2 _ h _ hq rfl
    · omega
  refine ⟨vP_mem.mpr fun q hq => ?_, vD_pw.mpr ⟨List.pairwise_append.mpr ⟨(vD_pw.mp hD1).1, (List.pairwise_append.mp hD'.1).2.1, fun a ha b hb he => ?_⟩, fun q hq => ?_⟩⟩
  · rcases List.mem_append.mp hq with h | h
    · exact vP_mem.mp hP1 q h
    · exact (vP_mem.mp hP' q (List.mem_append_right _ h)).kept (hk q.1 (apart q h).1 (apart q h).2)
  · exact (apart b hb).2 (he ▸ (vD_pw.mp hD1).2 a ha)
  · rcases List.mem_append.mp hq with h | h
    · exact vA_sub hp ((vD_pw.mp hD1).2 q h)
    · exact vA_mem.mpr (Or.inl ⟨q.2, hp.mem_iff.mpr (List.mem_append_right _ h)⟩)
theorem cN_frame {l : Launch} {y : MethodName} {ww : List Cond} {rm : Room} {G : gG} {sz : Nat} {av : List Value} {wc w1 wr L L1 : va_W} {rv : Option Value} {mc ms : Nat} (hM : cN l y ww rm G sz av wc rv (wB G w1) mc ms) (h1 : L.Perm (wc ++ wr)) (h2 : (w1 ++ wr).Perm L1) : cN l y ww rm G sz av L rv (wB G L1) mc ms := by
  refine MetFree.mono hM (fun a s h => ?_) (fun _ _ _ _ _ h => h) (fun a s o t hpre h => ?_)
  · obtain ⟨e, hsz, hP, hK, hD⟩ := h
    exact ⟨e, hsz, vP_left (vP_perm h1 hP), hK, vD_left (vD_perm h1 hD)⟩
  · obtain ⟨e, hsz, hP, hK, hD⟩ := hpre
    obtain ⟨⟨ho, hB, hF⟩, Lc, hFE, hfr⟩ := h
    obtain ⟨g1, g2⟩ := vJ hsz h1 hP hD hF.2 hB.1 hB.2
    exact ⟨⟨ho, ⟨vP_perm h2 g1, vD_perm h2 g2⟩, hF.1, fun q hq hn => hF.2 q hq (fun z => hn (vA_sub h1 z))⟩, Lc, hFE, fun q hq => vA_sub h1 (hfr q hq)⟩
/-- .. with any end -/
theorem cN_frameE {l : Launch} {y : MethodName} {ww : List Cond} {rm : Room} {G : gG} {sz : Nat} {av : List Value} {wc wr L : va_W} {rv : Option Value} {mc ms : Nat} {B B' : (Nat → Prop) → Heap → Prop} (hM : cN l y ww rm G sz av wc rv B mc ms) (h1 : L.Perm (wc ++ wr))
    (hB : ∀ (H1 : Heap), B (va_A wc sz) H1 → ∃ w1, wB G w1 (va_A wc sz) H1 ∧ (wB G (w1 ++ wr) (va_A L sz) H1 → B' (va_A L sz) H1)) : cN l y ww rm G sz av L rv B' mc ms := by
  refine MetFree.mono hM (fun a s h => ?_) (fun _ _ _ _ _ h => h) (fun a s o t hpre h => ?_)
  · obtain ⟨e, hsz, hP, hK, hD⟩ := h
    exact ⟨e, hsz, vP_left (vP_perm h1 hP), hK, vD_left (vD_perm h1 hD)⟩
  · obtain ⟨e, hsz, hP, hK, hD⟩ := hpre
    obtain ⟨⟨ho, hB1, hF⟩, Lc, hFE, hfr⟩ := h
    obtain ⟨w1, hB2, hB3⟩ := hB _ hB1
    obtain ⟨g1, g2⟩ := vJ hsz h1 hP hD hF.2 hB2.1 hB2.2
    exact ⟨⟨ho, hB3 ⟨g1, g2⟩, hF.1, fun q hq hn => hF.2 q hq (fun z => hn (vA_sub h1 z))⟩, Lc, hFE, fun q hq => vA_sub h1 (hfr q hq)⟩
end
section
theorem d_PS_isZeroToNine_0 : decode prog_1_method_21_code 0 = .ok (.iload_n 0, 1) := by decide +kernel
theorem d_PS_isZeroToNine_1 : decode prog_1_method_21_code 1 = .ok (.ifCond .lt 13, 3) := by decide +kernel
theorem d_PS_isZeroToNine_4 : decode prog_1_method_21_code 4 = .ok (.iload_n 0, 1) := by decide +kernel
theorem d_PS_isZeroToNine_5 : decode prog_1_method_21_code 5 = .ok (.bipush 9, 2) := by decide +kernel
theorem d_PS_isZeroToNine_7 : decode prog_1_method_21_code 7 = .ok (.if_icmp .gt 7, 3) := by decide +kernel
theorem d_PS_isZeroToNine_10 : decode prog_1_method_21_code 10 = .ok (.iconst 1, 1) := by decide +kernel
theorem d_PS_isZeroToNine_11 : decode prog_1_method_21_code 11 = .ok (.goto 4, 3) := by decide +kernel
theorem d_PS_isZeroToNine_14 : decode prog_1_method_21_code 14 = .ok (.iconst 0, 1) := by decide +kernel
theorem d_PS_isZeroToNine_15 : decode prog_1_method_21_code 15 = .ok (.ireturn, 1) := by decide +kernel
-- PlayStates.isZeroToNine(I)Z 
def ws_PS_isZeroToNine (G : gG)    : va_W := []
def f_PS_isZeroToNine  (p0 : Int32)  : Option (Int32) :=
  (if p0 < 0 then some (0 : Int32) else (if (9 : Int32) < p0 then some (0 : Int32) else some (1 : Int32)))
set_option maxHeartbeats 4000000 in
set_option maxRecDepth 100000 in
theorem c_PS_isZeroToNine (l : Launch) (G : gG) (sz : Nat)   (p0 : Int32)  (r : Int32) (h : f_PS_isZeroToNine p0 = some r)  : cN l y_PS_isZeroToNine w_PS_isZeroToNine { frames := 0, cells := 0, slots := 0, locals := 0 } G sz [.int p0] (ws_PS_isZeroToNine G) (some (.int r)) (wB G (ws_PS_isZeroToNine G)) 0 0 := by
  refine cN_ofW (cc := prog_1_method_21_code) (maxL := 1) (ret := (some .boolean)) (by decide) rfl (Nat.le_of_ble_eq_true rfl) ?_
  intro p e s m args below meth c A H locs ls hx hb hr hts hown hlocks hin hml hK hN hP hD hA hS hl
  replace hl : lv_has ls 1 [(0, .int p0)] := hl
  replace hown : s.vm.findClass "PlayStates" = some m.cls := hown
  unfold f_PS_isZeroToNine at h
  refine lv_iload_n hx hb d_PS_isZeroToNine_0 rfl (lv_at hl 0 rfl) ?_
  refine lv_if_lt (tgt := 14) hx hb d_PS_isZeroToNine_1 (by decide) (fun c1 => ?_) (fun c1 => ?_)
  · replace h := (if_pos c1).symm.trans h
    refine lv_iconst (v := (0 : Int32)) hx hb d_PS_isZeroToNine_14 (by decide) ?_
    cases h
    exact q_zretW hx hb hr hlocks (by decide) hP hD hS d_PS_isZeroToNine_15
  · replace h := (if_neg c1).symm.trans h
    refine lv_iload_n hx hb d_PS_isZeroToNine_4 rfl (lv_at hl 0 rfl) ?_
    refine lv_bipush (v := (9 : Int32)) hx hb d_PS_isZeroToNine_5 (by decide) ?_
    refine lv_icmp_gt (tgt := 14) hx hb d_PS_isZeroToNine_7 (by decide) (fun c2 => ?_) (fun c2 => ?_)
    · replace h := (if_pos c2).symm.trans h
      refine lv_iconst (v := (0 : Int32)) hx hb d_PS_isZeroToNine_14 (by decide) ?_
      cases h
      exact q_zretW hx hb hr hlocks (by decide) hP hD hS d_PS_isZeroToNine_15
    · replace h := (if_neg c2).symm.trans h
      refine lv_iconst (v := (1 : Int32)) hx hb d_PS_isZeroToNine_10 (by decide) ?_
      refine lv_goto (tgt := 15) hx hb d_PS_isZeroToNine_11 (by decide) ?_
      cases h
      exact q_zretW hx hb hr hlocks (by decide) hP hD hS d_PS_isZeroToNine_15

theorem d_PS_isOneToNine_0 : decode prog_1_method_22_code 0 = .ok (.iload_n 0, 1) := by decide +kernel
theorem d_PS_isOneToNine_1 : decode prog_1_method_22_code 1 = .ok (.iconst 1, 1) := by decide +kernel
theorem d_PS_isOneToNine_2 : decode prog_1_method_22_code 2 = .ok (.if_icmp .lt 13, 3) := by decide +kernel
theorem d_PS_isOneToNine_5 : decode prog_1_method_22_code 5 = .ok (.iload_n 0, 1) := by decide +kernel
theorem d_PS_isOneToNine_6 : decode prog_1_method_22_code 6 = .ok (.bipush 9, 2) := by decide +kernel
theorem d_PS_isOneToNine_8 : decode prog_1_method_22_code 8 = .ok (.if_icmp .gt 7, 3) := by decide +kernel
theorem d_PS_isOneToNine_11 : decode prog_1_method_22_code 11 = .ok (.iconst 1, 1) := by decide +kernel
theorem d_PS_isOneToNine_12 : decode prog_1_method_22_code 12 = .ok (.goto 4, 3) := by decide +kernel
theorem d_PS_isOneToNine_15 : decode prog_1_method_22_code 15 = .ok (.iconst 0, 1) := by decide +kernel
theorem d_PS_isOneToNine_16 : decode prog_1_method_22_code 16 = .ok (.ireturn, 1) := by decide +kernel
-- PlayStates.isOneToNine(I)Z 
def ws_PS_isOneToNine (G : gG)    : va_W := []
def f_PS_isOneToNine  (p0 : Int32)  : Option (Int32) :=
  (if p0 < (1 : Int32) then some (0 : Int32) else (if (9 : Int32) < p0 then some (0 : Int32) else some (1 : Int32)))
set_option maxHeartbeats 4000000 in
set_option maxRecDepth 100000 in
theorem c_PS_isOneToNine (l : Launch) (G : gG) (sz : Nat)   (p0 : Int32)  (r : Int32) (h : f_PS_isOneToNine p0 = some r)  : cN l y_PS_isOneToNine w_PS_isOneToNine { frames := 0, cells := 0, slots := 0, locals := 0 } G sz [.int p0] (ws_PS_isOneToNine G) (some (.int r)) (wB G (ws_PS_isOneToNine G)) 0 0 := by
  refine cN_ofW (cc := prog_1_method_22_code) (maxL := 1) (ret := (some .boolean)) (by decide) rfl (Nat.le_of_ble_eq_true rfl) ?_
  intro p e s m args below meth c A H locs ls hx hb hr hts hown hlocks hin hml hK hN hP hD hA hS hl
  replace hl : lv_has ls 1 [(0, .int p0)] := hl
  replace hown : s.vm.findClass "PlayStates" = some m.cls := hown
  unfold f_PS_isOneToNine at h
  refine lv_iload_n hx hb d_PS_isOneToNine_0 rfl (lv_at hl 0 rfl) ?_
  refine lv_iconst (v := (1 : Int32)) hx hb d_PS_isOneToNine_1 (by decide) ?_
  refine lv_icmp_lt (tgt := 15) hx hb d_PS_isOneToNine_2 (by decide) (fun c1 => ?_) (fun c1 => ?_)
  · replace h := (if_pos c1).symm.trans h
    refine lv_iconst (v := (0 : Int32)) hx hb d_PS_isOneToNine_15 (by decide) ?_
    cases h
    exact q_zretW hx hb hr hlocks (by decide) hP hD hS d_PS_isOneToNine_16
  · replace h := (if_neg c1).symm.trans h
    refine lv_iload_n hx hb d_PS_isOneToNine_5 rfl (lv_at hl 0 rfl) ?_
    refine lv_bipush (v := (9 : Int32)) hx hb d_PS_isOneToNine_6 (by decide) ?_
    refine lv_icmp_gt (tgt := 15) hx hb d_PS_isOneToNine_8 (by decide) (fun c2 => ?_) (fun c2 => ?_)
    · replace h := (if_pos c2).symm.trans h
      refine lv_iconst (v := (0 : Int32)) hx hb d_PS_isOneToNine_15 (by decide) ?_
      cases h
      exact q_zretW hx hb hr hlocks (by decide) hP hD hS d_PS_isOneToNine_16
    · replace h := (if_neg c2).symm.trans h
      refine lv_iconst (v := (1 : Int32)) hx hb d_PS_isOneToNine_11 (by decide) ?_
      refine lv_goto (tgt := 16) hx hb d_PS_isOneToNine_12 (by decide) ?_
      cases h
      exact q_zretW hx hb hr hlocks (by decide) hP hD hS d_PS_isOneToNine_16

theorem d_PS_isWrong_0 : decode prog_1_method_23_code 0 = .ok (.iload_n 0, 1) := by decide +kernel
theorem d_PS_isWrong_1 : decode prog_1_method_23_code 1 = .ok (.ifCond .eq 16, 3) := by decide +kernel
theorem d_PS_isWrong_4 : decode prog_1_method_23_code 4 = .ok (.iload_n 1, 1) := by decide +kernel
theorem d_PS_isWrong_5 : decode prog_1_method_23_code 5 = .ok (.ifCond .eq 12, 3) := by decide +kernel
theorem d_PS_isWrong_8 : decode prog_1_method_23_code 8 = .ok (.iload_n 1, 1) := by decide +kernel
theorem d_PS_isWrong_9 : decode prog_1_method_23_code 9 = .ok (.iload_n 0, 1) := by decide +kernel
theorem d_PS_isWrong_10 : decode prog_1_method_23_code 10 = .ok (.if_icmp .eq 7, 3) := by decide +kernel
theorem d_PS_isWrong_13 : decode prog_1_method_23_code 13 = .ok (.iconst 1, 1) := by decide +kernel
theorem d_PS_isWrong_14 : decode prog_1_method_23_code 14 = .ok (.goto 4, 3) := by decide +kernel
theorem d_PS_isWrong_17 : decode prog_1_method_23_code 17 = .ok (.iconst 0, 1) := by decide +kernel
theorem d_PS_isWrong_18 : decode prog_1_method_23_code 18 = .ok (.ireturn, 1) := by decide +kernel
-- PlayStates.isWrong(II)Z 
def ws_PS_isWrong (G : gG)    : va_W := []
def f_PS_isWrong  (p0 : Int32) (p1 : Int32)  : Option (Int32) :=
  (if p0 = 0 then some (0 : Int32) else (if p1 = 0 then some (0 : Int32) else (if p1 = p0 then some (0 : Int32) else some (1 : Int32))))
set_option maxHeartbeats 4000000 in
set_option maxRecDepth 100000 in
theorem c_PS_isWrong (l : Launch) (G : gG) (sz : Nat)   (p0 : Int32) (p1 : Int32)  (r : Int32) (h : f_PS_isWrong p0 p1 = some r)  : cN l y_PS_isWrong w_PS_isWrong { frames := 0, cells := 0, slots := 0, locals := 0 } G sz [.int p0, .int p1] (ws_PS_isWrong G) (some (.int r)) (wB G (ws_PS_isWrong G)) 0 0 := by
  refine cN_ofW (cc := prog_1_method_23_code) (maxL := 2) (ret := (some .boolean)) (by decide) rfl (Nat.le_of_ble_eq_true rfl) ?_
  intro p e s m args below meth c A H locs ls hx hb hr hts hown hlocks hin hml hK hN hP hD hA hS hl
  replace hl : lv_has ls 2 [(0, .int p0), (1, .int p1)] := hl
  replace hown : s.vm.findClass "PlayStates" = some m.cls := hown
  unfold f_PS_isWrong at h
  refine lv_iload_n hx hb d_PS_isWrong_0 rfl (lv_at hl 0 rfl) ?_
  refine lv_if_eq (tgt := 17) hx hb d_PS_isWrong_1 (by decide) (fun c1 => ?_) (fun c1 => ?_)
  · replace h := (if_pos c1).symm.trans h
    refine lv_iconst (v := (0 : Int32)) hx hb d_PS_isWrong_17 (by decide) ?_
    cases h
    exact q_zretW hx hb hr hlocks (by decide) hP hD hS d_PS_isWrong_18
  · replace h := (if_neg c1).symm.trans h
    refine lv_iload_n hx hb d_PS_isWrong_4 rfl (lv_at hl 1 rfl) ?_
    refine lv_if_eq (tgt := 17) hx hb d_PS_isWrong_5 (by decide) (fun c2 => ?_) (fun c2 => ?_)
    · replace h := (if_pos c2).symm.trans h
      refine lv_iconst (v := (0 : Int32)) hx hb d_PS_isWrong_17 (by decide) ?_
      cases h
      exact q_zretW hx hb hr hlocks (by decide) hP hD hS d_PS_isWrong_18
    · replace h := (if_neg c2).symm.trans h
      refine lv_iload_n hx hb d_PS_isWrong_8 rfl (lv_at hl 1 rfl) ?_
      refine lv_iload_n hx hb d_PS_isWrong_9 rfl (lv_at hl 0 rfl) ?_
      refine lv_icmp_eq (tgt := 17) hx hb d_PS_isWrong_10 (by decide) (fun c3 => ?_) (fun c3 => ?_)
      · replace h := (if_pos c3).symm.trans h
        refine lv_iconst (v := (0 : Int32)) hx hb d_PS_isWrong_17 (by decide) ?_
        cases h
        exact q_zretW hx hb hr hlocks (by decide) hP hD hS d_PS_isWrong_18
      · replace h := (if_neg c3).symm.trans h
        refine lv_iconst (v := (1 : Int32)) hx hb d_PS_isWrong_13 (by decide) ?_
        refine lv_goto (tgt := 18) hx hb d_PS_isWrong_14 (by decide) ?_
        cases h
        exact q_zretW hx hb hr hlocks (by decide) hP hD hS d_PS_isWrong_18

theorem gw_102 : (.fieldLink "PlayStates" 18 "PlayStates" "placeCount" "I" : Cond) ∈ GW := gT 96 (by decide +kernel) (by decide +kernel)
theorem d_PS_isPlace_0 : decode prog_1_method_24_code 0 = .ok (.iload_n 1, 1) := by decide +kernel
theorem d_PS_isPlace_1 : decode prog_1_method_24_code 1 = .ok (.ifCond .lt 15, 3) := by decide +kernel
theorem d_PS_isPlace_4 : decode prog_1_method_24_code 4 = .ok (.iload_n 1, 1) := by decide +kernel
theorem d_PS_isPlace_5 : decode prog_1_method_24_code 5 = .ok (.aload_n 0, 1) := by decide +kernel
theorem d_PS_isPlace_6 : decode prog_1_method_24_code 6 = .ok (.getfield 18, 3) := by decide +kernel
theorem d_PS_isPlace_9 : decode prog_1_method_24_code 9 = .ok (.if_icmp .ge 7, 3) := by decide +kernel
theorem d_PS_isPlace_12 : decode prog_1_method_24_code 12 = .ok (.iconst 1, 1) := by decide +kernel
theorem d_PS_isPlace_13 : decode prog_1_method_24_code 13 = .ok (.goto 4, 3) := by decide +kernel
theorem d_PS_isPlace_16 : decode prog_1_method_24_code 16 = .ok (.iconst 0, 1) := by decide +kernel
theorem d_PS_isPlace_17 : decode prog_1_method_24_code 17 = .ok (.ireturn, 1) := by decide +kernel
-- PlayStates.isPlace(I)Z 
def ws_PS_isPlace (G : gG) (a_t a_t_right a_t_persons a_t_table a_t_joining a_t_units a_t_draft a_t_reader : Nat)  (x_t_placeCount : Int32) (x_t_personCount : Int32) (x_t_unitCount : Int32) : va_W := [(a_t, .inr (5, [.int x_t_placeCount, .ref a_t_right, .ref a_t_persons, .int x_t_personCount, .ref a_t_table, .ref a_t_joining, .ref a_t_units, .int x_t_unitCount, .ref a_t_draft, .ref a_t_reader]))]
def f_PS_isPlace  (p0 : Int32) (x_t_placeCount : Int32) (x_t_personCount : Int32) (x_t_unitCount : Int32) : Option (Int32) :=
  (if p0 < 0 then some (0 : Int32) else (if x_t_placeCount ≤ p0 then some (0 : Int32) else some (1 : Int32)))
set_option maxHeartbeats 4000000 in
set_option maxRecDepth 100000 in
theorem c_PS_isPlace (l : Launch) (G : gG) (sz : Nat) (a_t a_t_right a_t_persons a_t_table a_t_joining a_t_units a_t_draft a_t_reader : Nat)  (p0 : Int32) (x_t_placeCount : Int32) (x_t_personCount : Int32) (x_t_unitCount : Int32) (r : Int32) (h : f_PS_isPlace p0 x_t_placeCount x_t_personCount x_t_unitCount = some r)  : cN l y_PS_isPlace w_PS_isPlace { frames := 0, cells := 0, slots := 0, locals := 0 } G sz [.ref a_t, .int p0] (ws_PS_isPlace G a_t a_t_right a_t_persons a_t_table a_t_joining a_t_units a_t_draft a_t_reader x_t_placeCount x_t_personCount x_t_unitCount) (some (.int r)) (wB G (ws_PS_isPlace G a_t a_t_right a_t_persons a_t_table a_t_joining a_t_units a_t_draft a_t_reader x_t_placeCount x_t_personCount x_t_unitCount)) 0 0 := by
  refine cN_ofW (cc := prog_1_method_24_code) (maxL := 2) (ret := (some .boolean)) (by decide) rfl (Nat.le_of_ble_eq_true rfl) ?_
  intro p e s m args below meth c A H locs ls hx hb hr hts hown hlocks hin hml hK hN hP hD hA hS hl
  replace hl : lv_has ls 2 [(0, .ref a_t), (1, .int p0)] := hl
  replace hown : s.vm.findClass "PlayStates" = some m.cls := hown
  unfold f_PS_isPlace at h
  refine lv_iload_n hx hb d_PS_isPlace_0 rfl (lv_at hl 1 rfl) ?_
  refine lv_if_lt (tgt := 16) hx hb d_PS_isPlace_1 (by decide) (fun c1 => ?_) (fun c1 => ?_)
  · replace h := (if_pos c1).symm.trans h
    refine lv_iconst (v := (0 : Int32)) hx hb d_PS_isPlace_16 (by decide) ?_
    cases h
    exact q_zretW hx hb hr hlocks (by decide) hP hD hS d_PS_isPlace_17
  · replace h := (if_neg c1).symm.trans h
    refine lv_iload_n hx hb d_PS_isPlace_4 rfl (lv_at hl 1 rfl) ?_
    refine lv_aload_n hx hb d_PS_isPlace_5 rfl (lv_at hl 0 rfl) ?_
    refine va_get (D := G.1) (ci := 5) (v := .int x_t_placeCount) (C := "PlayStates") (T := TPS) (N := 10) hx hb hts iw_5 hown hK hP 0 rfl rfl 0 (by decide) (hts _ gw_102) (fun _ h9 => h9) rfl d_PS_isPlace_6 ?_
    refine lv_icmp_ge (tgt := 16) hx hb d_PS_isPlace_9 (by decide) (fun c2 => ?_) (fun c2 => ?_)
    · replace h := (if_pos c2).symm.trans h
      refine lv_iconst (v := (0 : Int32)) hx hb d_PS_isPlace_16 (by decide) ?_
      cases h
      exact q_zretW hx hb hr hlocks (by decide) hP hD hS d_PS_isPlace_17
    · replace h := (if_neg c2).symm.trans h
      refine lv_iconst (v := (1 : Int32)) hx hb d_PS_isPlace_12 (by decide) ?_
      refine lv_goto (tgt := 17) hx hb d_PS_isPlace_13 (by decide) ?_
      cases h
      exact q_zretW hx hb hr hlocks (by decide) hP hD hS d_PS_isPlace_17

theorem gw_105 : (.fieldLink "PlayStates" 200 "PlayStates" "personCount" "I" : Cond) ∈ GW := gT 99 (by decide +kernel) (by decide +kernel)
theorem d_PS_hasRoomForPerson_0 : decode prog_1_method_26_code 0 = .ok (.aload_n 0, 1) := by decide +kernel
theorem d_PS_hasRoomForPerson_1 : decode prog_1_method_26_code 1 = .ok (.getfield 200, 3) := by decide +kernel
theorem d_PS_hasRoomForPerson_4 : decode prog_1_method_26_code 4 = .ok (.bipush 8, 2) := by decide +kernel
theorem d_PS_hasRoomForPerson_6 : decode prog_1_method_26_code 6 = .ok (.if_icmp .ge 7, 3) := by decide +kernel
theorem d_PS_hasRoomForPerson_9 : decode prog_1_method_26_code 9 = .ok (.iconst 1, 1) := by decide +kernel
theorem d_PS_hasRoomForPerson_10 : decode prog_1_method_26_code 10 = .ok (.goto 4, 3) := by decide +kernel
theorem d_PS_hasRoomForPerson_13 : decode prog_1_method_26_code 13 = .ok (.iconst 0, 1) := by decide +kernel
theorem d_PS_hasRoomForPerson_14 : decode prog_1_method_26_code 14 = .ok (.ireturn, 1) := by decide +kernel
-- PlayStates.hasRoomForPerson()Z 
def ws_PS_hasRoomForPerson (G : gG) (a_t a_t_right a_t_persons a_t_table a_t_joining a_t_units a_t_draft a_t_reader : Nat)  (x_t_placeCount : Int32) (x_t_personCount : Int32) (x_t_unitCount : Int32) : va_W := [(a_t, .inr (5, [.int x_t_placeCount, .ref a_t_right, .ref a_t_persons, .int x_t_personCount, .ref a_t_table, .ref a_t_joining, .ref a_t_units, .int x_t_unitCount, .ref a_t_draft, .ref a_t_reader]))]
def f_PS_hasRoomForPerson   (x_t_placeCount : Int32) (x_t_personCount : Int32) (x_t_unitCount : Int32) : Option (Int32) :=
  (if (8 : Int32) ≤ x_t_personCount then some (0 : Int32) else some (1 : Int32))
set_option maxHeartbeats 4000000 in
set_option maxRecDepth 100000 in
theorem c_PS_hasRoomForPerson (l : Launch) (G : gG) (sz : Nat) (a_t a_t_right a_t_persons a_t_table a_t_joining a_t_units a_t_draft a_t_reader : Nat)   (x_t_placeCount : Int32) (x_t_personCount : Int32) (x_t_unitCount : Int32) (r : Int32) (h : f_PS_hasRoomForPerson x_t_placeCount x_t_personCount x_t_unitCount = some r)  : cN l y_PS_hasRoomForPerson w_PS_hasRoomForPerson { frames := 0, cells := 0, slots := 0, locals := 0 } G sz [.ref a_t] (ws_PS_hasRoomForPerson G a_t a_t_right a_t_persons a_t_table a_t_joining a_t_units a_t_draft a_t_reader x_t_placeCount x_t_personCount x_t_unitCount) (some (.int r)) (wB G (ws_PS_hasRoomForPerson G a_t a_t_right a_t_persons a_t_table a_t_joining a_t_units a_t_draft a_t_reader x_t_placeCount x_t_personCount x_t_unitCount)) 0 0 := by
  refine cN_ofW (cc := prog_1_method_26_code) (maxL := 1) (ret := (some .boolean)) (by decide) rfl (Nat.le_of_ble_eq_true rfl) ?_
  intro p e s m args below meth c A H locs ls hx hb hr hts hown hlocks hin hml hK hN hP hD hA hS hl
  replace hl : lv_has ls 1 [(0, .ref a_t)] := hl
  replace hown : s.vm.findClass "PlayStates" = some m.cls := hown
  unfold f_PS_hasRoomForPerson at h
  refine lv_aload_n hx hb d_PS_hasRoomForPerson_0 rfl (lv_at hl 0 rfl) ?_
  refine va_get (D := G.1) (ci := 5) (v := .int x_t_personCount) (C := "PlayStates") (T := TPS) (N := 10) hx hb hts iw_5 hown hK hP 0 rfl rfl 3 (by decide) (hts _ gw_105) (fun _ h9 => h9) rfl d_PS_hasRoomForPerson_1 ?_
  refine lv_bipush (v := (8 : Int32)) hx hb d_PS_hasRoomForPerson_4 (by decide) ?_
  refine lv_icmp_ge (tgt := 13) hx hb d_PS_hasRoomForPerson_6 (by decide) (fun c1 => ?_) (fun c1 => ?_)
  · replace h := (if_pos c1).symm.trans h
    refine lv_iconst (v := (0 : Int32)) hx hb d_PS_hasRoomForPerson_13 (by decide) ?_
    cases h
    exact q_zretW hx hb hr hlocks (by decide) hP hD hS d_PS_hasRoomForPerson_14
  · replace h := (if_neg c1).symm.trans h
    refine lv_iconst (v := (1 : Int32)) hx hb d_PS_hasRoomForPerson_9 (by decide) ?_
    refine lv_goto (tgt := 14) hx hb d_PS_hasRoomForPerson_10 (by decide) ?_
    cases h
    exact q_zretW hx hb hr hlocks (by decide) hP hD hS d_PS_hasRoomForPerson_14

theorem gw_104 : (.fieldLink "PlayStates" 28 "PlayStates" "persons" "[LPlayStates$Person;" : Cond) ∈ GW := gT 98 (by decide +kernel) (by decide +kernel)
theorem d_PS_find_0 : decode prog_1_method_25_code 0 = .ok (.iload_n 1, 1) := by decide +kernel
theorem d_PS_find_1 : decode prog_1_method_25_code 1 = .ok (.ifCond .lt 20, 3) := by decide +kernel
theorem d_PS_find_4 : decode prog_1_method_25_code 4 = .ok (.iload_n 1, 1) := by decide +kernel
theorem d_PS_find_5 : decode prog_1_method_25_code 5 = .ok (.aload_n 0, 1) := by decide +kernel
theorem d_PS_find_6 : decode prog_1_method_25_code 6 = .ok (.getfield 200, 3) := by decide +kernel
theorem d_PS_find_9 : decode prog_1_method_25_code 9 = .ok (.if_icmp .ge 12, 3) := by decide +kernel
theorem d_PS_find_12 : decode prog_1_method_25_code 12 = .ok (.aload_n 0, 1) := by decide +kernel
theorem d_PS_find_13 : decode prog_1_method_25_code 13 = .ok (.getfield 28, 3) := by decide +kernel
theorem d_PS_find_16 : decode prog_1_method_25_code 16 = .ok (.iload_n 1, 1) := by decide +kernel
theorem d_PS_find_17 : decode prog_1_method_25_code 17 = .ok (.aaload, 1) := by decide +kernel
theorem d_PS_find_18 : decode prog_1_method_25_code 18 = .ok (.goto 4, 3) := by decide +kernel
theorem d_PS_find_21 : decode prog_1_method_25_code 21 = .ok (.aconst_null, 1) := by decide +kernel
theorem d_PS_find_22 : decode prog_1_method_25_code 22 = .ok (.areturn, 1) := by decide +kernel
-- PlayStates.find(I)LPlayStates$Person; 
def ws_PS_find (G : gG) (a_t a_t_right a_t_table a_t_joining a_t_units a_t_draft a_t_reader a_t_persons : Nat)  (x_t_placeCount : Int32) (x_t_personCount : Int32) (x_t_unitCount : Int32) (x_t_persons : Nat → Option Nat) : va_W := [(a_t, .inr (5, [.int x_t_placeCount, .ref a_t_right, .ref a_t_persons, .int x_t_personCount, .ref a_t_table, .ref a_t_joining, .ref a_t_units, .int x_t_unitCount, .ref a_t_draft, .ref a_t_reader])), (a_t_persons, .inl (G.2 3, 8, .inr (.inr (.inr (.inr x_t_persons)))))]
def f_PS_find  (p0 : Int32) (x_t_placeCount : Int32) (x_t_personCount : Int32) (x_t_unitCount : Int32) (x_t_persons : Nat → Option Nat) : Option ((Option Nat)) :=
  (if p0 < 0 then some none else (if x_t_personCount ≤ p0 then some none else (if inB p0 8 then some (x_t_persons p0.toNatClampNeg) else none)))
set_option maxHeartbeats 4000000 in
set_option maxRecDepth 100000 in
theorem c_PS_find (l : Launch) (G : gG) (sz : Nat) (a_t a_t_right a_t_table a_t_joining a_t_units a_t_draft a_t_reader a_t_persons : Nat)  (p0 : Int32) (x_t_placeCount : Int32) (x_t_personCount : Int32) (x_t_unitCount : Int32) (x_t_persons : Nat → Option Nat) (r : Option Nat) (h : f_PS_find p0 x_t_placeCount x_t_personCount x_t_unitCount x_t_persons = some r)  : cN l y_PS_find w_PS_find { frames := 0, cells := 0, slots := 0, locals := 0 } G sz [.ref a_t, .int p0] (ws_PS_find G a_t a_t_right a_t_table a_t_joining a_t_units a_t_draft a_t_reader a_t_persons x_t_placeCount x_t_personCount x_t_unitCount x_t_persons) (some (va_rf r)) (wB G (ws_PS_find G a_t a_t_right a_t_table a_t_joining a_t_units a_t_draft a_t_reader a_t_persons x_t_placeCount x_t_personCount x_t_unitCount x_t_persons)) 0 0 := by
  refine cN_ofW (cc := prog_1_method_25_code) (maxL := 2) (ret := (some (.object "PlayStates$Person"))) (by decide) rfl (Nat.le_of_ble_eq_true rfl) ?_
  intro p e s m args below meth c A H locs ls hx hb hr hts hown hlocks hin hml hK hN hP hD hA hS hl
  replace hl : lv_has ls 2 [(0, .ref a_t), (1, .int p0)] := hl
  replace hown : s.vm.findClass "PlayStates" = some m.cls := hown
  unfold f_PS_find at h
  refine lv_iload_n hx hb d_PS_find_0 rfl (lv_at hl 1 rfl) ?_
  refine lv_if_lt (tgt := 21) hx hb d_PS_find_1 (by decide) (fun c1 => ?_) (fun c1 => ?_)
  · replace h := (if_pos c1).symm.trans h
    refine lv_null hx hb d_PS_find_21 ?_
    cases h
    exact q_aretW hx hb hr hlocks (Or.inl rfl) hP hD hS d_PS_find_22
  · replace h := (if_neg c1).symm.trans h
    refine lv_iload_n hx hb d_PS_find_4 rfl (lv_at hl 1 rfl) ?_
    refine lv_aload_n hx hb d_PS_find_5 rfl (lv_at hl 0 rfl) ?_
    refine va_get (D := G.1) (ci := 5) (v := .int x_t_personCount) (C := "PlayStates") (T := TPS) (N := 10) hx hb hts iw_5 hown hK hP 0 rfl rfl 3 (by decide) (hts _ gw_105) (fun _ h9 => h9) rfl d_PS_find_6 ?_
    refine lv_icmp_ge (tgt := 21) hx hb d_PS_find_9 (by decide) (fun c2 => ?_) (fun c2 => ?_)
    · replace h := (if_pos c2).symm.trans h
      refine lv_null hx hb d_PS_find_21 ?_
      cases h
      exact q_aretW hx hb hr hlocks (Or.inl rfl) hP hD hS d_PS_find_22
    · replace h := (if_neg c2).symm.trans h
      refine lv_aload_n hx hb d_PS_find_12 rfl (lv_at hl 0 rfl) ?_
      refine va_get (D := G.1) (ci := 5) (v := .ref a_t_persons) (C := "PlayStates") (T := TPS) (N := 10) hx hb hts iw_5 hown hK hP 0 rfl rfl 2 (by decide) (hts _ gw_104) (fun _ h9 => h9) rfl d_PS_find_13 ?_
      refine lv_iload_n hx hb d_PS_find_16 rfl (lv_at hl 1 rfl) ?_
      obtain ⟨i3, h⟩ := o_if h
      refine va_aldq (n := 8) (f := x_t_persons) hx hb hK hP 1 3 rfl rfl i3 d_PS_find_17 ?_
      refine lv_goto (tgt := 22) hx hb d_PS_find_18 (by decide) ?_
      cases h
      exact q_aretW hx hb hr hlocks (va_rf_or _) hP hD hS d_PS_find_22

theorem gw_80 : (.fieldLink "PlayStates$Board" 15 "PlayStates$Board" "markBits" "[I" : Cond) ∈ GW := gT 63 (by decide +kernel) (by decide +kernel)
theorem d_Bd_hasMark_0 : decode prog_2_method_3_code 0 = .ok (.aload_n 0, 1) := by decide +kernel
theorem d_Bd_hasMark_1 : decode prog_2_method_3_code 1 = .ok (.getfield 15, 3) := by decide +kernel
theorem d_Bd_hasMark_4 : decode prog_2_method_3_code 4 = .ok (.iload_n 1, 1) := by decide +kernel
theorem d_Bd_hasMark_5 : decode prog_2_method_3_code 5 = .ok (.iaload, 1) := by decide +kernel
theorem d_Bd_hasMark_6 : decode prog_2_method_3_code 6 = .ok (.iconst 1, 1) := by decide +kernel
theorem d_Bd_hasMark_7 : decode prog_2_method_3_code 7 = .ok (.iload_n 2, 1) := by decide +kernel
theorem d_Bd_hasMark_8 : decode prog_2_method_3_code 8 = .ok (.ishl, 1) := by decide +kernel
theorem d_Bd_hasMark_9 : decode prog_2_method_3_code 9 = .ok (.iand, 1) := by decide +kernel
theorem d_Bd_hasMark_10 : decode prog_2_method_3_code 10 = .ok (.ifCond .eq 7, 3) := by decide +kernel
theorem d_Bd_hasMark_13 : decode prog_2_method_3_code 13 = .ok (.iconst 1, 1) := by decide +kernel
theorem d_Bd_hasMark_14 : decode prog_2_method_3_code 14 = .ok (.goto 4, 3) := by decide +kernel
theorem d_Bd_hasMark_17 : decode prog_2_method_3_code 17 = .ok (.iconst 0, 1) := by decide +kernel
theorem d_Bd_hasMark_18 : decode prog_2_method_3_code 18 = .ok (.ireturn, 1) := by decide +kernel
-- PlayStates$Board.hasMark(II)Z 
def ws_Bd_hasMark (G : gG) (a_t a_t_entries a_t_markBits : Nat) (n : Nat) (x_t_markBits : Nat → Int32) : va_W := [(a_t, .inr (0, [.ref a_t_entries, .ref a_t_markBits])), (a_t_markBits, .inl (G.2 0, n, .inl x_t_markBits))]
def f_Bd_hasMark (n : Nat) (p0 : Int32) (p1 : Int32) (x_t_markBits : Nat → Int32) : Option (Int32) :=
  (if inB p0 n then (if ((x_t_markBits p0.toNatClampNeg) &&& ((1 : Int32) <<< (p1 &&& 31))) = 0 then some (0 : Int32) else some (1 : Int32)) else none)
set_option maxHeartbeats 4000000 in
set_option maxRecDepth 100000 in
theorem c_Bd_hasMark (l : Launch) (G : gG) (sz : Nat) (a_t a_t_entries a_t_markBits : Nat) (n : Nat) (p0 : Int32) (p1 : Int32) (x_t_markBits : Nat → Int32) (r : Int32) (h : f_Bd_hasMark n p0 p1 x_t_markBits = some r)  : cN l y_Bd_hasMark w_Bd_hasMark { frames := 0, cells := 0, slots := 0, locals := 0 } G sz [.ref a_t, .int p0, .int p1] (ws_Bd_hasMark G a_t a_t_entries a_t_markBits n x_t_markBits) (some (.int r)) (wB G (ws_Bd_hasMark G a_t a_t_entries a_t_markBits n x_t_markBits)) 0 0 := by
  refine cN_ofW (cc := prog_2_method_3_code) (maxL := 3) (ret := (some .boolean)) (by decide) rfl (Nat.le_of_ble_eq_true rfl) ?_
  intro p e s m args below meth c A H locs ls hx hb hr hts hown hlocks hin hml hK hN hP hD hA hS hl
  replace hl : lv_has ls 3 [(0, .ref a_t), (1, .int p0), (2, .int p1)] := hl
  replace hown : s.vm.findClass "PlayStates$Board" = some m.cls := hown
  unfold f_Bd_hasMark at h
  refine lv_aload_n hx hb d_Bd_hasMark_0 rfl (lv_at hl 0 rfl) ?_
  refine va_get (D := G.1) (ci := 0) (v := .ref a_t_markBits) (C := "PlayStates$Board") (T := TBd) (N := 2) hx hb hts iw_0 hown hK hP 0 rfl rfl 1 (by decide) (hts _ gw_80) (fun _ h9 => h9) rfl d_Bd_hasMark_1 ?_
  refine lv_iload_n hx hb d_Bd_hasMark_4 rfl (lv_at hl 1 rfl) ?_
  obtain ⟨i1, h⟩ := o_if h
  refine va_iald (n := n) (f := x_t_markBits) hx hb hK hP 1 0 rfl rfl i1 d_Bd_hasMark_5 ?_
  refine lv_iconst (v := (1 : Int32)) hx hb d_Bd_hasMark_6 (by decide) ?_
  refine lv_iload_n hx hb d_Bd_hasMark_7 rfl (lv_at hl 2 rfl) ?_
  refine lv_ishl hx hb d_Bd_hasMark_8 ?_
  refine lv_iand hx hb d_Bd_hasMark_9 ?_
  refine lv_if_eq (tgt := 17) hx hb d_Bd_hasMark_10 (by decide) (fun c2 => ?_) (fun c2 => ?_)
  · replace h := (if_pos c2).symm.trans h
    refine lv_iconst (v := (0 : Int32)) hx hb d_Bd_hasMark_17 (by decide) ?_
    cases h
    exact q_zretW hx hb hr hlocks (by decide) hP hD hS d_Bd_hasMark_18
  · replace h := (if_neg c2).symm.trans h
    refine lv_iconst (v := (1 : Int32)) hx hb d_Bd_hasMark_13 (by decide) ?_
    refine lv_goto (tgt := 18) hx hb d_Bd_hasMark_14 (by decide) ?_
    cases h
    exact q_zretW hx hb hr hlocks (by decide) hP hD hS d_Bd_hasMark_18

theorem gw_182 : (.code ⟨"PlayStates$Board", "hasMark", "(II)Z"⟩ prog_2_method_3_code 3 (some .boolean) : Cond) ∈ GW := gT 208 (by decide +kernel) (by decide +kernel)
theorem gw_179 : (.methodLink "PlayStates$Board" 24 ⟨"PlayStates$Board", "hasMark", "(II)Z"⟩ : Cond) ∈ GW := gT 205 (by decide +kernel) (by decide +kernel)
theorem gw_34 : (.initialized "PlayStates$Board" : Cond) ∈ GW := gT 4 (by decide +kernel) (by decide +kernel)
theorem gw_180 : (.instanceMethod ⟨"PlayStates$Board", "hasMark", "(II)Z"⟩ : Cond) ∈ GW := gT 206 (by decide +kernel) (by decide +kernel)
theorem gw_181 : (.selects "PlayStates$Board" ⟨"PlayStates$Board", "hasMark", "(II)Z"⟩ ⟨"PlayStates$Board", "hasMark", "(II)Z"⟩ : Cond) ∈ GW := gT 207 (by decide +kernel) (by decide +kernel)
theorem gw_79 : (.fieldLink "PlayStates$Board" 9 "PlayStates$Board" "entries" "[I" : Cond) ∈ GW := gT 61 (by decide +kernel) (by decide +kernel)
theorem d_Bd_asItIs_0 : decode prog_2_method_4_code 0 = .ok (.iload_n 2, 1) := by decide +kernel
theorem d_Bd_asItIs_1 : decode prog_2_method_4_code 1 = .ok (.bipush 10, 2) := by decide +kernel
theorem d_Bd_asItIs_3 : decode prog_2_method_4_code 3 = .ok (.if_icmp .ge 10, 3) := by decide +kernel
theorem d_Bd_asItIs_6 : decode prog_2_method_4_code 6 = .ok (.aload_n 0, 1) := by decide +kernel
theorem d_Bd_asItIs_7 : decode prog_2_method_4_code 7 = .ok (.getfield 9, 3) := by decide +kernel
theorem d_Bd_asItIs_10 : decode prog_2_method_4_code 10 = .ok (.iload_n 1, 1) := by decide +kernel
theorem d_Bd_asItIs_11 : decode prog_2_method_4_code 11 = .ok (.iaload, 1) := by decide +kernel
theorem d_Bd_asItIs_12 : decode prog_2_method_4_code 12 = .ok (.ireturn, 1) := by decide +kernel
theorem d_Bd_asItIs_13 : decode prog_2_method_4_code 13 = .ok (.iload_n 2, 1) := by decide +kernel
theorem d_Bd_asItIs_14 : decode prog_2_method_4_code 14 = .ok (.bipush 20, 2) := by decide +kernel
theorem d_Bd_asItIs_16 : decode prog_2_method_4_code 16 = .ok (.if_icmp .ge 10, 3) := by decide +kernel
theorem d_Bd_asItIs_19 : decode prog_2_method_4_code 19 = .ok (.iload_n 2, 1) := by decide +kernel
theorem d_Bd_asItIs_20 : decode prog_2_method_4_code 20 = .ok (.bipush 10, 2) := by decide +kernel
theorem d_Bd_asItIs_22 : decode prog_2_method_4_code 22 = .ok (.isub, 1) := by decide +kernel
theorem d_Bd_asItIs_23 : decode prog_2_method_4_code 23 = .ok (.goto 7, 3) := by decide +kernel
theorem d_Bd_asItIs_26 : decode prog_2_method_4_code 26 = .ok (.iload_n 2, 1) := by decide +kernel
theorem d_Bd_asItIs_27 : decode prog_2_method_4_code 27 = .ok (.bipush 20, 2) := by decide +kernel
theorem d_Bd_asItIs_29 : decode prog_2_method_4_code 29 = .ok (.isub, 1) := by decide +kernel
theorem d_Bd_asItIs_30 : decode prog_2_method_4_code 30 = .ok (.istore_n 3, 1) := by decide +kernel
theorem d_Bd_asItIs_31 : decode prog_2_method_4_code 31 = .ok (.aload_n 0, 1) := by decide +kernel
theorem d_Bd_asItIs_32 : decode prog_2_method_4_code 32 = .ok (.iload_n 1, 1) := by decide +kernel
theorem d_Bd_asItIs_33 : decode prog_2_method_4_code 33 = .ok (.iload_n 3, 1) := by decide +kernel
theorem d_Bd_asItIs_34 : decode prog_2_method_4_code 34 = .ok (.invokevirtual 24, 3) := by decide +kernel
theorem d_Bd_asItIs_37 : decode prog_2_method_4_code 37 = .ok (.ifCond .eq 10, 3) := by decide +kernel
theorem d_Bd_asItIs_40 : decode prog_2_method_4_code 40 = .ok (.bipush 10, 2) := by decide +kernel
theorem d_Bd_asItIs_42 : decode prog_2_method_4_code 42 = .ok (.iload_n 3, 1) := by decide +kernel
theorem d_Bd_asItIs_43 : decode prog_2_method_4_code 43 = .ok (.iadd, 1) := by decide +kernel
theorem d_Bd_asItIs_44 : decode prog_2_method_4_code 44 = .ok (.goto 7, 3) := by decide +kernel
theorem d_Bd_asItIs_47 : decode prog_2_method_4_code 47 = .ok (.bipush 20, 2) := by decide +kernel
theorem d_Bd_asItIs_49 : decode prog_2_method_4_code 49 = .ok (.iload_n 3, 1) := by decide +kernel
theorem d_Bd_asItIs_50 : decode prog_2_method_4_code 50 = .ok (.iadd, 1) := by decide +kernel
theorem d_Bd_asItIs_51 : decode prog_2_method_4_code 51 = .ok (.ireturn, 1) := by decide +kernel
-- PlayStates$Board.asItIs(II)I 
def ws_Bd_asItIs (G : gG) (a_t a_t_entries a_t_markBits : Nat) (n : Nat) (x_t_entries : Nat → Int32) (x_t_markBits : Nat → Int32) : va_W := [(a_t, .inr (0, [.ref a_t_entries, .ref a_t_markBits])), (a_t_entries, .inl (G.2 0, n, .inl x_t_entries)), (a_t_markBits, .inl (G.2 0, n, .inl x_t_markBits))]
def f_Bd_asItIs (n : Nat) (p0 : Int32) (p1 : Int32) (x_t_entries : Nat → Int32) (x_t_markBits : Nat → Int32) : Option (Int32) :=
  (if (10 : Int32) ≤ p1 then (if (20 : Int32) ≤ p1 then ((f_Bd_hasMark n p0 (p1 - (20 : Int32)) x_t_markBits).bind fun y3 => (if y3 = 0 then some ((20 : Int32) + (p1 - (20 : Int32))) else some ((10 : Int32) + (p1 - (20 : Int32))))) else ((f_Bd_hasMark n p0 (p1 - (10 : Int32)) x_t_markBits).bind fun y5 => (if y5 = 0 then some ((20 : Int32) + (p1 - (10 : Int32))) else some ((10 : Int32) + (p1 - (10 : Int32)))))) else (if inB p0 n then some (x_t_entries p0.toNatClampNeg) else none))
set_option maxHeartbeats 4000000 in
set_option maxRecDepth 100000 in
theorem c_Bd_asItIs (l : Launch) (G : gG) (sz : Nat) (a_t a_t_entries a_t_markBits : Nat) (n : Nat) (p0 : Int32) (p1 : Int32) (x_t_entries : Nat → Int32) (x_t_markBits : Nat → Int32) (r : Int32) (h : f_Bd_asItIs n p0 p1 x_t_entries x_t_markBits = some r)  : cN l y_Bd_asItIs w_Bd_asItIs { frames := 1, cells := 0, slots := 0, locals := 22 } G sz [.ref a_t, .int p0, .int p1] (ws_Bd_asItIs G a_t a_t_entries a_t_markBits n x_t_entries x_t_markBits) (some (.int r)) (wB G (ws_Bd_asItIs G a_t a_t_entries a_t_markBits n x_t_entries x_t_markBits)) 0 0 := by
  refine cN_ofW (cc := prog_2_method_4_code) (maxL := 4) (ret := (some .int)) (by decide) rfl (Nat.le_of_ble_eq_true rfl) ?_
  intro p e s m args below meth c A H locs ls hx hb hr hts hown hlocks hin hml hK hN hP hD hA hS hl
  replace hl : lv_has ls 4 [(0, .ref a_t), (1, .int p0), (2, .int p1)] := hl
  replace hown : s.vm.findClass "PlayStates$Board" = some m.cls := hown
  unfold f_Bd_asItIs at h
  refine lv_iload_n hx hb d_Bd_asItIs_0 rfl (lv_at hl 2 rfl) ?_
  refine lv_bipush (v := (10 : Int32)) hx hb d_Bd_asItIs_1 (by decide) ?_
  refine lv_icmp_ge (tgt := 13) hx hb d_Bd_asItIs_3 (by decide) (fun c1 => ?_) (fun c1 => ?_)
  · replace h := (if_pos c1).symm.trans h
    refine lv_iload_n hx hb d_Bd_asItIs_13 rfl (lv_at hl 2 rfl) ?_
    refine lv_bipush (v := (20 : Int32)) hx hb d_Bd_asItIs_14 (by decide) ?_
    refine lv_icmp_ge (tgt := 26) hx hb d_Bd_asItIs_16 (by decide) (fun c2 => ?_) (fun c2 => ?_)
    · replace h := (if_pos c2).symm.trans h
      refine lv_iload_n hx hb d_Bd_asItIs_26 rfl (lv_at hl 2 rfl) ?_
      refine lv_bipush (v := (20 : Int32)) hx hb d_Bd_asItIs_27 (by decide) ?_
      refine lv_isub hx hb d_Bd_asItIs_29 ?_
      refine lv_istore_n (lv' := [(3, .int (p1 - (20 : Int32))), (0, .ref a_t), (1, .int p0), (2, .int p1)]) hx hb d_Bd_asItIs_30 rfl hl (by decide) rfl (fun ls hl => ?_)
      refine lv_aload_n hx hb d_Bd_asItIs_31 rfl (lv_at hl 1 rfl) ?_
      refine lv_iload_n hx hb d_Bd_asItIs_32 rfl (lv_at hl 2 rfl) ?_
      refine lv_iload_n hx hb d_Bd_asItIs_33 rfl (lv_at hl 0 rfl) ?_
      obtain ⟨y3, hy3, h⟩ := o_bind h
      have hPc := hP.sub (ws' := (ws_Bd_hasMark G a_t a_t_entries a_t_markBits n x_t_markBits)) [0, 2] rfl
      have hDc := hD.sub (ws' := (ws_Bd_hasMark G a_t a_t_entries a_t_markBits n x_t_markBits)) [0, 2] (by decide) rfl
      have hFc := va_free (wc := (ws_Bd_hasMark G a_t a_t_entries a_t_markBits n x_t_markBits)) hD hS hA [0, 2] rfl
      refine q_call1 (va_runV (As := [.int p0, .int (p1 - (20 : Int32))]) (rest := []) ⟨hx, hb, hml, hown, hts⟩ (c_Bd_hasMark l G H.size a_t a_t_entries a_t_markBits n p0 (p1 - (20 : Int32)) x_t_markBits _ hy3) (cwV 2 hts (gV gw_179 gw_180 gw_181 gw_34 gw_182) rfl rfl rfl (by decide +kernel) ⟨Nat.le_of_ble_eq_true rfl, Nat.le_of_ble_eq_true rfl⟩) (pV hK hN hPc hDc (ci := 0) (q0 := 0) rfl rfl) rfl rfl hl.1 rfl (lv_room (Nat.le_of_ble_eq_true rfl)) d_Bd_asItIs_34 ⟨Nat.le_of_ble_eq_true rfl, Nat.le_of_ble_eq_true rfl⟩) hS (fun q _ h => hFc q h) hFc (fun H1 locs hB hz hk hS => ?_)
      obtain ⟨hP, hD⟩ := q_join (wr := [(a_t_entries, .inl (G.2 0, n, .inl x_t_entries))]) (wn := (ws_Bd_asItIs G a_t a_t_entries a_t_markBits n x_t_entries x_t_markBits)) hP hD [0, 2] [1] [1, 0, 2] rfl rfl (by decide) (by decide) rfl (by decide) hk hFc hB.1 hB.2
      generalize H1 = H at hP hS ⊢
      replace hP : va_P G.1 vwCl (ws_Bd_asItIs G a_t a_t_entries a_t_markBits n x_t_entries x_t_markBits) H := hP
      replace hD : va_D A (ws_Bd_asItIs G a_t a_t_entries a_t_markBits n x_t_entries x_t_markBits) := hD
      refine lv_if_eq (tgt := 47) hx hb d_Bd_asItIs_37 (by decide) (fun c4 => ?_) (fun c4 => ?_)
      · replace h := (if_pos c4).symm.trans h
        refine lv_bipush (v := (20 : Int32)) hx hb d_Bd_asItIs_47 (by decide) ?_
        refine lv_iload_n hx hb d_Bd_asItIs_49 rfl (lv_at hl 0 rfl) ?_
        refine lv_iadd hx hb d_Bd_asItIs_50 ?_
        cases h
        exact q_iretW hx hb hr hlocks hP hD hS d_Bd_asItIs_51
      · replace h := (if_neg c4).symm.trans h
        refine lv_bipush (v := (10 : Int32)) hx hb d_Bd_asItIs_40 (by decide) ?_
        refine lv_iload_n hx hb d_Bd_asItIs_42 rfl (lv_at hl 0 rfl) ?_
        refine lv_iadd hx hb d_Bd_asItIs_43 ?_
        refine lv_goto (tgt := 51) hx hb d_Bd_asItIs_44 (by decide) ?_
        cases h
        exact q_iretW hx hb hr hlocks hP hD hS d_Bd_asItIs_51
    · replace h := (if_neg c2).symm.trans h
      refine lv_iload_n hx hb d_Bd_asItIs_19 rfl (lv_at hl 2 rfl) ?_
      refine lv_bipush (v := (10 : Int32)) hx hb d_Bd_asItIs_20 (by decide) ?_
      refine lv_isub hx hb d_Bd_asItIs_22 ?_
      refine lv_goto (tgt := 30) hx hb d_Bd_asItIs_23 (by decide) ?_
      refine lv_istore_n (lv' := [(3, .int (p1 - (10 : Int32))), (0, .ref a_t), (1, .int p0), (2, .int p1)]) hx hb d_Bd_asItIs_30 rfl hl (by decide) rfl (fun ls hl => ?_)
      refine lv_aload_n hx hb d_Bd_asItIs_31 rfl (lv_at hl 1 rfl) ?_
      refine lv_iload_n hx hb d_Bd_asItIs_32 rfl (lv_at hl 2 rfl) ?_
      refine lv_iload_n hx hb d_Bd_asItIs_33 rfl (lv_at hl 0 rfl) ?_
      obtain ⟨y5, hy5, h⟩ := o_bind h
      have hPc := hP.sub (ws' := (ws_Bd_hasMark G a_t a_t_entries a_t_markBits n x_t_markBits)) [0, 2] rfl
      have hDc := hD.sub (ws' := (ws_Bd_hasMark G a_t a_t_entries a_t_markBits n x_t_markBits)) [0, 2] (by decide) rfl
      have hFc := va_free (wc := (ws_Bd_hasMark G a_t a_t_entries a_t_markBits n x_t_markBits)) hD hS hA [0, 2] rfl
      refine q_call1 (va_runV (As := [.int p0, .int (p1 - (10 : Int32))]) (rest := []) ⟨hx, hb, hml, hown, hts⟩ (c_Bd_hasMark l G H.size a_t a_t_entries a_t_markBits n p0 (p1 - (10 : Int32)) x_t_markBits _ hy5) (cwV 2 hts (gV gw_179 gw_180 gw_181 gw_34 gw_182) rfl rfl rfl (by decide +kernel) ⟨Nat.le_of_ble_eq_true rfl, Nat.le_of_ble_eq_true rfl⟩) (pV hK hN hPc hDc (ci := 0) (q0 := 0) rfl rfl) rfl rfl hl.1 rfl (lv_room (Nat.le_of_ble_eq_true rfl)) d_Bd_asItIs_34 ⟨Nat.le_of_ble_eq_true rfl, Nat.le_of_ble_eq_true rfl⟩) hS (fun q _ h => hFc q h) hFc (fun H1 locs hB hz hk hS => ?_)
      obtain ⟨hP, hD⟩ := q_join (wr := [(a_t_entries, .inl (G.2 0, n, .inl x_t_entries))]) (wn := (ws_Bd_asItIs G a_t a_t_entries a_t_markBits n x_t_entries x_t_markBits)) hP hD [0, 2] [1] [1, 0, 2] rfl rfl (by decide) (by decide) rfl (by decide) hk hFc hB.1 hB.2
      generalize H1 = H at hP hS ⊢
      replace hP : va_P G.1 vwCl (ws_Bd_asItIs G a_t a_t_entries a_t_markBits n x_t_entries x_t_markBits) H := hP
      replace hD : va_D A (ws_Bd_asItIs G a_t a_t_entries a_t_markBits n x_t_entries x_t_markBits) := hD
      refine lv_if_eq (tgt := 47) hx hb d_Bd_asItIs_37 (by decide) (fun c6 => ?_) (fun c6 => ?_)
      · replace h := (if_pos c6).symm.trans h
        refine lv_bipush (v := (20 : Int32)) hx hb d_Bd_asItIs_47 (by decide) ?_
        refine lv_iload_n hx hb d_Bd_asItIs_49 rfl (lv_at hl 0 rfl) ?_
        refine lv_iadd hx hb d_Bd_asItIs_50 ?_
        cases h
        exact q_iretW hx hb hr hlocks hP hD hS d_Bd_asItIs_51
      · replace h := (if_neg c6).symm.trans h
        refine lv_bipush (v := (10 : Int32)) hx hb d_Bd_asItIs_40 (by decide) ?_
        refine lv_iload_n hx hb d_Bd_asItIs_42 rfl (lv_at hl 0 rfl) ?_
        refine lv_iadd hx hb d_Bd_asItIs_43 ?_
        refine lv_goto (tgt := 51) hx hb d_Bd_asItIs_44 (by decide) ?_
        cases h
        exact q_iretW hx hb hr hlocks hP hD hS d_Bd_asItIs_51
  · replace h := (if_neg c1).symm.trans h
    refine lv_aload_n hx hb d_Bd_asItIs_6 rfl (lv_at hl 0 rfl) ?_
    refine va_get (D := G.1) (ci := 0) (v := .ref a_t_entries) (C := "PlayStates$Board") (T := TBd) (N := 2) hx hb hts iw_0 hown hK hP 0 rfl rfl 0 (by decide) (hts _ gw_79) (fun _ h9 => h9) rfl d_Bd_asItIs_7 ?_
    refine lv_iload_n hx hb d_Bd_asItIs_10 rfl (lv_at hl 1 rfl) ?_
    obtain ⟨i7, h⟩ := o_if h
    refine va_iald (n := n) (f := x_t_entries) hx hb hK hP 1 0 rfl rfl i7 d_Bd_asItIs_11 ?_
    cases h
    exact q_iretW hx hb hr hlocks hP hD hS d_Bd_asItIs_12

theorem d_Bd_put_0 : decode prog_2_method_5_code 0 = .ok (.iload_n 2, 1) := by decide +kernel
theorem d_Bd_put_1 : decode prog_2_method_5_code 1 = .ok (.bipush 10, 2) := by decide +kernel
theorem d_Bd_put_3 : decode prog_2_method_5_code 3 = .ok (.if_icmp .ge 13, 3) := by decide +kernel
theorem d_Bd_put_6 : decode prog_2_method_5_code 6 = .ok (.aload_n 0, 1) := by decide +kernel
theorem d_Bd_put_7 : decode prog_2_method_5_code 7 = .ok (.getfield 9, 3) := by decide +kernel
theorem d_Bd_put_10 : decode prog_2_method_5_code 10 = .ok (.iload_n 1, 1) := by decide +kernel
theorem d_Bd_put_11 : decode prog_2_method_5_code 11 = .ok (.iload_n 2, 1) := by decide +kernel
theorem d_Bd_put_12 : decode prog_2_method_5_code 12 = .ok (.iastore, 1) := by decide +kernel
theorem d_Bd_put_13 : decode prog_2_method_5_code 13 = .ok (.goto 44, 3) := by decide +kernel
theorem d_Bd_put_16 : decode prog_2_method_5_code 16 = .ok (.iload_n 2, 1) := by decide +kernel
theorem d_Bd_put_17 : decode prog_2_method_5_code 17 = .ok (.bipush 20, 2) := by decide +kernel
theorem d_Bd_put_19 : decode prog_2_method_5_code 19 = .ok (.if_icmp .ge 21, 3) := by decide +kernel
theorem d_Bd_put_22 : decode prog_2_method_5_code 22 = .ok (.aload_n 0, 1) := by decide +kernel
theorem d_Bd_put_23 : decode prog_2_method_5_code 23 = .ok (.getfield 15, 3) := by decide +kernel
theorem d_Bd_put_26 : decode prog_2_method_5_code 26 = .ok (.iload_n 1, 1) := by decide +kernel
theorem d_Bd_put_27 : decode prog_2_method_5_code 27 = .ok (.dup2, 1) := by decide +kernel
theorem d_Bd_put_28 : decode prog_2_method_5_code 28 = .ok (.iaload, 1) := by decide +kernel
theorem d_Bd_put_29 : decode prog_2_method_5_code 29 = .ok (.iconst 1, 1) := by decide +kernel
theorem d_Bd_put_30 : decode prog_2_method_5_code 30 = .ok (.iload_n 2, 1) := by decide +kernel
theorem d_Bd_put_31 : decode prog_2_method_5_code 31 = .ok (.bipush 10, 2) := by decide +kernel
theorem d_Bd_put_33 : decode prog_2_method_5_code 33 = .ok (.isub, 1) := by decide +kernel
theorem d_Bd_put_34 : decode prog_2_method_5_code 34 = .ok (.ishl, 1) := by decide +kernel
theorem d_Bd_put_35 : decode prog_2_method_5_code 35 = .ok (.ior, 1) := by decide +kernel
theorem d_Bd_put_36 : decode prog_2_method_5_code 36 = .ok (.iastore, 1) := by decide +kernel
theorem d_Bd_put_37 : decode prog_2_method_5_code 37 = .ok (.goto 20, 3) := by decide +kernel
theorem d_Bd_put_40 : decode prog_2_method_5_code 40 = .ok (.aload_n 0, 1) := by decide +kernel
theorem d_Bd_put_41 : decode prog_2_method_5_code 41 = .ok (.getfield 15, 3) := by decide +kernel
theorem d_Bd_put_44 : decode prog_2_method_5_code 44 = .ok (.iload_n 1, 1) := by decide +kernel
theorem d_Bd_put_45 : decode prog_2_method_5_code 45 = .ok (.dup2, 1) := by decide +kernel
theorem d_Bd_put_46 : decode prog_2_method_5_code 46 = .ok (.iaload, 1) := by decide +kernel
theorem d_Bd_put_47 : decode prog_2_method_5_code 47 = .ok (.iconst 1, 1) := by decide +kernel
theorem d_Bd_put_48 : decode prog_2_method_5_code 48 = .ok (.iload_n 2, 1) := by decide +kernel
theorem d_Bd_put_49 : decode prog_2_method_5_code 49 = .ok (.bipush 20, 2) := by decide +kernel
theorem d_Bd_put_51 : decode prog_2_method_5_code 51 = .ok (.isub, 1) := by decide +kernel
theorem d_Bd_put_52 : decode prog_2_method_5_code 52 = .ok (.ishl, 1) := by decide +kernel
theorem d_Bd_put_53 : decode prog_2_method_5_code 53 = .ok (.iconst (-1), 1) := by decide +kernel
theorem d_Bd_put_54 : decode prog_2_method_5_code 54 = .ok (.ixor, 1) := by decide +kernel
theorem d_Bd_put_55 : decode prog_2_method_5_code 55 = .ok (.iand, 1) := by decide +kernel
theorem d_Bd_put_56 : decode prog_2_method_5_code 56 = .ok (.iastore, 1) := by decide +kernel
theorem d_Bd_put_57 : decode prog_2_method_5_code 57 = .ok (.return_, 1) := by decide +kernel
-- PlayStates$Board.put(II)V 
def ws_Bd_put (G : gG) (a_t a_t_entries a_t_markBits : Nat) (n : Nat) (x_t_entries : Nat → Int32) (x_t_markBits : Nat → Int32) : va_W := [(a_t, .inr (0, [.ref a_t_entries, .ref a_t_markBits])), (a_t_entries, .inl (G.2 0, n, .inl x_t_entries)), (a_t_markBits, .inl (G.2 0, n, .inl x_t_markBits))]
def f_Bd_put (n : Nat) (p0 : Int32) (p1 : Int32) (x_t_entries : Nat → Int32) (x_t_markBits : Nat → Int32) : Option ((Nat → Int32) × (Nat → Int32)) :=
  (if (10 : Int32) ≤ p1 then (if (20 : Int32) ≤ p1 then (if inB p0 n then (if inB p0 n then some (x_t_entries, (upd x_t_markBits p0.toNatClampNeg ((x_t_markBits p0.toNatClampNeg) &&& (((1 : Int32) <<< ((p1 - (20 : Int32)) &&& 31)) ^^^ (-1 : Int32))))) else none) else none) else (if inB p0 n then (if inB p0 n then some (x_t_entries, (upd x_t_markBits p0.toNatClampNeg ((x_t_markBits p0.toNatClampNeg) ||| ((1 : Int32) <<< ((p1 - (10 : Int32)) &&& 31))))) else none) else none)) else (if inB p0 n then some ((upd x_t_entries p0.toNatClampNeg p1), x_t_markBits) else none))
set_option maxHeartbeats 4000000 in
set_option maxRecDepth 100000 in
theorem c_Bd_put (l : Launch) (G : gG) (sz : Nat) (a_t a_t_entries a_t_markBits : Nat) (n : Nat) (p0 : Int32) (p1 : Int32) (x_t_entries : Nat → Int32) (x_t_markBits : Nat → Int32) (x_t_entries' : Nat → Int32) (x_t_markBits' : Nat → Int32) (h : f_Bd_put n p0 p1 x_t_entries x_t_markBits = some (x_t_entries', x_t_markBits'))  : cN l y_Bd_put w_Bd_put { frames := 0, cells := 0, slots := 0, locals := 0 } G sz [.ref a_t, .int p0, .int p1] (ws_Bd_put G a_t a_t_entries a_t_markBits n x_t_entries x_t_markBits) none (wB G (ws_Bd_put G a_t a_t_entries a_t_markBits n x_t_entries' x_t_markBits')) 0 0 := by
  refine cN_ofW (cc := prog_2_method_5_code) (maxL := 3) (ret := none) (by decide) rfl (Nat.le_of_ble_eq_true rfl) ?_
  intro p e s m args below meth c A H locs ls hx hb hr hts hown hlocks hin hml hK hN hP hD hA hS hl
  replace hl : lv_has ls 3 [(0, .ref a_t), (1, .int p0), (2, .int p1)] := hl
  replace hown : s.vm.findClass "PlayStates$Board" = some m.cls := hown
  unfold f_Bd_put at h
  refine lv_iload_n hx hb d_Bd_put_0 rfl (lv_at hl 2 rfl) ?_
  refine lv_bipush (v := (10 : Int32)) hx hb d_Bd_put_1 (by decide) ?_
  refine lv_icmp_ge (tgt := 16) hx hb d_Bd_put_3 (by decide) (fun c1 => ?_) (fun c1 => ?_)
  · replace h := (if_pos c1).symm.trans h
    refine lv_iload_n hx hb d_Bd_put_16 rfl (lv_at hl 2 rfl) ?_
    refine lv_bipush (v := (20 : Int32)) hx hb d_Bd_put_17 (by decide) ?_
    refine lv_icmp_ge (tgt := 40) hx hb d_Bd_put_19 (by decide) (fun c2 => ?_) (fun c2 => ?_)
    · replace h := (if_pos c2).symm.trans h
      refine lv_aload_n hx hb d_Bd_put_40 rfl (lv_at hl 0 rfl) ?_
      refine va_get (D := G.1) (ci := 0) (v := .ref a_t_markBits) (C := "PlayStates$Board") (T := TBd) (N := 2) hx hb hts iw_0 hown hK hP 0 rfl rfl 1 (by decide) (hts _ gw_80) (fun _ h9 => h9) rfl d_Bd_put_41 ?_
      refine lv_iload_n hx hb d_Bd_put_44 rfl (lv_at hl 1 rfl) ?_
      refine lv_dup2_11 hx hb d_Bd_put_45 rfl rfl ?_
      obtain ⟨i3, h⟩ := o_if h
      refine va_iald (n := n) (f := x_t_markBits) hx hb hK hP 2 0 rfl rfl i3 d_Bd_put_46 ?_
      refine lv_iconst (v := (1 : Int32)) hx hb d_Bd_put_47 (by decide) ?_
      refine lv_iload_n hx hb d_Bd_put_48 rfl (lv_at hl 2 rfl) ?_
      refine lv_bipush (v := (20 : Int32)) hx hb d_Bd_put_49 (by decide) ?_
      refine lv_isub hx hb d_Bd_put_51 ?_
      refine lv_ishl hx hb d_Bd_put_52 ?_
      refine lv_iconst (v := (-1 : Int32)) hx hb d_Bd_put_53 (by decide) ?_
      refine lv_ixor hx hb d_Bd_put_54 ?_
      refine lv_iand hx hb d_Bd_put_55 ?_
      obtain ⟨i4, h⟩ := o_if h
      refine va_iast (n := n) (f := x_t_markBits) hx hb hK hP hD hS 2 0 rfl rfl i4 d_Bd_put_56 (fun H locs hP hD hS => ?_)
      replace hP : va_P G.1 vwCl (ws_Bd_put G a_t a_t_entries a_t_markBits n x_t_entries (upd x_t_markBits p0.toNatClampNeg ((x_t_markBits p0.toNatClampNeg) &&& (((1 : Int32) <<< ((p1 - (20 : Int32)) &&& 31)) ^^^ (-1 : Int32))))) H := hP
      replace hD : va_D A (ws_Bd_put G a_t a_t_entries a_t_markBits n x_t_entries (upd x_t_markBits p0.toNatClampNeg ((x_t_markBits p0.toNatClampNeg) &&& (((1 : Int32) <<< ((p1 - (20 : Int32)) &&& 31)) ^^^ (-1 : Int32))))) := hD
      cases h
      exact q_vretW hx hb hr hlocks hP hD hS d_Bd_put_57
    · replace h := (if_neg c2).symm.trans h
      refine lv_aload_n hx hb d_Bd_put_22 rfl (lv_at hl 0 rfl) ?_
      refine va_get (D := G.1) (ci := 0) (v := .ref a_t_markBits) (C := "PlayStates$Board") (T := TBd) (N := 2) hx hb hts iw_0 hown hK hP 0 rfl rfl 1 (by decide) (hts _ gw_80) (fun _ h9 => h9) rfl d_Bd_put_23 ?_
      refine lv_iload_n hx hb d_Bd_put_26 rfl (lv_at hl 1 rfl) ?_
      refine lv_dup2_11 hx hb d_Bd_put_27 rfl rfl ?_
      obtain ⟨i5, h⟩ := o_if h
      refine va_iald (n := n) (f := x_t_markBits) hx hb hK hP 2 0 rfl rfl i5 d_Bd_put_28 ?_
      refine lv_iconst (v := (1 : Int32)) hx hb d_Bd_put_29 (by decide) ?_
      refine lv_iload_n hx hb d_Bd_put_30 rfl (lv_at hl 2 rfl) ?_
      refine lv_bipush (v := (10 : Int32)) hx hb d_Bd_put_31 (by decide) ?_
      refine lv_isub hx hb d_Bd_put_33 ?_
      refine lv_ishl hx hb d_Bd_put_34 ?_
      refine lv_ior hx hb d_Bd_put_35 ?_
      obtain ⟨i6, h⟩ := o_if h
      refine va_iast (n := n) (f := x_t_markBits) hx hb hK hP hD hS 2 0 rfl rfl i6 d_Bd_put_36 (fun H locs hP hD hS => ?_)
      replace hP : va_P G.1 vwCl (ws_Bd_put G a_t a_t_entries a_t_markBits n x_t_entries (upd x_t_markBits p0.toNatClampNeg ((x_t_markBits p0.toNatClampNeg) ||| ((1 : Int32) <<< ((p1 - (10 : Int32)) &&& 31))))) H := hP
      replace hD : va_D A (ws_Bd_put G a_t a_t_entries a_t_markBits n x_t_entries (upd x_t_markBits p0.toNatClampNeg ((x_t_markBits p0.toNatClampNeg) ||| ((1 : Int32) <<< ((p1 - (10 : Int32)) &&& 31))))) := hD
      refine lv_goto (tgt := 57) hx hb d_Bd_put_37 (by decide) ?_
      cases h
      exact q_vretW hx hb hr hlocks hP hD hS d_Bd_put_57
  · replace h := (if_neg c1).symm.trans h
    refine lv_aload_n hx hb d_Bd_put_6 rfl (lv_at hl 0 rfl) ?_
    refine va_get (D := G.1) (ci := 0) (v := .ref a_t_entries) (C := "PlayStates$Board") (T := TBd) (N := 2) hx hb hts iw_0 hown hK hP 0 rfl rfl 0 (by decide) (hts _ gw_79) (fun _ h9 => h9) rfl d_Bd_put_7 ?_
    refine lv_iload_n hx hb d_Bd_put_10 rfl (lv_at hl 1 rfl) ?_
    refine lv_iload_n hx hb d_Bd_put_11 rfl (lv_at hl 2 rfl) ?_
    obtain ⟨i7, h⟩ := o_if h
    refine va_iast (n := n) (f := x_t_entries) hx hb hK hP hD hS 1 0 rfl rfl i7 d_Bd_put_12 (fun H locs hP hD hS => ?_)
    replace hP : va_P G.1 vwCl (ws_Bd_put G a_t a_t_entries a_t_markBits n (upd x_t_entries p0.toNatClampNeg p1) x_t_markBits) H := hP
    replace hD : va_D A (ws_Bd_put G a_t a_t_entries a_t_markBits n (upd x_t_entries p0.toNatClampNeg p1) x_t_markBits) := hD
    refine lv_goto (tgt := 57) hx hb d_Bd_put_13 (by decide) ?_
    cases h
    exact q_vretW hx hb hr hlocks hP hD hS d_Bd_put_57

theorem gw_145 : (.fieldLink "PlayStates$Clock" 7 "PlayStates$Clock" "lastTold" "J" : Cond) ∈ GW := gT 153 (by decide +kernel) (by decide +kernel)
theorem d_Ck_mayBeTold_0 : decode prog_3_method_2_code 0 = .ok (.lload_n 1, 1) := by decide +kernel
theorem d_Ck_mayBeTold_1 : decode prog_3_method_2_code 1 = .ok (.aload_n 0, 1) := by decide +kernel
theorem d_Ck_mayBeTold_2 : decode prog_3_method_2_code 2 = .ok (.getfield 7, 3) := by decide +kernel
theorem d_Ck_mayBeTold_5 : decode prog_3_method_2_code 5 = .ok (.lcmp, 1) := by decide +kernel
theorem d_Ck_mayBeTold_6 : decode prog_3_method_2_code 6 = .ok (.ifCond .lt 7, 3) := by decide +kernel
theorem d_Ck_mayBeTold_9 : decode prog_3_method_2_code 9 = .ok (.iconst 1, 1) := by decide +kernel
theorem d_Ck_mayBeTold_10 : decode prog_3_method_2_code 10 = .ok (.goto 4, 3) := by decide +kernel
theorem d_Ck_mayBeTold_13 : decode prog_3_method_2_code 13 = .ok (.iconst 0, 1) := by decide +kernel
theorem d_Ck_mayBeTold_14 : decode prog_3_method_2_code 14 = .ok (.ireturn, 1) := by decide +kernel
-- PlayStates$Clock.mayBeTold(J)Z 
def ws_Ck_mayBeTold (G : gG) (a_t : Nat)  (x_t_running : Int32) (x_t_lastTold : Int64) (x_t_counted : Int64) : va_W := [(a_t, .inr (1, [.int x_t_running, .long x_t_lastTold, .long x_t_counted]))]
def f_Ck_mayBeTold  (p0 : Int64) (x_t_running : Int32) (x_t_lastTold : Int64) (x_t_counted : Int64) : Option (Int32) :=
  (if (lg_cmp p0 x_t_lastTold) < 0 then some (0 : Int32) else some (1 : Int32))
set_option maxHeartbeats 4000000 in
set_option maxRecDepth 100000 in
theorem c_Ck_mayBeTold (l : Launch) (G : gG) (sz : Nat) (a_t : Nat)  (p0 : Int64) (x_t_running : Int32) (x_t_lastTold : Int64) (x_t_counted : Int64) (r : Int32) (h : f_Ck_mayBeTold p0 x_t_running x_t_lastTold x_t_counted = some r)  : cN l y_Ck_mayBeTold w_Ck_mayBeTold { frames := 0, cells := 0, slots := 0, locals := 0 } G sz [.ref a_t, .long p0] (ws_Ck_mayBeTold G a_t x_t_running x_t_lastTold x_t_counted) (some (.int r)) (wB G (ws_Ck_mayBeTold G a_t x_t_running x_t_lastTold x_t_counted)) 0 0 := by
  refine cN_ofW (cc := prog_3_method_2_code) (maxL := 3) (ret := (some .boolean)) (by decide) rfl (Nat.le_of_ble_eq_true rfl) ?_
  intro p e s m args below meth c A H locs ls hx hb hr hts hown hlocks hin hml hK hN hP hD hA hS hl
  replace hl : lv_has ls 3 [(0, .ref a_t), (1, .long p0)] := hl
  replace hown : s.vm.findClass "PlayStates$Clock" = some m.cls := hown
  unfold f_Ck_mayBeTold at h
  refine lv_lload_n hx hb d_Ck_mayBeTold_0 rfl (lv_at hl 1 rfl) ?_
  refine lv_aload_n hx hb d_Ck_mayBeTold_1 rfl (lv_at hl 0 rfl) ?_
  refine va_get (D := G.1) (ci := 1) (v := .long x_t_lastTold) (C := "PlayStates$Clock") (T := TCk) (N := 3) hx hb hts iw_1 hown hK hP 0 rfl rfl 1 (by decide) (hts _ gw_145) (fun _ h9 => h9) rfl d_Ck_mayBeTold_2 ?_
  refine W.lcmp hx hb d_Ck_mayBeTold_5 ?_
  refine lv_if_lt (tgt := 13) hx hb d_Ck_mayBeTold_6 (by decide) (fun c1 => ?_) (fun c1 => ?_)
  · replace h := (if_pos c1).symm.trans h
    refine lv_iconst (v := (0 : Int32)) hx hb d_Ck_mayBeTold_13 (by decide) ?_
    cases h
    exact q_zretW hx hb hr hlocks (by decide) hP hD hS d_Ck_mayBeTold_14
  · replace h := (if_neg c1).symm.trans h
    refine lv_iconst (v := (1 : Int32)) hx hb d_Ck_mayBeTold_9 (by decide) ?_
    refine lv_goto (tgt := 14) hx hb d_Ck_mayBeTold_10 (by decide) ?_
    cases h
    exact q_zretW hx hb hr hlocks (by decide) hP hD hS d_Ck_mayBeTold_14

theorem gw_144 : (.fieldLink "PlayStates$Clock" 13 "PlayStates$Clock" "running" "Z" : Cond) ∈ GW := gT 152 (by decide +kernel) (by decide +kernel)
theorem gw_146 : (.fieldLink "PlayStates$Clock" 17 "PlayStates$Clock" "counted" "J" : Cond) ∈ GW := gT 154 (by decide +kernel) (by decide +kernel)
theorem d_Ck_countUpTo_0 : decode prog_3_method_3_code 0 = .ok (.aload_n 0, 1) := by decide +kernel
theorem d_Ck_countUpTo_1 : decode prog_3_method_3_code 1 = .ok (.getfield 13, 3) := by decide +kernel
theorem d_Ck_countUpTo_4 : decode prog_3_method_3_code 4 = .ok (.ifCond .eq 17, 3) := by decide +kernel
theorem d_Ck_countUpTo_7 : decode prog_3_method_3_code 7 = .ok (.aload_n 0, 1) := by decide +kernel
theorem d_Ck_countUpTo_8 : decode prog_3_method_3_code 8 = .ok (.getfield 17, 3) := by decide +kernel
theorem d_Ck_countUpTo_11 : decode prog_3_method_3_code 11 = .ok (.lload_n 1, 1) := by decide +kernel
theorem d_Ck_countUpTo_12 : decode prog_3_method_3_code 12 = .ok (.aload_n 0, 1) := by decide +kernel
theorem d_Ck_countUpTo_13 : decode prog_3_method_3_code 13 = .ok (.getfield 7, 3) := by decide +kernel
theorem d_Ck_countUpTo_16 : decode prog_3_method_3_code 16 = .ok (.lsub, 1) := by decide +kernel
theorem d_Ck_countUpTo_17 : decode prog_3_method_3_code 17 = .ok (.ladd, 1) := by decide +kernel
theorem d_Ck_countUpTo_18 : decode prog_3_method_3_code 18 = .ok (.goto 7, 3) := by decide +kernel
theorem d_Ck_countUpTo_21 : decode prog_3_method_3_code 21 = .ok (.aload_n 0, 1) := by decide +kernel
theorem d_Ck_countUpTo_22 : decode prog_3_method_3_code 22 = .ok (.getfield 17, 3) := by decide +kernel
theorem d_Ck_countUpTo_25 : decode prog_3_method_3_code 25 = .ok (.lreturn, 1) := by decide +kernel
-- PlayStates$Clock.countUpTo(J)J 
def ws_Ck_countUpTo (G : gG) (a_t : Nat)  (x_t_running : Int32) (x_t_lastTold : Int64) (x_t_counted : Int64) : va_W := [(a_t, .inr (1, [.int x_t_running, .long x_t_lastTold, .long x_t_counted]))]
def f_Ck_countUpTo  (p0 : Int64) (x_t_running : Int32) (x_t_lastTold : Int64) (x_t_counted : Int64) : Option (Int64) :=
  (if x_t_running = 0 then some x_t_counted else some (x_t_counted + (p0 - x_t_lastTold)))
set_option maxHeartbeats 4000000 in
set_option maxRecDepth 100000 in
theorem c_Ck_countUpTo (l : Launch) (G : gG) (sz : Nat) (a_t : Nat)  (p0 : Int64) (x_t_running : Int32) (x_t_lastTold : Int64) (x_t_counted : Int64) (r : Int64) (h : f_Ck_countUpTo p0 x_t_running x_t_lastTold x_t_counted = some r)  : cN l y_Ck_countUpTo w_Ck_countUpTo { frames := 0, cells := 0, slots := 0, locals := 0 } G sz [.ref a_t, .long p0] (ws_Ck_countUpTo G a_t x_t_running x_t_lastTold x_t_counted) (some (.long r)) (wB G (ws_Ck_countUpTo G a_t x_t_running x_t_lastTold x_t_counted)) 0 0 := by
  refine cN_ofW (cc := prog_3_method_3_code) (maxL := 3) (ret := (some .long)) (by decide) rfl (Nat.le_of_ble_eq_true rfl) ?_
  intro p e s m args below meth c A H locs ls hx hb hr hts hown hlocks hin hml hK hN hP hD hA hS hl
  replace hl : lv_has ls 3 [(0, .ref a_t), (1, .long p0)] := hl
  replace hown : s.vm.findClass "PlayStates$Clock" = some m.cls := hown
  unfold f_Ck_countUpTo at h
  refine lv_aload_n hx hb d_Ck_countUpTo_0 rfl (lv_at hl 0 rfl) ?_
  refine va_get (D := G.1) (ci := 1) (v := .int x_t_running) (C := "PlayStates$Clock") (T := TCk) (N := 3) hx hb hts iw_1 hown hK hP 0 rfl rfl 0 (by decide) (hts _ gw_144) (fun _ h9 => h9) rfl d_Ck_countUpTo_1 ?_
  refine lv_if_eq (tgt := 21) hx hb d_Ck_countUpTo_4 (by decide) (fun c1 => ?_) (fun c1 => ?_)
  · replace h := (if_pos c1).symm.trans h
    refine lv_aload_n hx hb d_Ck_countUpTo_21 rfl (lv_at hl 0 rfl) ?_
    refine va_get (D := G.1) (ci := 1) (v := .long x_t_counted) (C := "PlayStates$Clock") (T := TCk) (N := 3) hx hb hts iw_1 hown hK hP 0 rfl rfl 2 (by decide) (hts _ gw_146) (fun _ h9 => h9) rfl d_Ck_countUpTo_22 ?_
    cases h
    exact q_lretW hx hb hr hlocks hP hD hS d_Ck_countUpTo_25
  · replace h := (if_neg c1).symm.trans h
    refine lv_aload_n hx hb d_Ck_countUpTo_7 rfl (lv_at hl 0 rfl) ?_
    refine va_get (D := G.1) (ci := 1) (v := .long x_t_counted) (C := "PlayStates$Clock") (T := TCk) (N := 3) hx hb hts iw_1 hown hK hP 0 rfl rfl 2 (by decide) (hts _ gw_146) (fun _ h9 => h9) rfl d_Ck_countUpTo_8 ?_
    refine lv_lload_n hx hb d_Ck_countUpTo_11 rfl (lv_at hl 1 rfl) ?_
    refine lv_aload_n hx hb d_Ck_countUpTo_12 rfl (lv_at hl 0 rfl) ?_
    refine va_get (D := G.1) (ci := 1) (v := .long x_t_lastTold) (C := "PlayStates$Clock") (T := TCk) (N := 3) hx hb hts iw_1 hown hK hP 0 rfl rfl 1 (by decide) (hts _ gw_145) (fun _ h9 => h9) rfl d_Ck_countUpTo_13 ?_
    refine lv_lsub hx hb d_Ck_countUpTo_16 ?_
    refine lv_ladd hx hb d_Ck_countUpTo_17 ?_
    refine lv_goto (tgt := 25) hx hb d_Ck_countUpTo_18 (by decide) ?_
    cases h
    exact q_lretW hx hb hr hlocks hP hD hS d_Ck_countUpTo_25

theorem gw_271 : (.code ⟨"PlayStates$Clock", "countUpTo", "(J)J"⟩ prog_3_method_3_code 3 (some .long) : Cond) ∈ GW := gT 298 (by decide +kernel) (by decide +kernel)
theorem gw_268 : (.methodLink "PlayStates$Clock" 20 ⟨"PlayStates$Clock", "countUpTo", "(J)J"⟩ : Cond) ∈ GW := gT 295 (by decide +kernel) (by decide +kernel)
theorem gw_38 : (.initialized "PlayStates$Clock" : Cond) ∈ GW := gT 8 (by decide +kernel) (by decide +kernel)
theorem gw_269 : (.instanceMethod ⟨"PlayStates$Clock", "countUpTo", "(J)J"⟩ : Cond) ∈ GW := gT 296 (by decide +kernel) (by decide +kernel)
theorem gw_270 : (.selects "PlayStates$Clock" ⟨"PlayStates$Clock", "countUpTo", "(J)J"⟩ ⟨"PlayStates$Clock", "countUpTo", "(J)J"⟩ : Cond) ∈ GW := gT 297 (by decide +kernel) (by decide +kernel)
theorem d_Ck_tellTime_0 : decode prog_3_method_4_code 0 = .ok (.aload_n 0, 1) := by decide +kernel
theorem d_Ck_tellTime_1 : decode prog_3_method_4_code 1 = .ok (.aload_n 0, 1) := by decide +kernel
theorem d_Ck_tellTime_2 : decode prog_3_method_4_code 2 = .ok (.lload_n 1, 1) := by decide +kernel
theorem d_Ck_tellTime_3 : decode prog_3_method_4_code 3 = .ok (.invokevirtual 20, 3) := by decide +kernel
theorem d_Ck_tellTime_6 : decode prog_3_method_4_code 6 = .ok (.putfield 17, 3) := by decide +kernel
theorem d_Ck_tellTime_9 : decode prog_3_method_4_code 9 = .ok (.aload_n 0, 1) := by decide +kernel
theorem d_Ck_tellTime_10 : decode prog_3_method_4_code 10 = .ok (.lload_n 1, 1) := by decide +kernel
theorem d_Ck_tellTime_11 : decode prog_3_method_4_code 11 = .ok (.putfield 7, 3) := by decide +kernel
theorem d_Ck_tellTime_14 : decode prog_3_method_4_code 14 = .ok (.aload_n 0, 1) := by decide +kernel
theorem d_Ck_tellTime_15 : decode prog_3_method_4_code 15 = .ok (.iload_n 3, 1) := by decide +kernel
theorem d_Ck_tellTime_16 : decode prog_3_method_4_code 16 = .ok (.putfield 13, 3) := by decide +kernel
theorem d_Ck_tellTime_19 : decode prog_3_method_4_code 19 = .ok (.return_, 1) := by decide +kernel
-- PlayStates$Clock.tellTime(JZ)V 
def ws_Ck_tellTime (G : gG) (a_t : Nat)  (x_t_running : Int32) (x_t_lastTold : Int64) (x_t_counted : Int64) : va_W := [(a_t, .inr (1, [.int x_t_running, .long x_t_lastTold, .long x_t_counted]))]
def f_Ck_tellTime  (p0 : Int64) (p1 : Int32) (x_t_running : Int32) (x_t_lastTold : Int64) (x_t_counted : Int64) : Option (Int32 × Int64 × Int64) :=
  ((f_Ck_countUpTo p0 x_t_running x_t_lastTold x_t_counted).bind fun y1 => (if (p1 = 0 ∨ p1 = 1) then some (p1, p0, y1) else none))
set_option maxHeartbeats 4000000 in
set_option maxRecDepth 100000 in
theorem c_Ck_tellTime (l : Launch) (G : gG) (sz : Nat) (a_t : Nat)  (p0 : Int64) (p1 : Int32) (x_t_running : Int32) (x_t_lastTold : Int64) (x_t_counted : Int64) (x_t_running' : Int32) (x_t_lastTold' : Int64) (x_t_counted' : Int64) (h : f_Ck_tellTime p0 p1 x_t_running x_t_lastTold x_t_counted = some (x_t_running', x_t_lastTold', x_t_counted'))  : cN l y_Ck_tellTime w_Ck_tellTime { frames := 1, cells := 0, slots := 0, locals := 22 } G sz [.ref a_t, .long p0, .int p1] (ws_Ck_tellTime G a_t x_t_running x_t_lastTold x_t_counted) none (wB G (ws_Ck_tellTime G a_t x_t_running' x_t_lastTold' x_t_counted')) 0 0 := by
  refine cN_ofW (cc := prog_3_method_4_code) (maxL := 4) (ret := none) (by decide) rfl (Nat.le_of_ble_eq_true rfl) ?_
  intro p e s m args below meth c A H locs ls hx hb hr hts hown hlocks hin hml hK hN hP hD hA hS hl
  replace hl : lv_has ls 4 [(0, .ref a_t), (1, .long p0), (3, .int p1)] := hl
  replace hown : s.vm.findClass "PlayStates$Clock" = some m.cls := hown
  unfold f_Ck_tellTime at h
  refine lv_aload_n hx hb d_Ck_tellTime_0 rfl (lv_at hl 0 rfl) ?_
  refine lv_aload_n hx hb d_Ck_tellTime_1 rfl (lv_at hl 0 rfl) ?_
  refine lv_lload_n hx hb d_Ck_tellTime_2 rfl (lv_at hl 1 rfl) ?_
  obtain ⟨y1, hy1, h⟩ := o_bind h
  have hPc := hP.sub (ws' := (ws_Ck_countUpTo G a_t x_t_running x_t_lastTold x_t_counted)) [0] rfl
  have hDc := hD.sub (ws' := (ws_Ck_countUpTo G a_t x_t_running x_t_lastTold x_t_counted)) [0] (by decide) rfl
  have hFc := va_free (wc := (ws_Ck_countUpTo G a_t x_t_running x_t_lastTold x_t_counted)) hD hS hA [0] rfl
  refine q_call1 (va_runV (As := [.long p0]) (rest := [.ref a_t]) ⟨hx, hb, hml, hown, hts⟩ (c_Ck_countUpTo l G H.size a_t p0 x_t_running x_t_lastTold x_t_counted _ hy1) (cwV 1 hts (gV gw_268 gw_269 gw_270 gw_38 gw_271) rfl rfl rfl (by decide +kernel) ⟨Nat.le_of_ble_eq_true rfl, Nat.le_of_ble_eq_true rfl⟩) (pV hK hN hPc hDc (ci := 1) (q0 := 0) rfl rfl) rfl rfl hl.1 rfl (lv_room (Nat.le_of_ble_eq_true rfl)) d_Ck_tellTime_3 ⟨Nat.le_of_ble_eq_true rfl, Nat.le_of_ble_eq_true rfl⟩) hS (fun q _ h => hFc q h) hFc (fun H1 locs hB hz hk hS => ?_)
  obtain ⟨hP, hD⟩ := q_joinA hFc hB.1 hB.2
  generalize H1 = H at hP hS ⊢
  replace hP : va_P G.1 vwCl (ws_Ck_tellTime G a_t x_t_running x_t_lastTold x_t_counted) H := hP
  replace hD : va_D A (ws_Ck_tellTime G a_t x_t_running x_t_lastTold x_t_counted) := hD
  refine va_put (D := G.1) (ci := 1) (v := .long y1) (ty := .long) (C := "PlayStates$Clock") (T := TCk) (N := 3) hx hb hts iw_1 tyCk tyCk_ok nmCk hown hK hP hD hS 0 rfl rfl 2 (by decide) (hts _ gw_146) (fun _ h9 => h9) rfl (by decide +kernel) (by rfl) (by rfl) (Nat.le_of_ble_eq_true rfl) d_Ck_tellTime_6 (fun H locs hP hD hS => ?_)
  replace hP : va_P G.1 vwCl (ws_Ck_tellTime G a_t x_t_running x_t_lastTold y1) H := hP
  replace hD : va_D A (ws_Ck_tellTime G a_t x_t_running x_t_lastTold y1) := hD
  refine lv_aload_n hx hb d_Ck_tellTime_9 rfl (lv_at hl 0 rfl) ?_
  refine lv_lload_n hx hb d_Ck_tellTime_10 rfl (lv_at hl 1 rfl) ?_
  refine va_put (D := G.1) (ci := 1) (v := .long p0) (ty := .long) (C := "PlayStates$Clock") (T := TCk) (N := 3) hx hb hts iw_1 tyCk tyCk_ok nmCk hown hK hP hD hS 0 rfl rfl 1 (by decide) (hts _ gw_145) (fun _ h9 => h9) rfl (by decide +kernel) (by rfl) (by rfl) (Nat.le_of_ble_eq_true rfl) d_Ck_tellTime_11 (fun H locs hP hD hS => ?_)
  replace hP : va_P G.1 vwCl (ws_Ck_tellTime G a_t x_t_running p0 y1) H := hP
  replace hD : va_D A (ws_Ck_tellTime G a_t x_t_running p0 y1) := hD
  refine lv_aload_n hx hb d_Ck_tellTime_14 rfl (lv_at hl 0 rfl) ?_
  refine lv_iload_n hx hb d_Ck_tellTime_15 rfl (lv_at hl 2 rfl) ?_
  obtain ⟨b2, h⟩ := o_if h
  refine va_put (D := G.1) (ci := 1) (v := .int p1) (ty := .boolean) (C := "PlayStates$Clock") (T := TCk) (N := 3) hx hb hts iw_1 tyCk tyCk_ok nmCk hown hK hP hD hS 0 rfl rfl 0 (by decide) (hts _ gw_144) (fun _ h9 => h9) rfl (by decide +kernel) (bool01 b2).1 (bool01 b2).2 (Nat.le_of_ble_eq_true rfl) d_Ck_tellTime_16 (fun H locs hP hD hS => ?_)
  replace hP : va_P G.1 vwCl (ws_Ck_tellTime G a_t p1 p0 y1) H := hP
  replace hD : va_D A (ws_Ck_tellTime G a_t p1 p0 y1) := hD
  cases h
  exact q_vretW hx hb hr hlocks hP hD hS d_Ck_tellTime_19
end
section
theorem gw_66 : (.fieldLink "PlayStates$RowTable" 24 "PlayStates$RowTable" "count" "I" : Cond) ∈ GW := gT 41 (by decide +kernel) (by decide +kernel)
theorem d_Rt_holds_0 : decode prog_5_method_2_code 0 = .ok (.iload_n 1, 1) := by decide +kernel
theorem d_Rt_holds_1 : decode prog_5_method_2_code 1 = .ok (.ifCond .lt 15, 3) := by decide +kernel
theorem d_Rt_holds_4 : decode prog_5_method_2_code 4 = .ok (.iload_n 1, 1) := by decide +kernel
theorem d_Rt_holds_5 : decode prog_5_method_2_code 5 = .ok (.aload_n 0, 1) := by decide +kernel
theorem d_Rt_holds_6 : decode prog_5_method_2_code 6 = .ok (.getfield 24, 3) := by decide +kernel
theorem d_Rt_holds_9 : decode prog_5_method_2_code 9 = .ok (.if_icmp .ge 7, 3) := by decide +kernel
theorem d_Rt_holds_12 : decode prog_5_method_2_code 12 = .ok (.iconst 1, 1) := by decide +kernel
theorem d_Rt_holds_13 : decode prog_5_method_2_code 13 = .ok (.goto 4, 3) := by decide +kernel
theorem d_Rt_holds_16 : decode prog_5_method_2_code 16 = .ok (.iconst 0, 1) := by decide +kernel
theorem d_Rt_holds_17 : decode prog_5_method_2_code 17 = .ok (.ireturn, 1) := by decide +kernel
-- PlayStates$RowTable.holds(I)Z 
def ws_Rt_holds (G : gG) (a_t a_t_place a_t_told a_t_before a_t_behind : Nat)  (x_t_count : Int32) : va_W := [(a_t, .inr (3, [.ref a_t_place, .ref a_t_told, .ref a_t_before, .ref a_t_behind, .int x_t_count]))]
def f_Rt_holds  (p0 : Int32) (x_t_count : Int32) : Option (Int32) :=
  (if p0 < 0 then some (0 : Int32) else (if x_t_count ≤ p0 then some (0 : Int32) else some (1 : Int32)))
set_option maxHeartbeats 4000000 in
set_option maxRecDepth 100000 in
theorem c_Rt_holds (l : Launch) (G : gG) (sz : Nat) (a_t a_t_place a_t_told a_t_before a_t_behind : Nat)  (p0 : Int32) (x_t_count : Int32) (r : Int32) (h : f_Rt_holds p0 x_t_count = some r)  : cN l y_Rt_holds w_Rt_holds { frames := 0, cells := 0, slots := 0, locals := 0 } G sz [.ref a_t, .int p0] (ws_Rt_holds G a_t a_t_place a_t_told a_t_before a_t_behind x_t_count) (some (.int r)) (wB G (ws_Rt_holds G a_t a_t_place a_t_told a_t_before a_t_behind x_t_count)) 0 0 := by
  refine cN_ofW (cc := prog_5_method_2_code) (maxL := 2) (ret := (some .boolean)) (by decide) rfl (Nat.le_of_ble_eq_true rfl) ?_
  intro p e s m args below meth c A H locs ls hx hb hr hts hown hlocks hin hml hK hN hP hD hA hS hl
  replace hl : lv_has ls 2 [(0, .ref a_t), (1, .int p0)] := hl
  replace hown : s.vm.findClass "PlayStates$RowTable" = some m.cls := hown
  unfold f_Rt_holds at h
  refine lv_iload_n hx hb d_Rt_holds_0 rfl (lv_at hl 1 rfl) ?_
  refine lv_if_lt (tgt := 16) hx hb d_Rt_holds_1 (by decide) (fun c1 => ?_) (fun c1 => ?_)
  · replace h := (if_pos c1).symm.trans h
    refine lv_iconst (v := (0 : Int32)) hx hb d_Rt_holds_16 (by decide) ?_
    cases h
    exact q_zretW hx hb hr hlocks (by decide) hP hD hS d_Rt_holds_17
  · replace h := (if_neg c1).symm.trans h
    refine lv_iload_n hx hb d_Rt_holds_4 rfl (lv_at hl 1 rfl) ?_
    refine lv_aload_n hx hb d_Rt_holds_5 rfl (lv_at hl 0 rfl) ?_
    refine va_get (D := G.1) (ci := 3) (v := .int x_t_count) (C := "PlayStates$RowTable") (T := TRt) (N := 5) hx hb hts iw_3 hown hK hP 0 rfl rfl 4 (by decide) (hts _ gw_66) (fun _ h9 => h9) rfl d_Rt_holds_6 ?_
    refine lv_icmp_ge (tgt := 16) hx hb d_Rt_holds_9 (by decide) (fun c2 => ?_) (fun c2 => ?_)
    · replace h := (if_pos c2).symm.trans h
      refine lv_iconst (v := (0 : Int32)) hx hb d_Rt_holds_16 (by decide) ?_
      cases h
      exact q_zretW hx hb hr hlocks (by decide) hP hD hS d_Rt_holds_17
    · replace h := (if_neg c2).symm.trans h
      refine lv_iconst (v := (1 : Int32)) hx hb d_Rt_holds_12 (by decide) ?_
      refine lv_goto (tgt := 17) hx hb d_Rt_holds_13 (by decide) ?_
      cases h
      exact q_zretW hx hb hr hlocks (by decide) hP hD hS d_Rt_holds_17

theorem d_Rt_hasRoomFor_0 : decode prog_5_method_3_code 0 = .ok (.iload_n 1, 1) := by decide +kernel
theorem d_Rt_hasRoomFor_1 : decode prog_5_method_3_code 1 = .ok (.sipush 600, 3) := by decide +kernel
theorem d_Rt_hasRoomFor_4 : decode prog_5_method_3_code 4 = .ok (.aload_n 0, 1) := by decide +kernel
theorem d_Rt_hasRoomFor_5 : decode prog_5_method_3_code 5 = .ok (.getfield 24, 3) := by decide +kernel
theorem d_Rt_hasRoomFor_8 : decode prog_5_method_3_code 8 = .ok (.isub, 1) := by decide +kernel
theorem d_Rt_hasRoomFor_9 : decode prog_5_method_3_code 9 = .ok (.if_icmp .gt 7, 3) := by decide +kernel
theorem d_Rt_hasRoomFor_12 : decode prog_5_method_3_code 12 = .ok (.iconst 1, 1) := by decide +kernel
theorem d_Rt_hasRoomFor_13 : decode prog_5_method_3_code 13 = .ok (.goto 4, 3) := by decide +kernel
theorem d_Rt_hasRoomFor_16 : decode prog_5_method_3_code 16 = .ok (.iconst 0, 1) := by decide +kernel
theorem d_Rt_hasRoomFor_17 : decode prog_5_method_3_code 17 = .ok (.ireturn, 1) := by decide +kernel
-- PlayStates$RowTable.hasRoomFor(I)Z 
def ws_Rt_hasRoomFor (G : gG) (a_t a_t_place a_t_told a_t_before a_t_behind : Nat)  (x_t_count : Int32) : va_W := [(a_t, .inr (3, [.ref a_t_place, .ref a_t_told, .ref a_t_before, .ref a_t_behind, .int x_t_count]))]
def f_Rt_hasRoomFor  (p0 : Int32) (x_t_count : Int32) : Option (Int32) :=
  (if ((600 : Int32) - x_t_count) < p0 then some (0 : Int32) else some (1 : Int32))
set_option maxHeartbeats 4000000 in
set_option maxRecDepth 100000 in
theorem c_Rt_hasRoomFor (l : Launch) (G : gG) (sz : Nat) (a_t a_t_place a_t_told a_t_before a_t_behind : Nat)  (p0 : Int32) (x_t_count : Int32) (r : Int32) (h : f_Rt_hasRoomFor p0 x_t_count = some r)  : cN l y_Rt_hasRoomFor w_Rt_hasRoomFor { frames := 0, cells := 0, slots := 0, locals := 0 } G sz [.ref a_t, .int p0] (ws_Rt_hasRoomFor G a_t a_t_place a_t_told a_t_before a_t_behind x_t_count) (some (.int r)) (wB G (ws_Rt_hasRoomFor G a_t a_t_place a_t_told a_t_before a_t_behind x_t_count)) 0 0 := by
  refine cN_ofW (cc := prog_5_method_3_code) (maxL := 2) (ret := (some .boolean)) (by decide) rfl (Nat.le_of_ble_eq_true rfl) ?_
  intro p e s m args below meth c A H locs ls hx hb hr hts hown hlocks hin hml hK hN hP hD hA hS hl
  replace hl : lv_has ls 2 [(0, .ref a_t), (1, .int p0)] := hl
  replace hown : s.vm.findClass "PlayStates$RowTable" = some m.cls := hown
  unfold f_Rt_hasRoomFor at h
  refine lv_iload_n hx hb d_Rt_hasRoomFor_0 rfl (lv_at hl 1 rfl) ?_
  refine lv_sipush (v := (600 : Int32)) hx hb d_Rt_hasRoomFor_1 (by decide) ?_
  refine lv_aload_n hx hb d_Rt_hasRoomFor_4 rfl (lv_at hl 0 rfl) ?_
  refine va_get (D := G.1) (ci := 3) (v := .int x_t_count) (C := "PlayStates$RowTable") (T := TRt) (N := 5) hx hb hts iw_3 hown hK hP 0 rfl rfl 4 (by decide) (hts _ gw_66) (fun _ h9 => h9) rfl d_Rt_hasRoomFor_5 ?_
  refine lv_isub hx hb d_Rt_hasRoomFor_8 ?_
  refine lv_icmp_gt (tgt := 16) hx hb d_Rt_hasRoomFor_9 (by decide) (fun c1 => ?_) (fun c1 => ?_)
  · replace h := (if_pos c1).symm.trans h
    refine lv_iconst (v := (0 : Int32)) hx hb d_Rt_hasRoomFor_16 (by decide) ?_
    cases h
    exact q_zretW hx hb hr hlocks (by decide) hP hD hS d_Rt_hasRoomFor_17
  · replace h := (if_neg c1).symm.trans h
    refine lv_iconst (v := (1 : Int32)) hx hb d_Rt_hasRoomFor_12 (by decide) ?_
    refine lv_goto (tgt := 17) hx hb d_Rt_hasRoomFor_13 (by decide) ?_
    cases h
    exact q_zretW hx hb hr hlocks (by decide) hP hD hS d_Rt_hasRoomFor_17

theorem gw_62 : (.fieldLink "PlayStates$RowTable" 9 "PlayStates$RowTable" "place" "[I" : Cond) ∈ GW := gT 33 (by decide +kernel) (by decide +kernel)
theorem gw_63 : (.fieldLink "PlayStates$RowTable" 15 "PlayStates$RowTable" "told" "[I" : Cond) ∈ GW := gT 35 (by decide +kernel) (by decide +kernel)
theorem gw_64 : (.fieldLink "PlayStates$RowTable" 18 "PlayStates$RowTable" "before" "[I" : Cond) ∈ GW := gT 37 (by decide +kernel) (by decide +kernel)
theorem gw_65 : (.fieldLink "PlayStates$RowTable" 21 "PlayStates$RowTable" "behind" "[I" : Cond) ∈ GW := gT 39 (by decide +kernel) (by decide +kernel)
theorem d_Rt_add_0 : decode prog_5_method_4_code 0 = .ok (.aload_n 0, 1) := by decide +kernel
theorem d_Rt_add_1 : decode prog_5_method_4_code 1 = .ok (.getfield 24, 3) := by decide +kernel
theorem d_Rt_add_4 : decode prog_5_method_4_code 4 = .ok (.istore 5, 2) := by decide +kernel
theorem d_Rt_add_6 : decode prog_5_method_4_code 6 = .ok (.aload_n 0, 1) := by decide +kernel
theorem d_Rt_add_7 : decode prog_5_method_4_code 7 = .ok (.getfield 9, 3) := by decide +kernel
theorem d_Rt_add_10 : decode prog_5_method_4_code 10 = .ok (.iload 5, 2) := by decide +kernel
theorem d_Rt_add_12 : decode prog_5_method_4_code 12 = .ok (.iload_n 1, 1) := by decide +kernel
theorem d_Rt_add_13 : decode prog_5_method_4_code 13 = .ok (.iastore, 1) := by decide +kernel
theorem d_Rt_add_14 : decode prog_5_method_4_code 14 = .ok (.aload_n 0, 1) := by decide +kernel
theorem d_Rt_add_15 : decode prog_5_method_4_code 15 = .ok (.getfield 15, 3) := by decide +kernel
theorem d_Rt_add_18 : decode prog_5_method_4_code 18 = .ok (.iload 5, 2) := by decide +kernel
theorem d_Rt_add_20 : decode prog_5_method_4_code 20 = .ok (.iload_n 2, 1) := by decide +kernel
theorem d_Rt_add_21 : decode prog_5_method_4_code 21 = .ok (.iastore, 1) := by decide +kernel
theorem d_Rt_add_22 : decode prog_5_method_4_code 22 = .ok (.aload_n 0, 1) := by decide +kernel
theorem d_Rt_add_23 : decode prog_5_method_4_code 23 = .ok (.getfield 18, 3) := by decide +kernel
theorem d_Rt_add_26 : decode prog_5_method_4_code 26 = .ok (.iload 5, 2) := by decide +kernel
theorem d_Rt_add_28 : decode prog_5_method_4_code 28 = .ok (.iload_n 3, 1) := by decide +kernel
theorem d_Rt_add_29 : decode prog_5_method_4_code 29 = .ok (.iastore, 1) := by decide +kernel
theorem d_Rt_add_30 : decode prog_5_method_4_code 30 = .ok (.aload_n 0, 1) := by decide +kernel
theorem d_Rt_add_31 : decode prog_5_method_4_code 31 = .ok (.getfield 21, 3) := by decide +kernel
theorem d_Rt_add_34 : decode prog_5_method_4_code 34 = .ok (.iload 5, 2) := by decide +kernel
theorem d_Rt_add_36 : decode prog_5_method_4_code 36 = .ok (.iload 4, 2) := by decide +kernel
theorem d_Rt_add_38 : decode prog_5_method_4_code 38 = .ok (.iastore, 1) := by decide +kernel
theorem d_Rt_add_39 : decode prog_5_method_4_code 39 = .ok (.aload_n 0, 1) := by decide +kernel
theorem d_Rt_add_40 : decode prog_5_method_4_code 40 = .ok (.dup, 1) := by decide +kernel
theorem d_Rt_add_41 : decode prog_5_method_4_code 41 = .ok (.getfield 24, 3) := by decide +kernel
theorem d_Rt_add_44 : decode prog_5_method_4_code 44 = .ok (.iconst 1, 1) := by decide +kernel
theorem d_Rt_add_45 : decode prog_5_method_4_code 45 = .ok (.iadd, 1) := by decide +kernel
theorem d_Rt_add_46 : decode prog_5_method_4_code 46 = .ok (.putfield 24, 3) := by decide +kernel
theorem d_Rt_add_49 : decode prog_5_method_4_code 49 = .ok (.iload 5, 2) := by decide +kernel
theorem d_Rt_add_51 : decode prog_5_method_4_code 51 = .ok (.ireturn, 1) := by decide +kernel
-- PlayStates$RowTable.add(IIII)I 
def ws_Rt_add (G : gG) (a_t a_t_place a_t_told a_t_before a_t_behind : Nat)  (x_t_count : Int32) (x_t_place : Nat → Int32) (x_t_told : Nat → Int32) (x_t_before : Nat → Int32) (x_t_behind : Nat → Int32) : va_W := [(a_t, .inr (3, [.ref a_t_place, .ref a_t_told, .ref a_t_before, .ref a_t_behind, .int x_t_count])), (a_t_place, .inl (G.2 0, 600, .inl x_t_place)), (a_t_told, .inl (G.2 0, 600, .inl x_t_told)), (a_t_before, .inl (G.2 0, 600, .inl x_t_before)), (a_t_behind, .inl (G.2 0, 600, .inl x_t_behind))]
def f_Rt_add  (p0 : Int32) (p1 : Int32) (p2 : Int32) (p3 : Int32) (x_t_count : Int32) (x_t_place : Nat → Int32) (x_t_told : Nat → Int32) (x_t_before : Nat → Int32) (x_t_behind : Nat → Int32) : Option (Int32 × Int32 × (Nat → Int32) × (Nat → Int32) × (Nat → Int32) × (Nat → Int32)) :=
  (if inB x_t_count 600 then (if inB x_t_count 600 then (if inB x_t_count 600 then (if inB x_t_count 600 then some (x_t_count, (x_t_count + (1 : Int32)), (upd x_t_place x_t_count.toNatClampNeg p0), (upd x_t_told x_t_count.toNatClampNeg p1), (upd x_t_before x_t_count.toNatClampNeg p2), (upd x_t_behind x_t_count.toNatClampNeg p3)) else none) else none) else none) else none)
set_option maxHeartbeats 4000000 in
set_option maxRecDepth 100000 in
theorem c_Rt_add (l : Launch) (G : gG) (sz : Nat) (a_t a_t_place a_t_told a_t_before a_t_behind : Nat)  (p0 : Int32) (p1 : Int32) (p2 : Int32) (p3 : Int32) (x_t_count : Int32) (x_t_place : Nat → Int32) (x_t_told : Nat → Int32) (x_t_before : Nat → Int32) (x_t_behind : Nat → Int32) (r : Int32) (x_t_count' : Int32) (x_t_place' : Nat → Int32) (x_t_told' : Nat → Int32) (x_t_before' : Nat → Int32) (x_t_behind' : Nat → Int32) (h : f_Rt_add p0 p1 p2 p3 x_t_count x_t_place x_t_told x_t_before x_t_behind = some (r, x_t_count', x_t_place', x_t_told', x_t_before', x_t_behind'))  : cN l y_Rt_add w_Rt_add { frames := 0, cells := 0, slots := 0, locals := 0 } G sz [.ref a_t, .int p0, .int p1, .int p2, .int p3] (ws_Rt_add G a_t a_t_place a_t_told a_t_before a_t_behind x_t_count x_t_place x_t_told x_t_before x_t_behind) (some (.int r)) (wB G (ws_Rt_add G a_t a_t_place a_t_told a_t_before a_t_behind x_t_count' x_t_place' x_t_told' x_t_before' x_t_behind')) 0 0 := by
  refine cN_ofW (cc := prog_5_method_4_code) (maxL := 6) (ret := (some .int)) (by decide) rfl (Nat.le_of_ble_eq_true rfl) ?_
  intro p e s m args below meth c A H locs ls hx hb hr hts hown hlocks hin hml hK hN hP hD hA hS hl
  replace hl : lv_has ls 6 [(0, .ref a_t), (1, .int p0), (2, .int p1), (3, .int p2), (4, .int p3)] := hl
  replace hown : s.vm.findClass "PlayStates$RowTable" = some m.cls := hown
  unfold f_Rt_add at h
  refine lv_aload_n hx hb d_Rt_add_0 rfl (lv_at hl 0 rfl) ?_
  refine va_get (D := G.1) (ci := 3) (v := .int x_t_count) (C := "PlayStates$RowTable") (T := TRt) (N := 5) hx hb hts iw_3 hown hK hP 0 rfl rfl 4 (by decide) (hts _ gw_66) (fun _ h9 => h9) rfl d_Rt_add_1 ?_
  refine lv_istore (lv' := [(5, .int x_t_count), (0, .ref a_t), (1, .int p0), (2, .int p1), (3, .int p2), (4, .int p3)]) hx hb d_Rt_add_4 hl (by decide) rfl (fun ls hl => ?_)
  refine lv_aload_n hx hb d_Rt_add_6 rfl (lv_at hl 1 rfl) ?_
  refine va_get (D := G.1) (ci := 3) (v := .ref a_t_place) (C := "PlayStates$RowTable") (T := TRt) (N := 5) hx hb hts iw_3 hown hK hP 0 rfl rfl 0 (by decide) (hts _ gw_62) (fun _ h9 => h9) rfl d_Rt_add_7 ?_
  refine lv_iload hx hb d_Rt_add_10 (lv_at hl 0 rfl) ?_
  refine lv_iload_n hx hb d_Rt_add_12 rfl (lv_at hl 2 rfl) ?_
  obtain ⟨i1, h⟩ := o_if h
  refine va_iast (n := 600) (f := x_t_place) hx hb hK hP hD hS 1 0 rfl rfl i1 d_Rt_add_13 (fun H locs hP hD hS => ?_)
  replace hP : va_P G.1 vwCl (ws_Rt_add G a_t a_t_place a_t_told a_t_before a_t_behind x_t_count (upd x_t_place x_t_count.toNatClampNeg p0) x_t_told x_t_before x_t_behind) H := hP
  replace hD : va_D A (ws_Rt_add G a_t a_t_place a_t_told a_t_before a_t_behind x_t_count (upd x_t_place x_t_count.toNatClampNeg p0) x_t_told x_t_before x_t_behind) := hD
  refine lv_aload_n hx hb d_Rt_add_14 rfl (lv_at hl 1 rfl) ?_
  refine va_get (D := G.1) (ci := 3) (v := .ref a_t_told) (C := "PlayStates$RowTable") (T := TRt) (N := 5) hx hb hts iw_3 hown hK hP 0 rfl rfl 1 (by decide) (hts _ gw_63) (fun _ h9 => h9) rfl d_Rt_add_15 ?_
  refine lv_iload hx hb d_Rt_add_18 (lv_at hl 0 rfl) ?_
  refine lv_iload_n hx hb d_Rt_add_20 rfl (lv_at hl 3 rfl) ?_
  obtain ⟨i2, h⟩ := o_if h
  refine va_iast (n := 600) (f := x_t_told) hx hb hK hP hD hS 2 0 rfl rfl i2 d_Rt_add_21 (fun H locs hP hD hS => ?_)
  replace hP : va_P G.1 vwCl (ws_Rt_add G a_t a_t_place a_t_told a_t_before a_t_behind x_t_count (upd x_t_place x_t_count.toNatClampNeg p0) (upd x_t_told x_t_count.toNatClampNeg p1) x_t_before x_t_behind) H := hP
  replace hD : va_D A (ws_Rt_add G a_t a_t_place a_t_told a_t_before a_t_behind x_t_count (upd x_t_place x_t_count.toNatClampNeg p0) (upd x_t_told x_t_count.toNatClampNeg p1) x_t_before x_t_behind) := hD
  refine lv_aload_n hx hb d_Rt_add_22 rfl (lv_at hl 1 rfl) ?_
  refine va_get (D := G.1) (ci := 3) (v := .ref a_t_before) (C := "PlayStates$RowTable") (T := TRt) (N := 5) hx hb hts iw_3 hown hK hP 0 rfl rfl 2 (by decide) (hts _ gw_64) (fun _ h9 => h9) rfl d_Rt_add_23 ?_
  refine lv_iload hx hb d_Rt_add_26 (lv_at hl 0 rfl) ?_
  refine lv_iload_n hx hb d_Rt_add_28 rfl (lv_at hl 4 rfl) ?_
  obtain ⟨i3, h⟩ := o_if h
  refine va_iast (n := 600) (f := x_t_before) hx hb hK hP hD hS 3 0 rfl rfl i3 d_Rt_add_29 (fun H locs hP hD hS => ?_)
  replace hP : va_P G.1 vwCl (ws_Rt_add G a_t a_t_place a_t_told a_t_before a_t_behind x_t_count (upd x_t_place x_t_count.toNatClampNeg p0) (upd x_t_told x_t_count.toNatClampNeg p1) (upd x_t_before x_t_count.toNatClampNeg p2) x_t_behind) H := hP
  replace hD : va_D A (ws_Rt_add G a_t a_t_place a_t_told a_t_before a_t_behind x_t_count (upd x_t_place x_t_count.toNatClampNeg p0) (upd x_t_told x_t_count.toNatClampNeg p1) (upd x_t_before x_t_count.toNatClampNeg p2) x_t_behind) := hD
  refine lv_aload_n hx hb d_Rt_add_30 rfl (lv_at hl 1 rfl) ?_
  refine va_get (D := G.1) (ci := 3) (v := .ref a_t_behind) (C := "PlayStates$RowTable") (T := TRt) (N := 5) hx hb hts iw_3 hown hK hP 0 rfl rfl 3 (by decide) (hts _ gw_65) (fun _ h9 => h9) rfl d_Rt_add_31 ?_
  refine lv_iload hx hb d_Rt_add_34 (lv_at hl 0 rfl) ?_
  refine lv_iload hx hb d_Rt_add_36 (lv_at hl 5 rfl) ?_
  obtain ⟨i4, h⟩ := o_if h
  refine va_iast (n := 600) (f := x_t_behind) hx hb hK hP hD hS 4 0 rfl rfl i4 d_Rt_add_38 (fun H locs hP hD hS => ?_)
  replace hP : va_P G.1 vwCl (ws_Rt_add G a_t a_t_place a_t_told a_t_before a_t_behind x_t_count (upd x_t_place x_t_count.toNatClampNeg p0) (upd x_t_told x_t_count.toNatClampNeg p1) (upd x_t_before x_t_count.toNatClampNeg p2) (upd x_t_behind x_t_count.toNatClampNeg p3)) H := hP
  replace hD : va_D A (ws_Rt_add G a_t a_t_place a_t_told a_t_before a_t_behind x_t_count (upd x_t_place x_t_count.toNatClampNeg p0) (upd x_t_told x_t_count.toNatClampNeg p1) (upd x_t_before x_t_count.toNatClampNeg p2) (upd x_t_behind x_t_count.toNatClampNeg p3)) := hD
  refine lv_aload_n hx hb d_Rt_add_39 rfl (lv_at hl 1 rfl) ?_
  refine lv_dup hx hb d_Rt_add_40 rfl ?_
  refine va_get (D := G.1) (ci := 3) (v := .int x_t_count) (C := "PlayStates$RowTable") (T := TRt) (N := 5) hx hb hts iw_3 hown hK hP 0 rfl rfl 4 (by decide) (hts _ gw_66) (fun _ h9 => h9) rfl d_Rt_add_41 ?_
  refine lv_iconst (v := (1 : Int32)) hx hb d_Rt_add_44 (by decide) ?_
  refine lv_iadd hx hb d_Rt_add_45 ?_
  refine va_put (D := G.1) (ci := 3) (v := .int (x_t_count + (1 : Int32))) (ty := .int) (C := "PlayStates$RowTable") (T := TRt) (N := 5) hx hb hts iw_3 tyRt tyRt_ok nmRt hown hK hP hD hS 0 rfl rfl 4 (by decide) (hts _ gw_66) (fun _ h9 => h9) rfl (by decide +kernel) (by rfl) (by rfl) (Nat.le_of_ble_eq_true rfl) d_Rt_add_46 (fun H locs hP hD hS => ?_)
  replace hP : va_P G.1 vwCl (ws_Rt_add G a_t a_t_place a_t_told a_t_before a_t_behind (x_t_count + (1 : Int32)) (upd x_t_place x_t_count.toNatClampNeg p0) (upd x_t_told x_t_count.toNatClampNeg p1) (upd x_t_before x_t_count.toNatClampNeg p2) (upd x_t_behind x_t_count.toNatClampNeg p3)) H := hP
  replace hD : va_D A (ws_Rt_add G a_t a_t_place a_t_told a_t_before a_t_behind (x_t_count + (1 : Int32)) (upd x_t_place x_t_count.toNatClampNeg p0) (upd x_t_told x_t_count.toNatClampNeg p1) (upd x_t_before x_t_count.toNatClampNeg p2) (upd x_t_behind x_t_count.toNatClampNeg p3)) := hD
  refine lv_iload hx hb d_Rt_add_49 (lv_at hl 0 rfl) ?_
  cases h
  exact q_iretW hx hb hr hlocks hP hD hS d_Rt_add_51

theorem d_Rt_countBranches_0 : decode prog_5_method_5_code 0 = .ok (.iconst 0, 1) := by decide +kernel
theorem d_Rt_countBranches_1 : decode prog_5_method_5_code 1 = .ok (.istore_n 2, 1) := by decide +kernel
theorem d_Rt_countBranches_2 : decode prog_5_method_5_code 2 = .ok (.iconst 0, 1) := by decide +kernel
theorem d_Rt_countBranches_3 : decode prog_5_method_5_code 3 = .ok (.istore_n 3, 1) := by decide +kernel
theorem d_Rt_countBranches_4 : decode prog_5_method_5_code 4 = .ok (.iload_n 3, 1) := by decide +kernel
theorem d_Rt_countBranches_5 : decode prog_5_method_5_code 5 = .ok (.aload_n 0, 1) := by decide +kernel
theorem d_Rt_countBranches_6 : decode prog_5_method_5_code 6 = .ok (.getfield 24, 3) := by decide +kernel
theorem d_Rt_countBranches_9 : decode prog_5_method_5_code 9 = .ok (.if_icmp .ge 22, 3) := by decide +kernel
theorem d_Rt_countBranches_12 : decode prog_5_method_5_code 12 = .ok (.aload_n 0, 1) := by decide +kernel
theorem d_Rt_countBranches_13 : decode prog_5_method_5_code 13 = .ok (.getfield 21, 3) := by decide +kernel
theorem d_Rt_countBranches_16 : decode prog_5_method_5_code 16 = .ok (.iload_n 3, 1) := by decide +kernel
theorem d_Rt_countBranches_17 : decode prog_5_method_5_code 17 = .ok (.iaload, 1) := by decide +kernel
theorem d_Rt_countBranches_18 : decode prog_5_method_5_code 18 = .ok (.iload_n 1, 1) := by decide +kernel
theorem d_Rt_countBranches_19 : decode prog_5_method_5_code 19 = .ok (.if_icmp .ne 6, 3) := by decide +kernel
theorem d_Rt_countBranches_22 : decode prog_5_method_5_code 22 = .ok (.iinc 2 1, 3) := by decide +kernel
theorem d_Rt_countBranches_25 : decode prog_5_method_5_code 25 = .ok (.iinc 3 1, 3) := by decide +kernel
theorem d_Rt_countBranches_28 : decode prog_5_method_5_code 28 = .ok (.goto (-24), 3) := by decide +kernel
theorem d_Rt_countBranches_31 : decode prog_5_method_5_code 31 = .ok (.iload_n 2, 1) := by decide +kernel
theorem d_Rt_countBranches_32 : decode prog_5_method_5_code 32 = .ok (.ireturn, 1) := by decide +kernel
-- PlayStates$RowTable.countBranches(I)I 
def ws_Rt_countBranches (G : gG) (a_t a_t_place a_t_told a_t_before a_t_behind : Nat)  (x_t_count : Int32) (x_t_behind : Nat → Int32) : va_W := [(a_t, .inr (3, [.ref a_t_place, .ref a_t_told, .ref a_t_before, .ref a_t_behind, .int x_t_count])), (a_t_behind, .inl (G.2 0, 600, .inl x_t_behind))]
def fb_Rt_countBranches_L4 (fu : Nat) (x_t_count : Int32) (x_t_behind : Nat → Int32)  (k4 : (Int32 → Int32 → Int32 → Option (Int32))) (l4_1 : Int32) (l4_2 : Int32) (l4_3 : Int32) : Option (Int32) :=
  (if x_t_count ≤ l4_3 then some l4_2 else (if inB l4_3 600 then (if (x_t_behind l4_3.toNatClampNeg) = l4_1 then (k4 l4_1 (l4_2 + (1 : Int32)) (l4_3 + (1 : Int32))) else (k4 l4_1 l4_2 (l4_3 + (1 : Int32)))) else none))
def f_Rt_countBranches_L4 (fu : Nat) (x_t_count : Int32) (x_t_behind : Nat → Int32)  : Nat → Int32 → Int32 → Int32 → Option (Int32)
  | 0 => fun _ _ _ => none
  | k9 + 1 => fb_Rt_countBranches_L4 fu x_t_count x_t_behind (f_Rt_countBranches_L4 fu x_t_count x_t_behind k9)
def f_Rt_countBranches (fu : Nat)  (p0 : Int32) (x_t_count : Int32) (x_t_behind : Nat → Int32) : Option (Int32) :=
  (f_Rt_countBranches_L4 fu x_t_count x_t_behind fu p0 (0 : Int32) (0 : Int32))
set_option maxHeartbeats 4000000 in
set_option maxRecDepth 100000 in
theorem c_Rt_countBranches (l : Launch) (G : gG) (sz : Nat) (a_t a_t_place a_t_told a_t_before a_t_behind : Nat) (fu : Nat)  (p0 : Int32) (x_t_count : Int32) (x_t_behind : Nat → Int32) (r : Int32) (h : f_Rt_countBranches fu p0 x_t_count x_t_behind = some r)  : cN l y_Rt_countBranches w_Rt_countBranches { frames := 0, cells := 0, slots := 0, locals := 0 } G sz [.ref a_t, .int p0] (ws_Rt_countBranches G a_t a_t_place a_t_told a_t_before a_t_behind x_t_count x_t_behind) (some (.int r)) (wB G (ws_Rt_countBranches G a_t a_t_place a_t_told a_t_before a_t_behind x_t_count x_t_behind)) 0 0 := by
  refine cN_ofW (cc := prog_5_method_5_code) (maxL := 4) (ret := (some .int)) (by decide) rfl (Nat.le_of_ble_eq_true rfl) ?_
  intro p e s m args below meth c A H locs ls hx hb hr hts hown hlocks hin hml hK hN hP hD hA hS hl
  replace hl : lv_has ls 4 [(0, .ref a_t), (1, .int p0)] := hl
  replace hown : s.vm.findClass "PlayStates$RowTable" = some m.cls := hown
  unfold f_Rt_countBranches at h
  refine lv_iconst (v := (0 : Int32)) hx hb d_Rt_countBranches_0 (by decide) ?_
  refine lv_istore_n (lv' := [(2, .int (0 : Int32)), (0, .ref a_t), (1, .int p0)]) hx hb d_Rt_countBranches_1 rfl hl (by decide) rfl (fun ls hl => ?_)
  refine lv_iconst (v := (0 : Int32)) hx hb d_Rt_countBranches_2 (by decide) ?_
  refine lv_istore_n (lv' := [(3, .int (0 : Int32)), (2, .int (0 : Int32)), (0, .ref a_t), (1, .int p0)]) hx hb d_Rt_countBranches_3 rfl hl (by decide) rfl (fun ls hl => ?_)
  have L4 : ∀ (nf : Nat) (l4_1 : Int32) (l4_2 : Int32) (l4_3 : Int32) (H : Heap) (locs : List Loc) (ls : Array Slot), f_Rt_countBranches_L4 fu x_t_count x_t_behind nf l4_1 l4_2 l4_3 = some r → va_P G.1 vwCl (ws_Rt_countBranches G a_t a_t_place a_t_told a_t_before a_t_behind x_t_count x_t_behind) H → va_D A (ws_Rt_countBranches G a_t a_t_place a_t_told a_t_before a_t_behind x_t_count x_t_behind) → va_S A s.heap H locs → lv_has ls 4 [(0, .ref a_t), (1, .int l4_1), (2, .int l4_2), (3, .int l4_3)] → W p l e { frames := 0, cells := 0, slots := 0, locals := 0 } s m args below meth c H locs 0 0 (MQ below (qQ (some (.int r)) (wB G (ws_Rt_countBranches G a_t a_t_place a_t_told a_t_before a_t_behind x_t_count x_t_behind) A) A) args s 0 0 A) (F0 m 4 ls []) := by
    clear h hP hD hS hl
    intro n4
    induction n4 with
    | zero => intro _ _ _ H locs ls h; exact nomatch (show none = some _ from h)
    | succ n4 ih4 =>
      intro l4_1 l4_2 l4_3 H locs ls h hP hD hS hl
      replace h : fb_Rt_countBranches_L4 fu x_t_count x_t_behind (f_Rt_countBranches_L4 fu x_t_count x_t_behind n4) l4_1 l4_2 l4_3 = some r := h
      unfold fb_Rt_countBranches_L4 at h
      refine lv_iload_n hx hb d_Rt_countBranches_4 rfl (lv_at hl 3 rfl) ?_
      refine lv_aload_n hx hb d_Rt_countBranches_5 rfl (lv_at hl 0 rfl) ?_
      refine va_get (D := G.1) (ci := 3) (v := .int x_t_count) (C := "PlayStates$RowTable") (T := TRt) (N := 5) hx hb hts iw_3 hown hK hP 0 rfl rfl 4 (by decide) (hts _ gw_66) (fun _ h9 => h9) rfl d_Rt_countBranches_6 ?_
      refine lv_icmp_ge (tgt := 31) hx hb d_Rt_countBranches_9 (by decide) (fun c1 => ?_) (fun c1 => ?_)
      · replace h := (if_pos c1).symm.trans h
        refine lv_iload_n hx hb d_Rt_countBranches_31 rfl (lv_at hl 2 rfl) ?_
        cases h
        exact q_iretW hx hb hr hlocks hP hD hS d_Rt_countBranches_32
      · replace h := (if_neg c1).symm.trans h
        refine lv_aload_n hx hb d_Rt_countBranches_12 rfl (lv_at hl 0 rfl) ?_
        refine va_get (D := G.1) (ci := 3) (v := .ref a_t_behind) (C := "PlayStates$RowTable") (T := TRt) (N := 5) hx hb hts iw_3 hown hK hP 0 rfl rfl 3 (by decide) (hts _ gw_65) (fun _ h9 => h9) rfl d_Rt_countBranches_13 ?_
        refine lv_iload_n hx hb d_Rt_countBranches_16 rfl (lv_at hl 3 rfl) ?_
        obtain ⟨i2, h⟩ := o_if h
        refine va_iald (n := 600) (f := x_t_behind) hx hb hK hP 1 0 rfl rfl i2 d_Rt_countBranches_17 ?_
        refine lv_iload_n hx hb d_Rt_countBranches_18 rfl (lv_at hl 1 rfl) ?_
        refine lv_icmp_ne (tgt := 25) hx hb d_Rt_countBranches_19 (by decide) (fun c3 => ?_) (fun c3 => ?_)
        · replace h := (if_neg c3).symm.trans h
          refine lv_iinc (v := (l4_3 + (1 : Int32))) (lv' := [(3, .int (l4_3 + (1 : Int32))), (0, .ref a_t), (1, .int l4_1), (2, .int l4_2)]) hx hb d_Rt_countBranches_25 hl (k := 3) rfl rfl (by decide) rfl (fun ls hl => ?_)
          refine lv_goto (tgt := 4) hx hb d_Rt_countBranches_28 (by decide) ?_
          exact ih4 l4_1 l4_2 (l4_3 + (1 : Int32)) _ _ _ h hP hD hS (lv_sub hl [1, 2, 3, 0] rfl)
        · replace h := (if_pos c3).symm.trans h
          refine lv_iinc (v := (l4_2 + (1 : Int32))) (lv' := [(2, .int (l4_2 + (1 : Int32))), (0, .ref a_t), (1, .int l4_1), (3, .int l4_3)]) hx hb d_Rt_countBranches_22 hl (k := 2) rfl rfl (by decide) rfl (fun ls hl => ?_)
          refine lv_iinc (v := (l4_3 + (1 : Int32))) (lv' := [(3, .int (l4_3 + (1 : Int32))), (2, .int (l4_2 + (1 : Int32))), (0, .ref a_t), (1, .int l4_1)]) hx hb d_Rt_countBranches_25 hl (k := 3) rfl rfl (by decide) rfl (fun ls hl => ?_)
          refine lv_goto (tgt := 4) hx hb d_Rt_countBranches_28 (by decide) ?_
          exact ih4 l4_1 (l4_2 + (1 : Int32)) (l4_3 + (1 : Int32)) _ _ _ h hP hD hS (lv_sub hl [2, 3, 1, 0] rfl)
  exact L4 fu p0 (0 : Int32) (0 : Int32) _ _ _ h hP hD hS (lv_sub hl [2, 3, 1, 0] rfl)

theorem d_Rt_findBranch_0 : decode prog_5_method_6_code 0 = .ok (.iconst 0, 1) := by decide +kernel
theorem d_Rt_findBranch_1 : decode prog_5_method_6_code 1 = .ok (.istore_n 3, 1) := by decide +kernel
theorem d_Rt_findBranch_2 : decode prog_5_method_6_code 2 = .ok (.iconst 0, 1) := by decide +kernel
theorem d_Rt_findBranch_3 : decode prog_5_method_6_code 3 = .ok (.istore 4, 2) := by decide +kernel
theorem d_Rt_findBranch_5 : decode prog_5_method_6_code 5 = .ok (.iload 4, 2) := by decide +kernel
theorem d_Rt_findBranch_7 : decode prog_5_method_6_code 7 = .ok (.aload_n 0, 1) := by decide +kernel
theorem d_Rt_findBranch_8 : decode prog_5_method_6_code 8 = .ok (.getfield 24, 3) := by decide +kernel
theorem d_Rt_findBranch_11 : decode prog_5_method_6_code 11 = .ok (.if_icmp .ge 31, 3) := by decide +kernel
theorem d_Rt_findBranch_14 : decode prog_5_method_6_code 14 = .ok (.aload_n 0, 1) := by decide +kernel
theorem d_Rt_findBranch_15 : decode prog_5_method_6_code 15 = .ok (.getfield 21, 3) := by decide +kernel
theorem d_Rt_findBranch_18 : decode prog_5_method_6_code 18 = .ok (.iload 4, 2) := by decide +kernel
theorem d_Rt_findBranch_20 : decode prog_5_method_6_code 20 = .ok (.iaload, 1) := by decide +kernel
theorem d_Rt_findBranch_21 : decode prog_5_method_6_code 21 = .ok (.iload_n 1, 1) := by decide +kernel
theorem d_Rt_findBranch_22 : decode prog_5_method_6_code 22 = .ok (.if_icmp .ne 14, 3) := by decide +kernel
theorem d_Rt_findBranch_25 : decode prog_5_method_6_code 25 = .ok (.iload_n 3, 1) := by decide +kernel
theorem d_Rt_findBranch_26 : decode prog_5_method_6_code 26 = .ok (.iload_n 2, 1) := by decide +kernel
theorem d_Rt_findBranch_27 : decode prog_5_method_6_code 27 = .ok (.if_icmp .ne 6, 3) := by decide +kernel
theorem d_Rt_findBranch_30 : decode prog_5_method_6_code 30 = .ok (.iload 4, 2) := by decide +kernel
theorem d_Rt_findBranch_32 : decode prog_5_method_6_code 32 = .ok (.ireturn, 1) := by decide +kernel
theorem d_Rt_findBranch_33 : decode prog_5_method_6_code 33 = .ok (.iinc 3 1, 3) := by decide +kernel
theorem d_Rt_findBranch_36 : decode prog_5_method_6_code 36 = .ok (.iinc 4 1, 3) := by decide +kernel
theorem d_Rt_findBranch_39 : decode prog_5_method_6_code 39 = .ok (.goto (-34), 3) := by decide +kernel
theorem d_Rt_findBranch_42 : decode prog_5_method_6_code 42 = .ok (.iconst (-1), 1) := by decide +kernel
theorem d_Rt_findBranch_43 : decode prog_5_method_6_code 43 = .ok (.ireturn, 1) := by decide +kernel
-- PlayStates$RowTable.findBranch(II)I 
def ws_Rt_findBranch (G : gG) (a_t a_t_place a_t_told a_t_before a_t_behind : Nat)  (x_t_count : Int32) (x_t_behind : Nat → Int32) : va_W := [(a_t, .inr (3, [.ref a_t_place, .ref a_t_told, .ref a_t_before, .ref a_t_behind, .int x_t_count])), (a_t_behind, .inl (G.2 0, 600, .inl x_t_behind))]
def fb_Rt_findBranch_L5 (fu : Nat) (x_t_count : Int32) (x_t_behind : Nat → Int32)  (k5 : (Int32 → Int32 → Int32 → Int32 → Option (Int32))) (l5_1 : Int32) (l5_2 : Int32) (l5_3 : Int32) (l5_4 : Int32) : Option (Int32) :=
  (if x_t_count ≤ l5_4 then some (-1 : Int32) else (if inB l5_4 600 then (if (x_t_behind l5_4.toNatClampNeg) = l5_1 then (if l5_3 = l5_2 then some l5_4 else (k5 l5_1 l5_2 (l5_3 + (1 : Int32)) (l5_4 + (1 : Int32)))) else (k5 l5_1 l5_2 l5_3 (l5_4 + (1 : Int32)))) else none))
def f_Rt_findBranch_L5 (fu : Nat) (x_t_count : Int32) (x_t_behind : Nat → Int32)  : Nat → Int32 → Int32 → Int32 → Int32 → Option (Int32)
  | 0 => fun _ _ _ _ => none
  | k9 + 1 => fb_Rt_findBranch_L5 fu x_t_count x_t_behind (f_Rt_findBranch_L5 fu x_t_count x_t_behind k9)
def f_Rt_findBranch (fu : Nat)  (p0 : Int32) (p1 : Int32) (x_t_count : Int32) (x_t_behind : Nat → Int32) : Option (Int32) :=
  (f_Rt_findBranch_L5 fu x_t_count x_t_behind fu p0 p1 (0 : Int32) (0 : Int32))
set_option maxHeartbeats 4000000 in
set_option maxRecDepth 100000 in
theorem c_Rt_findBranch (l : Launch) (G : gG) (sz : Nat) (a_t a_t_place a_t_told a_t_before a_t_behind : Nat) (fu : Nat)  (p0 : Int32) (p1 : Int32) (x_t_count : Int32) (x_t_behind : Nat → Int32) (r : Int32) (h : f_Rt_findBranch fu p0 p1 x_t_count x_t_behind = some r)  : cN l y_Rt_findBranch w_Rt_findBranch { frames := 0, cells := 0, slots := 0, locals := 0 } G sz [.ref a_t, .int p0, .int p1] (ws_Rt_findBranch G a_t a_t_place a_t_told a_t_before a_t_behind x_t_count x_t_behind) (some (.int r)) (wB G (ws_Rt_findBranch G a_t a_t_place a_t_told a_t_before a_t_behind x_t_count x_t_behind)) 0 0 := by
  refine cN_ofW (cc := prog_5_method_6_code) (maxL := 5) (ret := (some .int)) (by decide) rfl (Nat.le_of_ble_eq_true rfl) ?_
  intro p e s m args below meth c A H locs ls hx hb hr hts hown hlocks hin hml hK hN hP hD hA hS hl
  replace hl : lv_has ls 5 [(0, .ref a_t), (1, .int p0), (2, .int p1)] := hl
  replace hown : s.vm.findClass "PlayStates$RowTable" = some m.cls := hown
  unfold f_Rt_findBranch at h
  refine lv_iconst (v := (0 : Int32)) hx hb d_Rt_findBranch_0 (by decide) ?_
  refine lv_istore_n (lv' := [(3, .int (0 : Int32)), (0, .ref a_t), (1, .int p0), (2, .int p1)]) hx hb d_Rt_findBranch_1 rfl hl (by decide) rfl (fun ls hl => ?_)
  refine lv_iconst (v := (0 : Int32)) hx hb d_Rt_findBranch_2 (by decide) ?_
  refine lv_istore (lv' := [(4, .int (0 : Int32)), (3, .int (0 : Int32)), (0, .ref a_t), (1, .int p0), (2, .int p1)]) hx hb d_Rt_findBranch_3 hl (by decide) rfl (fun ls hl => ?_)
  have L5 : ∀ (nf : Nat) (l5_1 : Int32) (l5_2 : Int32) (l5_3 : Int32) (l5_4 : Int32) (H : Heap) (locs : List Loc) (ls : Array Slot), f_Rt_findBranch_L5 fu x_t_count x_t_behind nf l5_1 l5_2 l5_3 l5_4 = some r → va_P G.1 vwCl (ws_Rt_findBranch G a_t a_t_place a_t_told a_t_before a_t_behind x_t_count x_t_behind) H → va_D A (ws_Rt_findBranch G a_t a_t_place a_t_told a_t_before a_t_behind x_t_count x_t_behind) → va_S A s.heap H locs → lv_has ls 5 [(0, .ref a_t), (1, .int l5_1), (2, .int l5_2), (3, .int l5_3), (4, .int l5_4)] → W p l e { frames := 0, cells := 0, slots := 0, locals := 0 } s m args below meth c H locs 0 0 (MQ below (qQ (some (.int r)) (wB G (ws_Rt_findBranch G a_t a_t_place a_t_told a_t_before a_t_behind x_t_count x_t_behind) A) A) args s 0 0 A) (F0 m 5 ls []) := by
    clear h hP hD hS hl
    intro n5
    induction n5 with
    | zero => intro _ _ _ _ H locs ls h; exact nomatch (show none = some _ from h)
    | succ n5 ih5 =>
      intro l5_1 l5_2 l5_3 l5_4 H locs ls h hP hD hS hl
      replace h : fb_Rt_findBranch_L5 fu x_t_count x_t_behind (f_Rt_findBranch_L5 fu x_t_count x_t_behind n5) l5_1 l5_2 l5_3 l5_4 = some r := h
      unfold fb_Rt_findBranch_L5 at h
      refine lv_iload hx hb d_Rt_findBranch_5 (lv_at hl 4 rfl) ?_
      refine lv_aload_n hx hb d_Rt_findBranch_7 rfl (lv_at hl 0 rfl) ?_
      refine va_get (D := G.1) (ci := 3) (v := .int x_t_count) (C := "PlayStates$RowTable") (T := TRt) (N := 5) hx hb hts iw_3 hown hK hP 0 rfl rfl 4 (by decide) (hts _ gw_66) (fun _ h9 => h9) rfl d_Rt_findBranch_8 ?_
      refine lv_icmp_ge (tgt := 42) hx hb d_Rt_findBranch_11 (by decide) (fun c1 => ?_) (fun c1 => ?_)
      · replace h := (if_pos c1).symm.trans h
        refine lv_iconst (v := (-1 : Int32)) hx hb d_Rt_findBranch_42 (by decide) ?_
        cases h
        exact q_iretW hx hb hr hlocks hP hD hS d_Rt_findBranch_43
      · replace h := (if_neg c1).symm.trans h
        refine lv_aload_n hx hb d_Rt_findBranch_14 rfl (lv_at hl 0 rfl) ?_
        refine va_get (D := G.1) (ci := 3) (v := .ref a_t_behind) (C := "PlayStates$RowTable") (T := TRt) (N := 5) hx hb hts iw_3 hown hK hP 0 rfl rfl 3 (by decide) (hts _ gw_65) (fun _ h9 => h9) rfl d_Rt_findBranch_15 ?_
        refine lv_iload hx hb d_Rt_findBranch_18 (lv_at hl 4 rfl) ?_
        obtain ⟨i2, h⟩ := o_if h
        refine va_iald (n := 600) (f := x_t_behind) hx hb hK hP 1 0 rfl rfl i2 d_Rt_findBranch_20 ?_
        refine lv_iload_n hx hb d_Rt_findBranch_21 rfl (lv_at hl 1 rfl) ?_
        refine lv_icmp_ne (tgt := 36) hx hb d_Rt_findBranch_22 (by decide) (fun c3 => ?_) (fun c3 => ?_)
        · replace h := (if_neg c3).symm.trans h
          refine lv_iinc (v := (l5_4 + (1 : Int32))) (lv' := [(4, .int (l5_4 + (1 : Int32))), (0, .ref a_t), (1, .int l5_1), (2, .int l5_2), (3, .int l5_3)]) hx hb d_Rt_findBranch_36 hl (k := 4) rfl rfl (by decide) rfl (fun ls hl => ?_)
          refine lv_goto (tgt := 5) hx hb d_Rt_findBranch_39 (by decide) ?_
          exact ih5 l5_1 l5_2 l5_3 (l5_4 + (1 : Int32)) _ _ _ h hP hD hS (lv_sub hl [1, 2, 3, 4, 0] rfl)
        · replace h := (if_pos c3).symm.trans h
          refine lv_iload_n hx hb d_Rt_findBranch_25 rfl (lv_at hl 3 rfl) ?_
          refine lv_iload_n hx hb d_Rt_findBranch_26 rfl (lv_at hl 2 rfl) ?_
          refine lv_icmp_ne (tgt := 33) hx hb d_Rt_findBranch_27 (by decide) (fun c4 => ?_) (fun c4 => ?_)
          · replace h := (if_neg c4).symm.trans h
            refine lv_iinc (v := (l5_3 + (1 : Int32))) (lv' := [(3, .int (l5_3 + (1 : Int32))), (0, .ref a_t), (1, .int l5_1), (2, .int l5_2), (4, .int l5_4)]) hx hb d_Rt_findBranch_33 hl (k := 3) rfl rfl (by decide) rfl (fun ls hl => ?_)
            refine lv_iinc (v := (l5_4 + (1 : Int32))) (lv' := [(4, .int (l5_4 + (1 : Int32))), (3, .int (l5_3 + (1 : Int32))), (0, .ref a_t), (1, .int l5_1), (2, .int l5_2)]) hx hb d_Rt_findBranch_36 hl (k := 4) rfl rfl (by decide) rfl (fun ls hl => ?_)
            refine lv_goto (tgt := 5) hx hb d_Rt_findBranch_39 (by decide) ?_
            exact ih5 l5_1 l5_2 (l5_3 + (1 : Int32)) (l5_4 + (1 : Int32)) _ _ _ h hP hD hS (lv_sub hl [2, 3, 4, 1, 0] rfl)
          · replace h := (if_pos c4).symm.trans h
            refine lv_iload hx hb d_Rt_findBranch_30 (lv_at hl 4 rfl) ?_
            cases h
            exact q_iretW hx hb hr hlocks hP hD hS d_Rt_findBranch_32
  exact L5 fu p0 p1 (0 : Int32) (0 : Int32) _ _ _ h hP hD hS (lv_sub hl [2, 3, 4, 1, 0] rfl)
end
section
theorem gw_309 : (.constant "java/lang/Integer" 265 (1431655765 : Int32) : Cond) ∈ GW := gT 339 (by decide +kernel) (by decide +kernel)
theorem gw_310 : (.constant "java/lang/Integer" 266 (858993459 : Int32) : Cond) ∈ GW := gT 340 (by decide +kernel) (by decide +kernel)
theorem gw_311 : (.constant "java/lang/Integer" 267 (252645135 : Int32) : Cond) ∈ GW := gT 341 (by decide +kernel) (by decide +kernel)
theorem d_Jn_bitCount_0 : decode prog_9_method_49_code 0 = .ok (.iload_n 0, 1) := by decide +kernel
theorem d_Jn_bitCount_1 : decode prog_9_method_49_code 1 = .ok (.iload_n 0, 1) := by decide +kernel
theorem d_Jn_bitCount_2 : decode prog_9_method_49_code 2 = .ok (.iconst 1, 1) := by decide +kernel
theorem d_Jn_bitCount_3 : decode prog_9_method_49_code 3 = .ok (.iushr, 1) := by decide +kernel
theorem d_Jn_bitCount_4 : decode prog_9_method_49_code 4 = .ok (.ldc_w 265, 3) := by decide +kernel
theorem d_Jn_bitCount_7 : decode prog_9_method_49_code 7 = .ok (.iand, 1) := by decide +kernel
theorem d_Jn_bitCount_8 : decode prog_9_method_49_code 8 = .ok (.isub, 1) := by decide +kernel
theorem d_Jn_bitCount_9 : decode prog_9_method_49_code 9 = .ok (.istore_n 0, 1) := by decide +kernel
theorem d_Jn_bitCount_10 : decode prog_9_method_49_code 10 = .ok (.iload_n 0, 1) := by decide +kernel
theorem d_Jn_bitCount_11 : decode prog_9_method_49_code 11 = .ok (.ldc_w 266, 3) := by decide +kernel
theorem d_Jn_bitCount_14 : decode prog_9_method_49_code 14 = .ok (.iand, 1) := by decide +kernel
theorem d_Jn_bitCount_15 : decode prog_9_method_49_code 15 = .ok (.iload_n 0, 1) := by decide +kernel
theorem d_Jn_bitCount_16 : decode prog_9_method_49_code 16 = .ok (.iconst 2, 1) := by decide +kernel
theorem d_Jn_bitCount_17 : decode prog_9_method_49_code 17 = .ok (.iushr, 1) := by decide +kernel
theorem d_Jn_bitCount_18 : decode prog_9_method_49_code 18 = .ok (.ldc_w 266, 3) := by decide +kernel
theorem d_Jn_bitCount_21 : decode prog_9_method_49_code 21 = .ok (.iand, 1) := by decide +kernel
theorem d_Jn_bitCount_22 : decode prog_9_method_49_code 22 = .ok (.iadd, 1) := by decide +kernel
theorem d_Jn_bitCount_23 : decode prog_9_method_49_code 23 = .ok (.istore_n 0, 1) := by decide +kernel
theorem d_Jn_bitCount_24 : decode prog_9_method_49_code 24 = .ok (.iload_n 0, 1) := by decide +kernel
theorem d_Jn_bitCount_25 : decode prog_9_method_49_code 25 = .ok (.iload_n 0, 1) := by decide +kernel
theorem d_Jn_bitCount_26 : decode prog_9_method_49_code 26 = .ok (.iconst 4, 1) := by decide +kernel
theorem d_Jn_bitCount_27 : decode prog_9_method_49_code 27 = .ok (.iushr, 1) := by decide +kernel
theorem d_Jn_bitCount_28 : decode prog_9_method_49_code 28 = .ok (.iadd, 1) := by decide +kernel
theorem d_Jn_bitCount_29 : decode prog_9_method_49_code 29 = .ok (.ldc_w 267, 3) := by decide +kernel
theorem d_Jn_bitCount_32 : decode prog_9_method_49_code 32 = .ok (.iand, 1) := by decide +kernel
theorem d_Jn_bitCount_33 : decode prog_9_method_49_code 33 = .ok (.istore_n 0, 1) := by decide +kernel
theorem d_Jn_bitCount_34 : decode prog_9_method_49_code 34 = .ok (.iload_n 0, 1) := by decide +kernel
theorem d_Jn_bitCount_35 : decode prog_9_method_49_code 35 = .ok (.iload_n 0, 1) := by decide +kernel
theorem d_Jn_bitCount_36 : decode prog_9_method_49_code 36 = .ok (.bipush 8, 2) := by decide +kernel
theorem d_Jn_bitCount_38 : decode prog_9_method_49_code 38 = .ok (.iushr, 1) := by decide +kernel
theorem d_Jn_bitCount_39 : decode prog_9_method_49_code 39 = .ok (.iadd, 1) := by decide +kernel
theorem d_Jn_bitCount_40 : decode prog_9_method_49_code 40 = .ok (.istore_n 0, 1) := by decide +kernel
theorem d_Jn_bitCount_41 : decode prog_9_method_49_code 41 = .ok (.iload_n 0, 1) := by decide +kernel
theorem d_Jn_bitCount_42 : decode prog_9_method_49_code 42 = .ok (.iload_n 0, 1) := by decide +kernel
theorem d_Jn_bitCount_43 : decode prog_9_method_49_code 43 = .ok (.bipush 16, 2) := by decide +kernel
theorem d_Jn_bitCount_45 : decode prog_9_method_49_code 45 = .ok (.iushr, 1) := by decide +kernel
theorem d_Jn_bitCount_46 : decode prog_9_method_49_code 46 = .ok (.iadd, 1) := by decide +kernel
theorem d_Jn_bitCount_47 : decode prog_9_method_49_code 47 = .ok (.istore_n 0, 1) := by decide +kernel
theorem d_Jn_bitCount_48 : decode prog_9_method_49_code 48 = .ok (.iload_n 0, 1) := by decide +kernel
theorem d_Jn_bitCount_49 : decode prog_9_method_49_code 49 = .ok (.bipush 63, 2) := by decide +kernel
theorem d_Jn_bitCount_51 : decode prog_9_method_49_code 51 = .ok (.iand, 1) := by decide +kernel
theorem d_Jn_bitCount_52 : decode prog_9_method_49_code 52 = .ok (.ireturn, 1) := by decide +kernel
-- java/lang/Integer.bitCount(I)I 
def ws_Jn_bitCount (G : gG)    : va_W := []
def f_Jn_bitCount  (p0 : Int32)  : Option (Int32) :=
  some ((((((((p0 - ((((p0).toUInt32 >>> (((1 : Int32)).toUInt32 &&& Int32.toUInt32 31)).toInt32) &&& (1431655765 : Int32))) &&& (858993459 : Int32)) + (((((p0 - ((((p0).toUInt32 >>> (((1 : Int32)).toUInt32 &&& Int32.toUInt32 31)).toInt32) &&& (1431655765 : Int32)))).toUInt32 >>> (((2 : Int32)).toUInt32 &&& Int32.toUInt32 31)).toInt32) &&& (858993459 : Int32))) + ((((((p0 - ((((p0).toUInt32 >>> (((1 : Int32)).toUInt32 &&& Int32.toUInt32 31)).toInt32) &&& (1431655765 : Int32))) &&& (858993459 : Int32)) + (((((p0 - ((((p0).toUInt32 >>> (((1 : Int32)).toUInt32 &&& Int32.toUInt32 31)).toInt32) &&& (1431655765 : Int32)))).toUInt32 >>> (((2 : Int32)).toUInt32 &&& Int32.toUInt32 31)).toInt32) &&& (858993459 : Int32)))).toUInt32 >>> (((4 : Int32)).toUInt32 &&& Int32.toUInt32 31)).toInt32)) &&& (252645135 : Int32)) + ((((((((p0 - ((((p0).toUInt32 >>> (((1 : Int32)).toUInt32 &&& Int32.toUInt32 31)).toInt32) &&& (1431655765 : Int32))) &&& (858993459 : Int32)) + (((((p0 - ((((p0).toUInt32 >>> (((1 : Int32)).toUInt32 &&& Int32.toUInt32 31)).toInt32) &&& (1431655765 : Int32)))).toUInt32 >>> (((2 : Int32)).toUInt32 &&& Int32.toUInt32 31)).toInt32) &&& (858993459 : Int32))) + ((((((p0 - ((((p0).toUInt32 >>> (((1 : Int32)).toUInt32 &&& Int32.toUInt32 31)).toInt32) &&& (1431655765 : Int32))) &&& (858993459 : Int32)) + (((((p0 - ((((p0).toUInt32 >>> (((1 : Int32)).toUInt32 &&& Int32.toUInt32 31)).toInt32) &&& (1431655765 : Int32)))).toUInt32 >>> (((2 : Int32)).toUInt32 &&& Int32.toUInt32 31)).toInt32) &&& (858993459 : Int32)))).toUInt32 >>> (((4 : Int32)).toUInt32 &&& Int32.toUInt32 31)).toInt32)) &&& (252645135 : Int32))).toUInt32 >>> (((8 : Int32)).toUInt32 &&& Int32.toUInt32 31)).toInt32)) + (((((((((p0 - ((((p0).toUInt32 >>> (((1 : Int32)).toUInt32 &&& Int32.toUInt32 31)).toInt32) &&& (1431655765 : Int32))) &&& (858993459 : Int32)) + (((((p0 - ((((p0).toUInt32 >>> (((1 : Int32)).toUInt32 &&& Int32.toUInt32 31)).toInt32) &&& (1431655765 : Int32)))).toUInt32 >>> (((2 : Int32)).toUInt32 &&& Int32.toUInt32 31)).toInt32) &&& (858993459 : Int32))) + ((((((p0 - ((((p0).toUInt32 >>> (((1 : Int32)).toUInt32 &&& Int32.toUInt32 31)).toInt32) &&& (1431655765 : Int32))) &&& (858993459 : Int32)) + (((((p0 - ((((p0).toUInt32 >>> (((1 : Int32)).toUInt32 &&& Int32.toUInt32 31)).toInt32) &&& (1431655765 : Int32)))).toUInt32 >>> (((2 : Int32)).toUInt32 &&& Int32.toUInt32 31)).toInt32) &&& (858993459 : Int32)))).toUInt32 >>> (((4 : Int32)).toUInt32 &&& Int32.toUInt32 31)).toInt32)) &&& (252645135 : Int32)) + ((((((((p0 - ((((p0).toUInt32 >>> (((1 : Int32)).toUInt32 &&& Int32.toUInt32 31)).toInt32) &&& (1431655765 : Int32))) &&& (858993459 : Int32)) + (((((p0 - ((((p0).toUInt32 >>> (((1 : Int32)).toUInt32 &&& Int32.toUInt32 31)).toInt32) &&& (1431655765 : Int32)))).toUInt32 >>> (((2 : Int32)).toUInt32 &&& Int32.toUInt32 31)).toInt32) &&& (858993459 : Int32))) + ((((((p0 - ((((p0).toUInt32 >>> (((1 : Int32)).toUInt32 &&& Int32.toUInt32 31)).toInt32) &&& (1431655765 : Int32))) &&& (858993459 : Int32)) + (((((p0 - ((((p0).toUInt32 >>> (((1 : Int32)).toUInt32 &&& Int32.toUInt32 31)).toInt32) &&& (1431655765 : Int32)))).toUInt32 >>> (((2 : Int32)).toUInt32 &&& Int32.toUInt32 31)).toInt32) &&& (858993459 : Int32)))).toUInt32 >>> (((4 : Int32)).toUInt32 &&& Int32.toUInt32 31)).toInt32)) &&& (252645135 : Int32))).toUInt32 >>> (((8 : Int32)).toUInt32 &&& Int32.toUInt32 31)).toInt32))).toUInt32 >>> (((16 : Int32)).toUInt32 &&& Int32.toUInt32 31)).toInt32)) &&& (63 : Int32))
set_option maxHeartbeats 4000000 in
set_option maxRecDepth 100000 in
theorem c_Jn_bitCount (l : Launch) (G : gG) (sz : Nat)   (p0 : Int32)  (r : Int32) (h : f_Jn_bitCount p0 = some r)  : cN l y_Jn_bitCount w_Jn_bitCount { frames := 0, cells := 0, slots := 0, locals := 0 } G sz [.int p0] (ws_Jn_bitCount G) (some (.int r)) (wB G (ws_Jn_bitCount G)) 0 0 := by
  refine cN_ofW (cc := prog_9_method_49_code) (maxL := 1) (ret := (some .int)) (by decide) rfl (Nat.le_of_ble_eq_true rfl) ?_
  intro p e s m args below meth c A H locs ls hx hb hr hts hown hlocks hin hml hK hN hP hD hA hS hl
  replace hl : lv_has ls 1 [(0, .int p0)] := hl
  replace hown : s.vm.findClass "java/lang/Integer" = some m.cls := hown
  unfold f_Jn_bitCount at h
  refine lv_iload_n hx hb d_Jn_bitCount_0 rfl (lv_at hl 0 rfl) ?_
  refine lv_iload_n hx hb d_Jn_bitCount_1 rfl (lv_at hl 0 rfl) ?_
  refine lv_iconst (v := (1 : Int32)) hx hb d_Jn_bitCount_2 (by decide) ?_
  refine lv_iushr hx hb d_Jn_bitCount_3 rfl ?_
  refine lv_ldcw (v := (1431655765 : Int32)) hx hb hown (hts _ gw_309) d_Jn_bitCount_4 ?_
  refine lv_iand hx hb d_Jn_bitCount_7 ?_
  refine lv_isub hx hb d_Jn_bitCount_8 ?_
  refine lv_istore_n (lv' := [(0, .int (p0 - ((((p0).toUInt32 >>> (((1 : Int32)).toUInt32 &&& Int32.toUInt32 31)).toInt32) &&& (1431655765 : Int32))))]) hx hb d_Jn_bitCount_9 rfl hl (by decide) rfl (fun ls hl => ?_)
  refine lv_iload_n hx hb d_Jn_bitCount_10 rfl (lv_at hl 0 rfl) ?_
  refine lv_ldcw (v := (858993459 : Int32)) hx hb hown (hts _ gw_310) d_Jn_bitCount_11 ?_
  refine lv_iand hx hb d_Jn_bitCount_14 ?_
  refine lv_iload_n hx hb d_Jn_bitCount_15 rfl (lv_at hl 0 rfl) ?_
  refine lv_iconst (v := (2 : Int32)) hx hb d_Jn_bitCount_16 (by decide) ?_
  refine lv_iushr hx hb d_Jn_bitCount_17 rfl ?_
  refine lv_ldcw (v := (858993459 : Int32)) hx hb hown (hts _ gw_310) d_Jn_bitCount_18 ?_
  refine lv_iand hx hb d_Jn_bitCount_21 ?_
  refine lv_iadd hx hb d_Jn_bitCount_22 ?_
  refine lv_istore_n (lv' := [(0, .int (((p0 - ((((p0).toUInt32 >>> (((1 : Int32)).toUInt32 &&& Int32.toUInt32 31)).toInt32) &&& (1431655765 : Int32))) &&& (858993459 : Int32)) + (((((p0 - ((((p0).toUInt32 >>> (((1 : Int32)).toUInt32 &&& Int32.toUInt32 31)).toInt32) &&& (1431655765 : Int32)))).toUInt32 >>> (((2 : Int32)).toUInt32 &&& Int32.toUInt32 31)).toInt32) &&& (858993459 : Int32))))]) hx hb d_Jn_bitCount_23 rfl hl (by decide) rfl (fun ls hl => ?_)
  refine lv_iload_n hx hb d_Jn_bitCount_24 rfl (lv_at hl 0 rfl) ?_
  refine lv_iload_n hx hb d_Jn_bitCount_25 rfl (lv_at hl 0 rfl) ?_
  refine lv_iconst (v := (4 : Int32)) hx hb d_Jn_bitCount_26 (by decide) ?_
  refine lv_iushr hx hb d_Jn_bitCount_27 rfl ?_
  refine lv_iadd hx hb d_Jn_bitCount_28 ?_
  refine lv_ldcw (v := (252645135 : Int32)) hx hb hown (hts _ gw_311) d_Jn_bitCount_29 ?_
  refine lv_iand hx hb d_Jn_bitCount_32 ?_
  refine lv_istore_n (lv' := [(0, .int (((((p0 - ((((p0).toUInt32 >>> (((1 : Int32)).toUInt32 &&& Int32.toUInt32 31)).toInt32) &&& (1431655765 : Int32))) &&& (858993459 : Int32)) + (((((p0 - ((((p0).toUInt32 >>> (((1 : Int32)).toUInt32 &&& Int32.toUInt32 31)).toInt32) &&& (1431655765 : Int32)))).toUInt32 >>> (((2 : Int32)).toUInt32 &&& Int32.toUInt32 31)).toInt32) &&& (858993459 : Int32))) + ((((((p0 - ((((p0).toUInt32 >>> (((1 : Int32)).toUInt32 &&& Int32.toUInt32 31)).toInt32) &&& (1431655765 : Int32))) &&& (858993459 : Int32)) + (((((p0 - ((((p0).toUInt32 >>> (((1 : Int32)).toUInt32 &&& Int32.toUInt32 31)).toInt32) &&& (1431655765 : Int32)))).toUInt32 >>> (((2 : Int32)).toUInt32 &&& Int32.toUInt32 31)).toInt32) &&& (858993459 : Int32)))).toUInt32 >>> (((4 : Int32)).toUInt32 &&& Int32.toUInt32 31)).toInt32)) &&& (252645135 : Int32)))]) hx hb d_Jn_bitCount_33 rfl hl (by decide) rfl (fun ls hl => ?_)
  refine lv_iload_n hx hb d_Jn_bitCount_34 rfl (lv_at hl 0 rfl) ?_
  refine lv_iload_n hx hb d_Jn_bitCount_35 rfl (lv_at hl 0 rfl) ?_
  refine lv_bipush (v := (8 : Int32)) hx hb d_Jn_bitCount_36 (by decide) ?_
  refine lv_iushr hx hb d_Jn_bitCount_38 rfl ?_
  refine lv_iadd hx hb d_Jn_bitCount_39 ?_
  refine lv_istore_n (lv' := [(0, .int ((((((p0 - ((((p0).toUInt32 >>> (((1 : Int32)).toUInt32 &&& Int32.toUInt32 31)).toInt32) &&& (1431655765 : Int32))) &&& (858993459 : Int32)) + (((((p0 - ((((p0).toUInt32 >>> (((1 : Int32)).toUInt32 &&& Int32.toUInt32 31)).toInt32) &&& (1431655765 : Int32)))).toUInt32 >>> (((2 : Int32)).toUInt32 &&& Int32.toUInt32 31)).toInt32) &&& (858993459 : Int32))) + ((((((p0 - ((((p0).toUInt32 >>> (((1 : Int32)).toUInt32 &&& Int32.toUInt32 31)).toInt32) &&& (1431655765 : Int32))) &&& (858993459 : Int32)) + (((((p0 - ((((p0).toUInt32 >>> (((1 : Int32)).toUInt32 &&& Int32.toUInt32 31)).toInt32) &&& (1431655765 : Int32)))).toUInt32 >>> (((2 : Int32)).toUInt32 &&& Int32.toUInt32 31)).toInt32) &&& (858993459 : Int32)))).toUInt32 >>> (((4 : Int32)).toUInt32 &&& Int32.toUInt32 31)).toInt32)) &&& (252645135 : Int32)) + ((((((((p0 - ((((p0).toUInt32 >>> (((1 : Int32)).toUInt32 &&& Int32.toUInt32 31)).toInt32) &&& (1431655765 : Int32))) &&& (858993459 : Int32)) + (((((p0 - ((((p0).toUInt32 >>> (((1 : Int32)).toUInt32 &&& Int32.toUInt32 31)).toInt32) &&& (1431655765 : Int32)))).toUInt32 >>> (((2 : Int32)).toUInt32 &&& Int32.toUInt32 31)).toInt32) &&& (858993459 : Int32))) + ((((((p0 - ((((p0).toUInt32 >>> (((1 : Int32)).toUInt32 &&& Int32.toUInt32 31)).toInt32) &&& (1431655765 : Int32))) &&& (858993459 : Int32)) + (((((p0 - ((((p0).toUInt32 >>> (((1 : Int32)).toUInt32 &&& Int32.toUInt32 31)).toInt32) &&& (1431655765 : Int32)))).toUInt32 >>> (((2 : Int32)).toUInt32 &&& Int32.toUInt32 31)).toInt32) &&& (858993459 : Int32)))).toUInt32 >>> (((4 : Int32)).toUInt32 &&& Int32.toUInt32 31)).toInt32)) &&& (252645135 : Int32))).toUInt32 >>> (((8 : Int32)).toUInt32 &&& Int32.toUInt32 31)).toInt32)))]) hx hb d_Jn_bitCount_40 rfl hl (by decide) rfl (fun ls hl => ?_)
  refine lv_iload_n hx hb d_Jn_bitCount_41 rfl (lv_at hl 0 rfl) ?_
  refine lv_iload_n hx hb d_Jn_bitCount_42 rfl (lv_at hl 0 rfl) ?_
  refine lv_bipush (v := (16 : Int32)) hx hb d_Jn_bitCount_43 (by decide) ?_
  refine lv_iushr hx hb d_Jn_bitCount_45 rfl ?_
  refine lv_iadd hx hb d_Jn_bitCount_46 ?_
  refine lv_istore_n (lv' := [(0, .int (((((((p0 - ((((p0).toUInt32 >>> (((1 : Int32)).toUInt32 &&& Int32.toUInt32 31)).toInt32) &&& (1431655765 : Int32))) &&& (858993459 : Int32)) + (((((p0 - ((((p0).toUInt32 >>> (((1 : Int32)).toUInt32 &&& Int32.toUInt32 31)).toInt32) &&& (1431655765 : Int32)))).toUInt32 >>> (((2 : Int32)).toUInt32 &&& Int32.toUInt32 31)).toInt32) &&& (858993459 : Int32))) + ((((((p0 - ((((p0).toUInt32 >>> (((1 : Int32)).toUInt32 &&& Int32.toUInt32 31)).toInt32) &&& (1431655765 : Int32))) &&& (858993459 : Int32)) + (((((p0 - ((((p0).toUInt32 >>> (((1 : Int32)).toUInt32 &&& Int32.toUInt32 31)).toInt32) &&& (1431655765 : Int32)))).toUInt32 >>> (((2 : Int32)).toUInt32 &&& Int32.toUInt32 31)).toInt32) &&& (858993459 : Int32)))).toUInt32 >>> (((4 : Int32)).toUInt32 &&& Int32.toUInt32 31)).toInt32)) &&& (252645135 : Int32)) + ((((((((p0 - ((((p0).toUInt32 >>> (((1 : Int32)).toUInt32 &&& Int32.toUInt32 31)).toInt32) &&& (1431655765 : Int32))) &&& (858993459 : Int32)) + (((((p0 - ((((p0).toUInt32 >>> (((1 : Int32)).toUInt32 &&& Int32.toUInt32 31)).toInt32) &&& (1431655765 : Int32)))).toUInt32 >>> (((2 : Int32)).toUInt32 &&& Int32.toUInt32 31)).toInt32) &&& (858993459 : Int32))) + ((((((p0 - ((((p0).toUInt32 >>> (((1 : Int32)).toUInt32 &&& Int32.toUInt32 31)).toInt32) &&& (1431655765 : Int32))) &&& (858993459 : Int32)) + (((((p0 - ((((p0).toUInt32 >>> (((1 : Int32)).toUInt32 &&& Int32.toUInt32 31)).toInt32) &&& (1431655765 : Int32)))).toUInt32 >>> (((2 : Int32)).toUInt32 &&& Int32.toUInt32 31)).toInt32) &&& (858993459 : Int32)))).toUInt32 >>> (((4 : Int32)).toUInt32 &&& Int32.toUInt32 31)).toInt32)) &&& (252645135 : Int32))).toUInt32 >>> (((8 : Int32)).toUInt32 &&& Int32.toUInt32 31)).toInt32)) + (((((((((p0 - ((((p0).toUInt32 >>> (((1 : Int32)).toUInt32 &&& Int32.toUInt32 31)).toInt32) &&& (1431655765 : Int32))) &&& (858993459 : Int32)) + (((((p0 - ((((p0).toUInt32 >>> (((1 : Int32)).toUInt32 &&& Int32.toUInt32 31)).toInt32) &&& (1431655765 : Int32)))).toUInt32 >>> (((2 : Int32)).toUInt32 &&& Int32.toUInt32 31)).toInt32) &&& (858993459 : Int32))) + ((((((p0 - ((((p0).toUInt32 >>> (((1 : Int32)).toUInt32 &&& Int32.toUInt32 31)).toInt32) &&& (1431655765 : Int32))) &&& (858993459 : Int32)) + (((((p0 - ((((p0).toUInt32 >>> (((1 : Int32)).toUInt32 &&& Int32.toUInt32 31)).toInt32) &&& (1431655765 : Int32)))).toUInt32 >>> (((2 : Int32)).toUInt32 &&& Int32.toUInt32 31)).toInt32) &&& (858993459 : Int32)))).toUInt32 >>> (((4 : Int32)).toUInt32 &&& Int32.toUInt32 31)).toInt32)) &&& (252645135 : Int32)) + ((((((((p0 - ((((p0).toUInt32 >>> (((1 : Int32)).toUInt32 &&& Int32.toUInt32 31)).toInt32) &&& (1431655765 : Int32))) &&& (858993459 : Int32)) + (((((p0 - ((((p0).toUInt32 >>> (((1 : Int32)).toUInt32 &&& Int32.toUInt32 31)).toInt32) &&& (1431655765 : Int32)))).toUInt32 >>> (((2 : Int32)).toUInt32 &&& Int32.toUInt32 31)).toInt32) &&& (858993459 : Int32))) + ((((((p0 - ((((p0).toUInt32 >>> (((1 : Int32)).toUInt32 &&& Int32.toUInt32 31)).toInt32) &&& (1431655765 : Int32))) &&& (858993459 : Int32)) + (((((p0 - ((((p0).toUInt32 >>> (((1 : Int32)).toUInt32 &&& Int32.toUInt32 31)).toInt32) &&& (1431655765 : Int32)))).toUInt32 >>> (((2 : Int32)).toUInt32 &&& Int32.toUInt32 31)).toInt32) &&& (858993459 : Int32)))).toUInt32 >>> (((4 : Int32)).toUInt32 &&& Int32.toUInt32 31)).toInt32)) &&& (252645135 : Int32))).toUInt32 >>> (((8 : Int32)).toUInt32 &&& Int32.toUInt32 31)).toInt32))).toUInt32 >>> (((16 : Int32)).toUInt32 &&& Int32.toUInt32 31)).toInt32)))]) hx hb d_Jn_bitCount_47 rfl hl (by decide) rfl (fun ls hl => ?_)
  refine lv_iload_n hx hb d_Jn_bitCount_48 rfl (lv_at hl 0 rfl) ?_
  refine lv_bipush (v := (63 : Int32)) hx hb d_Jn_bitCount_49 (by decide) ?_
  refine lv_iand hx hb d_Jn_bitCount_51 ?_
  cases h
  exact q_iretW hx hb hr hlocks hP hD hS d_Jn_bitCount_52

theorem d_Ja_fill_0 : decode prog_11_method_103_code 0 = .ok (.iconst 0, 1) := by decide +kernel
theorem d_Ja_fill_1 : decode prog_11_method_103_code 1 = .ok (.istore_n 2, 1) := by decide +kernel
theorem d_Ja_fill_2 : decode prog_11_method_103_code 2 = .ok (.aload_n 0, 1) := by decide +kernel
theorem d_Ja_fill_3 : decode prog_11_method_103_code 3 = .ok (.arraylength, 1) := by decide +kernel
theorem d_Ja_fill_4 : decode prog_11_method_103_code 4 = .ok (.istore_n 3, 1) := by decide +kernel
theorem d_Ja_fill_5 : decode prog_11_method_103_code 5 = .ok (.iload_n 2, 1) := by decide +kernel
theorem d_Ja_fill_6 : decode prog_11_method_103_code 6 = .ok (.iload_n 3, 1) := by decide +kernel
theorem d_Ja_fill_7 : decode prog_11_method_103_code 7 = .ok (.if_icmp .ge 13, 3) := by decide +kernel
theorem d_Ja_fill_10 : decode prog_11_method_103_code 10 = .ok (.aload_n 0, 1) := by decide +kernel
theorem d_Ja_fill_11 : decode prog_11_method_103_code 11 = .ok (.iload_n 2, 1) := by decide +kernel
theorem d_Ja_fill_12 : decode prog_11_method_103_code 12 = .ok (.iload_n 1, 1) := by decide +kernel
theorem d_Ja_fill_13 : decode prog_11_method_103_code 13 = .ok (.iastore, 1) := by decide +kernel
theorem d_Ja_fill_14 : decode prog_11_method_103_code 14 = .ok (.iinc 2 1, 3) := by decide +kernel
theorem d_Ja_fill_17 : decode prog_11_method_103_code 17 = .ok (.goto (-12), 3) := by decide +kernel
theorem d_Ja_fill_20 : decode prog_11_method_103_code 20 = .ok (.return_, 1) := by decide +kernel
-- java/util/Arrays.fill([II)V 
def ws_Ja_fill (G : gG) (a_a : Nat) (n : Nat) (x_a : Nat → Int32) : va_W := [(a_a, .inl (G.2 0, n, .inl x_a))]
def fb_Ja_fill_L5 (fu : Nat) (n : Nat)  (k5 : (Int32 → Int32 → Int32 → (Nat → Int32) → Option ((Nat → Int32)))) (l5_1 : Int32) (l5_2 : Int32) (l5_3 : Int32) (x_a_5 : Nat → Int32) : Option ((Nat → Int32)) :=
  (if l5_3 ≤ l5_2 then some x_a_5 else (if inB l5_2 n then (k5 l5_1 (l5_2 + (1 : Int32)) l5_3 (upd x_a_5 l5_2.toNatClampNeg l5_1)) else none))
def f_Ja_fill_L5 (fu : Nat) (n : Nat)  : Nat → Int32 → Int32 → Int32 → (Nat → Int32) → Option ((Nat → Int32))
  | 0 => fun _ _ _ _ => none
  | k9 + 1 => fb_Ja_fill_L5 fu n (f_Ja_fill_L5 fu n k9)
def f_Ja_fill (fu : Nat) (n : Nat) (p1 : Int32) (x_a : Nat → Int32) : Option ((Nat → Int32)) :=
  (f_Ja_fill_L5 fu n fu p1 (0 : Int32) (Int32.ofNat n) x_a)
set_option maxHeartbeats 4000000 in
set_option maxRecDepth 100000 in
theorem c_Ja_fill (l : Launch) (G : gG) (sz : Nat) (a_a : Nat) (fu : Nat) (n : Nat) (p1 : Int32) (x_a : Nat → Int32) (x_a' : Nat → Int32) (h : f_Ja_fill fu n p1 x_a = some x_a')  : cN l y_Ja_fill w_Ja_fill { frames := 0, cells := 0, slots := 0, locals := 0 } G sz [.ref a_a, .int p1] (ws_Ja_fill G a_a n x_a) none (wB G (ws_Ja_fill G a_a n x_a')) 0 0 := by
  refine cN_ofW (cc := prog_11_method_103_code) (maxL := 4) (ret := none) (by decide) rfl (Nat.le_of_ble_eq_true rfl) ?_
  intro p e s m args below meth c A H locs ls hx hb hr hts hown hlocks hin hml hK hN hP hD hA hS hl
  replace hl : lv_has ls 4 [(0, .ref a_a), (1, .int p1)] := hl
  replace hown : s.vm.findClass "java/util/Arrays" = some m.cls := hown
  unfold f_Ja_fill at h
  refine lv_iconst (v := (0 : Int32)) hx hb d_Ja_fill_0 (by decide) ?_
  refine lv_istore_n (lv' := [(2, .int (0 : Int32)), (0, .ref a_a), (1, .int p1)]) hx hb d_Ja_fill_1 rfl hl (by decide) rfl (fun ls hl => ?_)
  refine lv_aload_n hx hb d_Ja_fill_2 rfl (lv_at hl 1 rfl) ?_
  refine va_alen (v := Int32.ofNat n) hx hb hK hP 0 0 rfl rfl rfl d_Ja_fill_3 ?_
  refine lv_istore_n (lv' := [(3, .int (Int32.ofNat n)), (2, .int (0 : Int32)), (0, .ref a_a), (1, .int p1)]) hx hb d_Ja_fill_4 rfl hl (by decide) rfl (fun ls hl => ?_)
  have L5 : ∀ (nf : Nat) (l5_1 : Int32) (l5_2 : Int32) (l5_3 : Int32) (x_a_5 : Nat → Int32) (H : Heap) (locs : List Loc) (ls : Array Slot), f_Ja_fill_L5 fu n nf l5_1 l5_2 l5_3 x_a_5 = some x_a' → va_P G.1 vwCl (ws_Ja_fill G a_a n x_a_5) H → va_D A (ws_Ja_fill G a_a n x_a_5) → va_S A s.heap H locs → lv_has ls 4 [(0, .ref a_a), (1, .int l5_1), (2, .int l5_2), (3, .int l5_3)] → W p l e { frames := 0, cells := 0, slots := 0, locals := 0 } s m args below meth c H locs 0 0 (MQ below (qQ none (wB G (ws_Ja_fill G a_a n x_a') A) A) args s 0 0 A) (F0 m 5 ls []) := by
    clear h hP hD hS hl
    intro n5
    induction n5 with
    | zero => intro _ _ _ _ H locs ls h; exact nomatch (show none = some _ from h)
    | succ n5 ih5 =>
      intro l5_1 l5_2 l5_3 x_a_5 H locs ls h hP hD hS hl
      replace h : fb_Ja_fill_L5 fu n (f_Ja_fill_L5 fu n n5) l5_1 l5_2 l5_3 x_a_5 = some x_a' := h
      unfold fb_Ja_fill_L5 at h
      refine lv_iload_n hx hb d_Ja_fill_5 rfl (lv_at hl 2 rfl) ?_
      refine lv_iload_n hx hb d_Ja_fill_6 rfl (lv_at hl 3 rfl) ?_
      refine lv_icmp_ge (tgt := 20) hx hb d_Ja_fill_7 (by decide) (fun c1 => ?_) (fun c1 => ?_)
      · replace h := (if_pos c1).symm.trans h
        cases h
        exact q_vretW hx hb hr hlocks hP hD hS d_Ja_fill_20
      · replace h := (if_neg c1).symm.trans h
        refine lv_aload_n hx hb d_Ja_fill_10 rfl (lv_at hl 0 rfl) ?_
        refine lv_iload_n hx hb d_Ja_fill_11 rfl (lv_at hl 2 rfl) ?_
        refine lv_iload_n hx hb d_Ja_fill_12 rfl (lv_at hl 1 rfl) ?_
        obtain ⟨i2, h⟩ := o_if h
        refine va_iast (n := n) (f := x_a_5) hx hb hK hP hD hS 0 0 rfl rfl i2 d_Ja_fill_13 (fun H locs hP hD hS => ?_)
        replace hP : va_P G.1 vwCl (ws_Ja_fill G a_a n (upd x_a_5 l5_2.toNatClampNeg l5_1)) H := hP
        replace hD : va_D A (ws_Ja_fill G a_a n (upd x_a_5 l5_2.toNatClampNeg l5_1)) := hD
        refine lv_iinc (v := (l5_2 + (1 : Int32))) (lv' := [(2, .int (l5_2 + (1 : Int32))), (0, .ref a_a), (1, .int l5_1), (3, .int l5_3)]) hx hb d_Ja_fill_14 hl (k := 2) rfl rfl (by decide) rfl (fun ls hl => ?_)
        refine lv_goto (tgt := 5) hx hb d_Ja_fill_17 (by decide) ?_
        exact ih5 l5_1 (l5_2 + (1 : Int32)) l5_3 (upd x_a_5 l5_2.toNatClampNeg l5_1) _ _ _ h hP hD hS (lv_sub hl [1, 2, 0, 3] rfl)
  exact L5 fu p1 (0 : Int32) (Int32.ofNat n) x_a _ _ _ h hP hD hS (lv_sub hl [2, 3, 1, 0] rfl)

theorem gw_294 : (.code ⟨"java/util/Arrays", "fill", "([II)V"⟩ prog_11_method_103_code 4 none : Cond) ∈ GW := gT 323 (by decide +kernel) (by decide +kernel)
theorem gw_39 : (.initialized "java/util/Arrays" : Cond) ∈ GW := gT 9 (by decide +kernel) (by decide +kernel)
theorem gw_292 : (.methodLink "PlayStates$Board" 18 ⟨"java/util/Arrays", "fill", "([II)V"⟩ : Cond) ∈ GW := gT 321 (by decide +kernel) (by decide +kernel)
theorem gw_293 : (.static ⟨"java/util/Arrays", "fill", "([II)V"⟩ : Cond) ∈ GW := gT 322 (by decide +kernel) (by decide +kernel)
theorem d_Bd_clear_0 : decode prog_2_method_2_code 0 = .ok (.aload_n 0, 1) := by decide +kernel
theorem d_Bd_clear_1 : decode prog_2_method_2_code 1 = .ok (.getfield 9, 3) := by decide +kernel
theorem d_Bd_clear_4 : decode prog_2_method_2_code 4 = .ok (.iconst 0, 1) := by decide +kernel
theorem d_Bd_clear_5 : decode prog_2_method_2_code 5 = .ok (.invokestatic 18, 3) := by decide +kernel
theorem d_Bd_clear_8 : decode prog_2_method_2_code 8 = .ok (.aload_n 0, 1) := by decide +kernel
theorem d_Bd_clear_9 : decode prog_2_method_2_code 9 = .ok (.getfield 15, 3) := by decide +kernel
theorem d_Bd_clear_12 : decode prog_2_method_2_code 12 = .ok (.iconst 0, 1) := by decide +kernel
theorem d_Bd_clear_13 : decode prog_2_method_2_code 13 = .ok (.invokestatic 18, 3) := by decide +kernel
theorem d_Bd_clear_16 : decode prog_2_method_2_code 16 = .ok (.return_, 1) := by decide +kernel
-- PlayStates$Board.clear()V 
def ws_Bd_clear (G : gG) (a_t a_t_entries a_t_markBits : Nat) (n : Nat) (x_t_entries : Nat → Int32) (x_t_markBits : Nat → Int32) : va_W := [(a_t, .inr (0, [.ref a_t_entries, .ref a_t_markBits])), (a_t_entries, .inl (G.2 0, n, .inl x_t_entries)), (a_t_markBits, .inl (G.2 0, n, .inl x_t_markBits))]
def f_Bd_clear (fu : Nat) (n : Nat)  (x_t_entries : Nat → Int32) (x_t_markBits : Nat → Int32) : Option ((Nat → Int32) × (Nat → Int32)) :=
  ((f_Ja_fill fu n (0 : Int32) x_t_entries).bind fun y1 => ((f_Ja_fill fu n (0 : Int32) x_t_markBits).bind fun y2 => some (y1, y2)))
set_option maxHeartbeats 4000000 in
set_option maxRecDepth 100000 in
theorem c_Bd_clear (l : Launch) (G : gG) (sz : Nat) (a_t a_t_entries a_t_markBits : Nat) (fu : Nat) (n : Nat)  (x_t_entries : Nat → Int32) (x_t_markBits : Nat → Int32) (x_t_entries' : Nat → Int32) (x_t_markBits' : Nat → Int32) (h : f_Bd_clear fu n x_t_entries x_t_markBits = some (x_t_entries', x_t_markBits'))  : cN l y_Bd_clear w_Bd_clear { frames := 1, cells := 0, slots := 0, locals := 23 } G sz [.ref a_t] (ws_Bd_clear G a_t a_t_entries a_t_markBits n x_t_entries x_t_markBits) none (wB G (ws_Bd_clear G a_t a_t_entries a_t_markBits n x_t_entries' x_t_markBits')) 0 0 := by
  refine cN_ofW (cc := prog_2_method_2_code) (maxL := 1) (ret := none) (by decide) rfl (Nat.le_of_ble_eq_true rfl) ?_
  intro p e s m args below meth c A H locs ls hx hb hr hts hown hlocks hin hml hK hN hP hD hA hS hl
  replace hl : lv_has ls 1 [(0, .ref a_t)] := hl
  replace hown : s.vm.findClass "PlayStates$Board" = some m.cls := hown
  unfold f_Bd_clear at h
  refine lv_aload_n hx hb d_Bd_clear_0 rfl (lv_at hl 0 rfl) ?_
  refine va_get (D := G.1) (ci := 0) (v := .ref a_t_entries) (C := "PlayStates$Board") (T := TBd) (N := 2) hx hb hts iw_0 hown hK hP 0 rfl rfl 0 (by decide) (hts _ gw_79) (fun _ h9 => h9) rfl d_Bd_clear_1 ?_
  refine lv_iconst (v := (0 : Int32)) hx hb d_Bd_clear_4 (by decide) ?_
  obtain ⟨y1, hy1, h⟩ := o_bind h
  have hPc := hP.sub (ws' := (ws_Ja_fill G a_t_entries n x_t_entries)) [1] rfl
  have hDc := hD.sub (ws' := (ws_Ja_fill G a_t_entries n x_t_entries)) [1] (by decide) rfl
  have hFc := va_free (wc := (ws_Ja_fill G a_t_entries n x_t_entries)) hD hS hA [1] rfl
  refine q_call0 (va_runS (As := [.ref a_t_entries, .int (0 : Int32)]) (rest := []) ⟨hx, hb, hml, hown, hts⟩ (c_Ja_fill l G H.size a_t_entries fu n (0 : Int32) x_t_entries _ hy1) ⟨callB_of 2 hts (gC gw_294) rfl rfl rfl (hts _ gw_39) (hts _ gw_292) (by decide +kernel) ⟨Nat.le_of_ble_eq_true rfl, Nat.le_of_ble_eq_true rfl⟩, hts _ gw_293⟩ (pS hK hN hPc hDc) rfl rfl hl.1 rfl (lv_room (Nat.le_of_ble_eq_true rfl)) d_Bd_clear_5 ⟨Nat.le_of_ble_eq_true rfl, Nat.le_of_ble_eq_true rfl⟩) hS (fun q _ h => hFc q h) hFc (fun H1 locs hB hz hk hS => ?_)
  obtain ⟨hP, hD⟩ := q_join (wr := [(a_t, .inr (0, [.ref a_t_entries, .ref a_t_markBits])), (a_t_markBits, .inl (G.2 0, n, .inl x_t_markBits))]) (wn := (ws_Bd_clear G a_t a_t_entries a_t_markBits n y1 x_t_markBits)) hP hD [1] [0, 2] [0, 2, 1] rfl rfl (by decide) (by decide) rfl (by decide) hk hFc hB.1 hB.2
  generalize H1 = H at hP hS ⊢
  replace hP : va_P G.1 vwCl (ws_Bd_clear G a_t a_t_entries a_t_markBits n y1 x_t_markBits) H := hP
  replace hD : va_D A (ws_Bd_clear G a_t a_t_entries a_t_markBits n y1 x_t_markBits) := hD
  refine lv_aload_n hx hb d_Bd_clear_8 rfl (lv_at hl 0 rfl) ?_
  refine va_get (D := G.1) (ci := 0) (v := .ref a_t_markBits) (C := "PlayStates$Board") (T := TBd) (N := 2) hx hb hts iw_0 hown hK hP 0 rfl rfl 1 (by decide) (hts _ gw_80) (fun _ h9 => h9) rfl d_Bd_clear_9 ?_
  refine lv_iconst (v := (0 : Int32)) hx hb d_Bd_clear_12 (by decide) ?_
  obtain ⟨y2, hy2, h⟩ := o_bind h
  have hPc := hP.sub (ws' := (ws_Ja_fill G a_t_markBits n x_t_markBits)) [2] rfl
  have hDc := hD.sub (ws' := (ws_Ja_fill G a_t_markBits n x_t_markBits)) [2] (by decide) rfl
  have hFc := va_free (wc := (ws_Ja_fill G a_t_markBits n x_t_markBits)) hD hS hA [2] rfl
  refine q_call0 (va_runS (As := [.ref a_t_markBits, .int (0 : Int32)]) (rest := []) ⟨hx, hb, hml, hown, hts⟩ (c_Ja_fill l G H.size a_t_markBits fu n (0 : Int32) x_t_markBits _ hy2) ⟨callB_of 2 hts (gC gw_294) rfl rfl rfl (hts _ gw_39) (hts _ gw_292) (by decide +kernel) ⟨Nat.le_of_ble_eq_true rfl, Nat.le_of_ble_eq_true rfl⟩, hts _ gw_293⟩ (pS hK hN hPc hDc) rfl rfl hl.1 rfl (lv_room (Nat.le_of_ble_eq_true rfl)) d_Bd_clear_13 ⟨Nat.le_of_ble_eq_true rfl, Nat.le_of_ble_eq_true rfl⟩) hS (fun q _ h => hFc q h) hFc (fun H1 locs hB hz hk hS => ?_)
  obtain ⟨hP, hD⟩ := q_join (wr := [(a_t, .inr (0, [.ref a_t_entries, .ref a_t_markBits])), (a_t_entries, .inl (G.2 0, n, .inl y1))]) (wn := (ws_Bd_clear G a_t a_t_entries a_t_markBits n y1 y2)) hP hD [2] [0, 1] [0, 1, 2] rfl rfl (by decide) (by decide) rfl (by decide) hk hFc hB.1 hB.2
  generalize H1 = H at hP hS ⊢
  replace hP : va_P G.1 vwCl (ws_Bd_clear G a_t a_t_entries a_t_markBits n y1 y2) H := hP
  replace hD : va_D A (ws_Bd_clear G a_t a_t_entries a_t_markBits n y1 y2) := hD
  cases h
  exact q_vretW hx hb hr hlocks hP hD hS d_Bd_clear_16

theorem gw_308 : (.code ⟨"java/lang/Integer", "bitCount", "(I)I"⟩ prog_9_method_49_code 1 (some .int) : Cond) ∈ GW := gT 338 (by decide +kernel) (by decide +kernel)
theorem gw_40 : (.initialized "java/lang/Integer" : Cond) ∈ GW := gT 10 (by decide +kernel) (by decide +kernel)
theorem gw_306 : (.methodLink "PlayStates$Board" 28 ⟨"java/lang/Integer", "bitCount", "(I)I"⟩ : Cond) ∈ GW := gT 336 (by decide +kernel) (by decide +kernel)
theorem gw_307 : (.static ⟨"java/lang/Integer", "bitCount", "(I)I"⟩ : Cond) ∈ GW := gT 337 (by decide +kernel) (by decide +kernel)
theorem d_Bd_countRowsNeeded_0 : decode prog_2_method_6_code 0 = .ok (.iconst 0, 1) := by decide +kernel
theorem d_Bd_countRowsNeeded_1 : decode prog_2_method_6_code 1 = .ok (.istore_n 1, 1) := by decide +kernel
theorem d_Bd_countRowsNeeded_2 : decode prog_2_method_6_code 2 = .ok (.iconst 0, 1) := by decide +kernel
theorem d_Bd_countRowsNeeded_3 : decode prog_2_method_6_code 3 = .ok (.istore_n 2, 1) := by decide +kernel
theorem d_Bd_countRowsNeeded_4 : decode prog_2_method_6_code 4 = .ok (.iload_n 2, 1) := by decide +kernel
theorem d_Bd_countRowsNeeded_5 : decode prog_2_method_6_code 5 = .ok (.aload_n 0, 1) := by decide +kernel
theorem d_Bd_countRowsNeeded_6 : decode prog_2_method_6_code 6 = .ok (.getfield 9, 3) := by decide +kernel
theorem d_Bd_countRowsNeeded_9 : decode prog_2_method_6_code 9 = .ok (.arraylength, 1) := by decide +kernel
theorem d_Bd_countRowsNeeded_10 : decode prog_2_method_6_code 10 = .ok (.if_icmp .ge 36, 3) := by decide +kernel
theorem d_Bd_countRowsNeeded_13 : decode prog_2_method_6_code 13 = .ok (.iload_n 1, 1) := by decide +kernel
theorem d_Bd_countRowsNeeded_14 : decode prog_2_method_6_code 14 = .ok (.aload_n 0, 1) := by decide +kernel
theorem d_Bd_countRowsNeeded_15 : decode prog_2_method_6_code 15 = .ok (.getfield 9, 3) := by decide +kernel
theorem d_Bd_countRowsNeeded_18 : decode prog_2_method_6_code 18 = .ok (.iload_n 2, 1) := by decide +kernel
theorem d_Bd_countRowsNeeded_19 : decode prog_2_method_6_code 19 = .ok (.iaload, 1) := by decide +kernel
theorem d_Bd_countRowsNeeded_20 : decode prog_2_method_6_code 20 = .ok (.ifCond .ne 7, 3) := by decide +kernel
theorem d_Bd_countRowsNeeded_23 : decode prog_2_method_6_code 23 = .ok (.iconst 0, 1) := by decide +kernel
theorem d_Bd_countRowsNeeded_24 : decode prog_2_method_6_code 24 = .ok (.goto 4, 3) := by decide +kernel
theorem d_Bd_countRowsNeeded_27 : decode prog_2_method_6_code 27 = .ok (.iconst 1, 1) := by decide +kernel
theorem d_Bd_countRowsNeeded_28 : decode prog_2_method_6_code 28 = .ok (.aload_n 0, 1) := by decide +kernel
theorem d_Bd_countRowsNeeded_29 : decode prog_2_method_6_code 29 = .ok (.getfield 15, 3) := by decide +kernel
theorem d_Bd_countRowsNeeded_32 : decode prog_2_method_6_code 32 = .ok (.iload_n 2, 1) := by decide +kernel
theorem d_Bd_countRowsNeeded_33 : decode prog_2_method_6_code 33 = .ok (.iaload, 1) := by decide +kernel
theorem d_Bd_countRowsNeeded_34 : decode prog_2_method_6_code 34 = .ok (.invokestatic 28, 3) := by decide +kernel
theorem d_Bd_countRowsNeeded_37 : decode prog_2_method_6_code 37 = .ok (.iadd, 1) := by decide +kernel
theorem d_Bd_countRowsNeeded_38 : decode prog_2_method_6_code 38 = .ok (.iadd, 1) := by decide +kernel
theorem d_Bd_countRowsNeeded_39 : decode prog_2_method_6_code 39 = .ok (.istore_n 1, 1) := by decide +kernel
theorem d_Bd_countRowsNeeded_40 : decode prog_2_method_6_code 40 = .ok (.iinc 2 1, 3) := by decide +kernel
theorem d_Bd_countRowsNeeded_43 : decode prog_2_method_6_code 43 = .ok (.goto (-39), 3) := by decide +kernel
theorem d_Bd_countRowsNeeded_46 : decode prog_2_method_6_code 46 = .ok (.iload_n 1, 1) := by decide +kernel
theorem d_Bd_countRowsNeeded_47 : decode prog_2_method_6_code 47 = .ok (.ireturn, 1) := by decide +kernel
-- PlayStates$Board.countRowsNeeded()I 
def ws_Bd_countRowsNeeded (G : gG) (a_t a_t_entries a_t_markBits : Nat) (n : Nat) (x_t_entries : Nat → Int32) (x_t_markBits : Nat → Int32) : va_W := [(a_t, .inr (0, [.ref a_t_entries, .ref a_t_markBits])), (a_t_entries, .inl (G.2 0, n, .inl x_t_entries)), (a_t_markBits, .inl (G.2 0, n, .inl x_t_markBits))]
def fb_Bd_countRowsNeeded_L4 (fu : Nat) (n : Nat) (x_t_entries : Nat → Int32) (x_t_markBits : Nat → Int32)  (k4 : (Int32 → Int32 → Option (Int32))) (l4_1 : Int32) (l4_2 : Int32) : Option (Int32) :=
  (if (Int32.ofNat n) ≤ l4_2 then some l4_1 else (if inB l4_2 n then (if (x_t_entries l4_2.toNatClampNeg) = 0 then (if inB l4_2 n then ((f_Jn_bitCount (x_t_markBits l4_2.toNatClampNeg)).bind fun y7 => (k4 (l4_1 + ((0 : Int32) + y7)) (l4_2 + (1 : Int32)))) else none) else (if inB l4_2 n then ((f_Jn_bitCount (x_t_markBits l4_2.toNatClampNeg)).bind fun y5 => (k4 (l4_1 + ((1 : Int32) + y5)) (l4_2 + (1 : Int32)))) else none)) else none))
def f_Bd_countRowsNeeded_L4 (fu : Nat) (n : Nat) (x_t_entries : Nat → Int32) (x_t_markBits : Nat → Int32)  : Nat → Int32 → Int32 → Option (Int32)
  | 0 => fun _ _ => none
  | k9 + 1 => fb_Bd_countRowsNeeded_L4 fu n x_t_entries x_t_markBits (f_Bd_countRowsNeeded_L4 fu n x_t_entries x_t_markBits k9)
def f_Bd_countRowsNeeded (fu : Nat) (n : Nat)  (x_t_entries : Nat → Int32) (x_t_markBits : Nat → Int32) : Option (Int32) :=
  (f_Bd_countRowsNeeded_L4 fu n x_t_entries x_t_markBits fu (0 : Int32) (0 : Int32))
set_option maxHeartbeats 4000000 in
set_option maxRecDepth 100000 in
theorem c_Bd_countRowsNeeded (l : Launch) (G : gG) (sz : Nat) (a_t a_t_entries a_t_markBits : Nat) (fu : Nat) (n : Nat)  (x_t_entries : Nat → Int32) (x_t_markBits : Nat → Int32) (r : Int32) (h : f_Bd_countRowsNeeded fu n x_t_entries x_t_markBits = some r)  : cN l y_Bd_countRowsNeeded w_Bd_countRowsNeeded { frames := 1, cells := 0, slots := 0, locals := 20 } G sz [.ref a_t] (ws_Bd_countRowsNeeded G a_t a_t_entries a_t_markBits n x_t_entries x_t_markBits) (some (.int r)) (wB G (ws_Bd_countRowsNeeded G a_t a_t_entries a_t_markBits n x_t_entries x_t_markBits)) 0 0 := by
  refine cN_ofW (cc := prog_2_method_6_code) (maxL := 3) (ret := (some .int)) (by decide) rfl (Nat.le_of_ble_eq_true rfl) ?_
  intro p e s m args below meth c A H locs ls hx hb hr hts hown hlocks hin hml hK hN hP hD hA hS hl
  replace hl : lv_has ls 3 [(0, .ref a_t)] := hl
  replace hown : s.vm.findClass "PlayStates$Board" = some m.cls := hown
  unfold f_Bd_countRowsNeeded at h
  refine lv_iconst (v := (0 : Int32)) hx hb d_Bd_countRowsNeeded_0 (by decide) ?_
  refine lv_istore_n (lv' := [(1, .int (0 : Int32)), (0, .ref a_t)]) hx hb d_Bd_countRowsNeeded_1 rfl hl (by decide) rfl (fun ls hl => ?_)
  refine lv_iconst (v := (0 : Int32)) hx hb d_Bd_countRowsNeeded_2 (by decide) ?_
  refine lv_istore_n (lv' := [(2, .int (0 : Int32)), (1, .int (0 : Int32)), (0, .ref a_t)]) hx hb d_Bd_countRowsNeeded_3 rfl hl (by decide) rfl (fun ls hl => ?_)
  have L4 : ∀ (nf : Nat) (l4_1 : Int32) (l4_2 : Int32) (H : Heap) (locs : List Loc) (ls : Array Slot), f_Bd_countRowsNeeded_L4 fu n x_t_entries x_t_markBits nf l4_1 l4_2 = some r → va_P G.1 vwCl (ws_Bd_countRowsNeeded G a_t a_t_entries a_t_markBits n x_t_entries x_t_markBits) H → va_D A (ws_Bd_countRowsNeeded G a_t a_t_entries a_t_markBits n x_t_entries x_t_markBits) → va_S A s.heap H locs → lv_has ls 3 [(0, .ref a_t), (1, .int l4_1), (2, .int l4_2)] → W p l e { frames := 1, cells := 0, slots := 0, locals := 20 } s m args below meth c H locs 0 0 (MQ below (qQ (some (.int r)) (wB G (ws_Bd_countRowsNeeded G a_t a_t_entries a_t_markBits n x_t_entries x_t_markBits) A) A) args s 0 0 A) (F0 m 4 ls []) := by
    clear h hP hD hS hl
    intro n4
    induction n4 with
    | zero => intro _ _ H locs ls h; exact nomatch (show none = some _ from h)
    | succ n4 ih4 =>
      intro l4_1 l4_2 H locs ls h hP hD hS hl
      replace h : fb_Bd_countRowsNeeded_L4 fu n x_t_entries x_t_markBits (f_Bd_countRowsNeeded_L4 fu n x_t_entries x_t_markBits n4) l4_1 l4_2 = some r := h
      unfold fb_Bd_countRowsNeeded_L4 at h
      refine lv_iload_n hx hb d_Bd_countRowsNeeded_4 rfl (lv_at hl 2 rfl) ?_
      refine lv_aload_n hx hb d_Bd_countRowsNeeded_5 rfl (lv_at hl 0 rfl) ?_
      refine va_get (D := G.1) (ci := 0) (v := .ref a_t_entries) (C := "PlayStates$Board") (T := TBd) (N := 2) hx hb hts iw_0 hown hK hP 0 rfl rfl 0 (by decide) (hts _ gw_79) (fun _ h9 => h9) rfl d_Bd_countRowsNeeded_6 ?_
      refine va_alen (v := Int32.ofNat n) hx hb hK hP 1 0 rfl rfl rfl d_Bd_countRowsNeeded_9 ?_
      refine lv_icmp_ge (tgt := 46) hx hb d_Bd_countRowsNeeded_10 (by decide) (fun c1 => ?_) (fun c1 => ?_)
      · replace h := (if_pos c1).symm.trans h
        refine lv_iload_n hx hb d_Bd_countRowsNeeded_46 rfl (lv_at hl 1 rfl) ?_
        cases h
        exact q_iretW hx hb hr hlocks hP hD hS d_Bd_countRowsNeeded_47
      · replace h := (if_neg c1).symm.trans h
        refine lv_iload_n hx hb d_Bd_countRowsNeeded_13 rfl (lv_at hl 1 rfl) ?_
        refine lv_aload_n hx hb d_Bd_countRowsNeeded_14 rfl (lv_at hl 0 rfl) ?_
        refine va_get (D := G.1) (ci := 0) (v := .ref a_t_entries) (C := "PlayStates$Board") (T := TBd) (N := 2) hx hb hts iw_0 hown hK hP 0 rfl rfl 0 (by decide) (hts _ gw_79) (fun _ h9 => h9) rfl d_Bd_countRowsNeeded_15 ?_
        refine lv_iload_n hx hb d_Bd_countRowsNeeded_18 rfl (lv_at hl 2 rfl) ?_
        obtain ⟨i2, h⟩ := o_if h
        refine va_iald (n := n) (f := x_t_entries) hx hb hK hP 1 0 rfl rfl i2 d_Bd_countRowsNeeded_19 ?_
        refine lv_if_ne (tgt := 27) hx hb d_Bd_countRowsNeeded_20 (by decide) (fun c3 => ?_) (fun c3 => ?_)
        · replace h := (if_neg c3).symm.trans h
          refine lv_iconst (v := (1 : Int32)) hx hb d_Bd_countRowsNeeded_27 (by decide) ?_
          refine lv_aload_n hx hb d_Bd_countRowsNeeded_28 rfl (lv_at hl 0 rfl) ?_
          refine va_get (D := G.1) (ci := 0) (v := .ref a_t_markBits) (C := "PlayStates$Board") (T := TBd) (N := 2) hx hb hts iw_0 hown hK hP 0 rfl rfl 1 (by decide) (hts _ gw_80) (fun _ h9 => h9) rfl d_Bd_countRowsNeeded_29 ?_
          refine lv_iload_n hx hb d_Bd_countRowsNeeded_32 rfl (lv_at hl 2 rfl) ?_
          obtain ⟨i4, h⟩ := o_if h
          refine va_iald (n := n) (f := x_t_markBits) hx hb hK hP 2 0 rfl rfl i4 d_Bd_countRowsNeeded_33 ?_
          obtain ⟨y5, hy5, h⟩ := o_bind h
          have hPc := hP.sub (ws' := (ws_Jn_bitCount G)) [] rfl
          have hDc := hD.sub (ws' := (ws_Jn_bitCount G)) [] (by decide) rfl
          have hFc := va_free (wc := (ws_Jn_bitCount G)) hD hS hA [] rfl
          refine q_call1 (va_runS (As := [.int (x_t_markBits l4_2.toNatClampNeg)]) (rest := [.int (1 : Int32), .int l4_1]) ⟨hx, hb, hml, hown, hts⟩ (c_Jn_bitCount l G H.size (x_t_markBits l4_2.toNatClampNeg) _ hy5) ⟨callB_of 1 hts (gC gw_308) rfl rfl rfl (hts _ gw_40) (hts _ gw_306) (by decide +kernel) ⟨Nat.le_of_ble_eq_true rfl, Nat.le_of_ble_eq_true rfl⟩, hts _ gw_307⟩ (pS hK hN hPc hDc) rfl rfl hl.1 rfl (lv_room (Nat.le_of_ble_eq_true rfl)) d_Bd_countRowsNeeded_34 ⟨Nat.le_of_ble_eq_true rfl, Nat.le_of_ble_eq_true rfl⟩) hS (fun q _ h => hFc q h) hFc (fun H1 locs hB hz hk hS => ?_)
          obtain ⟨hP, hD⟩ := q_join (wr := [(a_t, .inr (0, [.ref a_t_entries, .ref a_t_markBits])), (a_t_entries, .inl (G.2 0, n, .inl x_t_entries)), (a_t_markBits, .inl (G.2 0, n, .inl x_t_markBits))]) (wn := (ws_Bd_countRowsNeeded G a_t a_t_entries a_t_markBits n x_t_entries x_t_markBits)) hP hD [] [0, 1, 2] [0, 1, 2] rfl rfl (by decide) (by decide) rfl (by decide) hk hFc hB.1 hB.2
          generalize H1 = H at hP hS ⊢
          replace hP : va_P G.1 vwCl (ws_Bd_countRowsNeeded G a_t a_t_entries a_t_markBits n x_t_entries x_t_markBits) H := hP
          replace hD : va_D A (ws_Bd_countRowsNeeded G a_t a_t_entries a_t_markBits n x_t_entries x_t_markBits) := hD
          refine lv_iadd hx hb d_Bd_countRowsNeeded_37 ?_
          refine lv_iadd hx hb d_Bd_countRowsNeeded_38 ?_
          refine lv_istore_n (lv' := [(1, .int (l4_1 + ((1 : Int32) + y5))), (0, .ref a_t), (2, .int l4_2)]) hx hb d_Bd_countRowsNeeded_39 rfl hl (by decide) rfl (fun ls hl => ?_)
          refine lv_iinc (v := (l4_2 + (1 : Int32))) (lv' := [(2, .int (l4_2 + (1 : Int32))), (1, .int (l4_1 + ((1 : Int32) + y5))), (0, .ref a_t)]) hx hb d_Bd_countRowsNeeded_40 hl (k := 2) rfl rfl (by decide) rfl (fun ls hl => ?_)
          refine lv_goto (tgt := 4) hx hb d_Bd_countRowsNeeded_43 (by decide) ?_
          exact ih4 (l4_1 + ((1 : Int32) + y5)) (l4_2 + (1 : Int32)) _ _ _ h hP hD hS (lv_sub hl [2, 1, 0] rfl)
        · replace h := (if_pos c3).symm.trans h
          refine lv_iconst (v := (0 : Int32)) hx hb d_Bd_countRowsNeeded_23 (by decide) ?_
          refine lv_goto (tgt := 28) hx hb d_Bd_countRowsNeeded_24 (by decide) ?_
          refine lv_aload_n hx hb d_Bd_countRowsNeeded_28 rfl (lv_at hl 0 rfl) ?_
          refine va_get (D := G.1) (ci := 0) (v := .ref a_t_markBits) (C := "PlayStates$Board") (T := TBd) (N := 2) hx hb hts iw_0 hown hK hP 0 rfl rfl 1 (by decide) (hts _ gw_80) (fun _ h9 => h9) rfl d_Bd_countRowsNeeded_29 ?_
          refine lv_iload_n hx hb d_Bd_countRowsNeeded_32 rfl (lv_at hl 2 rfl) ?_
          obtain ⟨i6, h⟩ := o_if h
          refine va_iald (n := n) (f := x_t_markBits) hx hb hK hP 2 0 rfl rfl i6 d_Bd_countRowsNeeded_33 ?_
          obtain ⟨y7, hy7, h⟩ := o_bind h
          have hPc := hP.sub (ws' := (ws_Jn_bitCount G)) [] rfl
          have hDc := hD.sub (ws' := (ws_Jn_bitCount G)) [] (by decide) rfl
          have hFc := va_free (wc := (ws_Jn_bitCount G)) hD hS hA [] rfl
          refine q_call1 (va_runS (As := [.int (x_t_markBits l4_2.toNatClampNeg)]) (rest := [.int (0 : Int32), .int l4_1]) ⟨hx, hb, hml, hown, hts⟩ (c_Jn_bitCount l G H.size (x_t_markBits l4_2.toNatClampNeg) _ hy7) ⟨callB_of 1 hts (gC gw_308) rfl rfl rfl (hts _ gw_40) (hts _ gw_306) (by decide +kernel) ⟨Nat.le_of_ble_eq_true rfl, Nat.le_of_ble_eq_true rfl⟩, hts _ gw_307⟩ (pS hK hN hPc hDc) rfl rfl hl.1 rfl (lv_room (Nat.le_of_ble_eq_true rfl)) d_Bd_countRowsNeeded_34 ⟨Nat.le_of_ble_eq_true rfl, Nat.le_of_ble_eq_true rfl⟩) hS (fun q _ h => hFc q h) hFc (fun H1 locs hB hz hk hS => ?_)
          obtain ⟨hP, hD⟩ := q_join (wr := [(a_t, .inr (0, [.ref a_t_entries, .ref a_t_markBits])), (a_t_entries, .inl (G.2 0, n, .inl x_t_entries)), (a_t_markBits, .inl (G.2 0, n, .inl x_t_markBits))]) (wn := (ws_Bd_countRowsNeeded G a_t a_t_entries a_t_markBits n x_t_entries x_t_markBits)) hP hD [] [0, 1, 2] [0, 1, 2] rfl rfl (by decide) (by decide) rfl (by decide) hk hFc hB.1 hB.2
          generalize H1 = H at hP hS ⊢
          replace hP : va_P G.1 vwCl (ws_Bd_countRowsNeeded G a_t a_t_entries a_t_markBits n x_t_entries x_t_markBits) H := hP
          replace hD : va_D A (ws_Bd_countRowsNeeded G a_t a_t_entries a_t_markBits n x_t_entries x_t_markBits) := hD
          refine lv_iadd hx hb d_Bd_countRowsNeeded_37 ?_
          refine lv_iadd hx hb d_Bd_countRowsNeeded_38 ?_
          refine lv_istore_n (lv' := [(1, .int (l4_1 + ((0 : Int32) + y7))), (0, .ref a_t), (2, .int l4_2)]) hx hb d_Bd_countRowsNeeded_39 rfl hl (by decide) rfl (fun ls hl => ?_)
          refine lv_iinc (v := (l4_2 + (1 : Int32))) (lv' := [(2, .int (l4_2 + (1 : Int32))), (1, .int (l4_1 + ((0 : Int32) + y7))), (0, .ref a_t)]) hx hb d_Bd_countRowsNeeded_40 hl (k := 2) rfl rfl (by decide) rfl (fun ls hl => ?_)
          refine lv_goto (tgt := 4) hx hb d_Bd_countRowsNeeded_43 (by decide) ?_
          exact ih4 (l4_1 + ((0 : Int32) + y7)) (l4_2 + (1 : Int32)) _ _ _ h hP hD hS (lv_sub hl [2, 1, 0] rfl)
  exact L4 fu (0 : Int32) (0 : Int32) _ _ _ h hP hD hS (lv_sub hl [2, 1, 0] rfl)

theorem d_Bd_textSize_0 : decode prog_2_method_7_code 0 = .ok (.aload_n 0, 1) := by decide +kernel
theorem d_Bd_textSize_1 : decode prog_2_method_7_code 1 = .ok (.getfield 15, 3) := by decide +kernel
theorem d_Bd_textSize_4 : decode prog_2_method_7_code 4 = .ok (.iload_n 1, 1) := by decide +kernel
theorem d_Bd_textSize_5 : decode prog_2_method_7_code 5 = .ok (.iaload, 1) := by decide +kernel
theorem d_Bd_textSize_6 : decode prog_2_method_7_code 6 = .ok (.invokestatic 28, 3) := by decide +kernel
theorem d_Bd_textSize_9 : decode prog_2_method_7_code 9 = .ok (.istore_n 2, 1) := by decide +kernel
theorem d_Bd_textSize_10 : decode prog_2_method_7_code 10 = .ok (.iload_n 2, 1) := by decide +kernel
theorem d_Bd_textSize_11 : decode prog_2_method_7_code 11 = .ok (.ifCond .ne 7, 3) := by decide +kernel
theorem d_Bd_textSize_14 : decode prog_2_method_7_code 14 = .ok (.iconst 1, 1) := by decide +kernel
theorem d_Bd_textSize_15 : decode prog_2_method_7_code 15 = .ok (.goto 6, 3) := by decide +kernel
theorem d_Bd_textSize_18 : decode prog_2_method_7_code 18 = .ok (.iload_n 2, 1) := by decide +kernel
theorem d_Bd_textSize_19 : decode prog_2_method_7_code 19 = .ok (.iconst 3, 1) := by decide +kernel
theorem d_Bd_textSize_20 : decode prog_2_method_7_code 20 = .ok (.iadd, 1) := by decide +kernel
theorem d_Bd_textSize_21 : decode prog_2_method_7_code 21 = .ok (.ireturn, 1) := by decide +kernel
-- PlayStates$Board.textSize(I)I 
def ws_Bd_textSize (G : gG) (a_t a_t_entries a_t_markBits : Nat) (n : Nat) (x_t_markBits : Nat → Int32) : va_W := [(a_t, .inr (0, [.ref a_t_entries, .ref a_t_markBits])), (a_t_markBits, .inl (G.2 0, n, .inl x_t_markBits))]
def f_Bd_textSize (n : Nat) (p0 : Int32) (x_t_markBits : Nat → Int32) : Option (Int32) :=
  (if inB p0 n then ((f_Jn_bitCount (x_t_markBits p0.toNatClampNeg)).bind fun y2 => (if y2 = 0 then some (1 : Int32) else some (y2 + (3 : Int32)))) else none)
set_option maxHeartbeats 4000000 in
set_option maxRecDepth 100000 in
theorem c_Bd_textSize (l : Launch) (G : gG) (sz : Nat) (a_t a_t_entries a_t_markBits : Nat) (n : Nat) (p0 : Int32) (x_t_markBits : Nat → Int32) (r : Int32) (h : f_Bd_textSize n p0 x_t_markBits = some r)  : cN l y_Bd_textSize w_Bd_textSize { frames := 1, cells := 0, slots := 0, locals := 20 } G sz [.ref a_t, .int p0] (ws_Bd_textSize G a_t a_t_entries a_t_markBits n x_t_markBits) (some (.int r)) (wB G (ws_Bd_textSize G a_t a_t_entries a_t_markBits n x_t_markBits)) 0 0 := by
  refine cN_ofW (cc := prog_2_method_7_code) (maxL := 3) (ret := (some .int)) (by decide) rfl (Nat.le_of_ble_eq_true rfl) ?_
  intro p e s m args below meth c A H locs ls hx hb hr hts hown hlocks hin hml hK hN hP hD hA hS hl
  replace hl : lv_has ls 3 [(0, .ref a_t), (1, .int p0)] := hl
  replace hown : s.vm.findClass "PlayStates$Board" = some m.cls := hown
  unfold f_Bd_textSize at h
  refine lv_aload_n hx hb d_Bd_textSize_0 rfl (lv_at hl 0 rfl) ?_
  refine va_get (D := G.1) (ci := 0) (v := .ref a_t_markBits) (C := "PlayStates$Board") (T := TBd) (N := 2) hx hb hts iw_0 hown hK hP 0 rfl rfl 1 (by decide) (hts _ gw_80) (fun _ h9 => h9) rfl d_Bd_textSize_1 ?_
  refine lv_iload_n hx hb d_Bd_textSize_4 rfl (lv_at hl 1 rfl) ?_
  obtain ⟨i1, h⟩ := o_if h
  refine va_iald (n := n) (f := x_t_markBits) hx hb hK hP 1 0 rfl rfl i1 d_Bd_textSize_5 ?_
  obtain ⟨y2, hy2, h⟩ := o_bind h
  have hPc := hP.sub (ws' := (ws_Jn_bitCount G)) [] rfl
  have hDc := hD.sub (ws' := (ws_Jn_bitCount G)) [] (by decide) rfl
  have hFc := va_free (wc := (ws_Jn_bitCount G)) hD hS hA [] rfl
  refine q_call1 (va_runS (As := [.int (x_t_markBits p0.toNatClampNeg)]) (rest := []) ⟨hx, hb, hml, hown, hts⟩ (c_Jn_bitCount l G H.size (x_t_markBits p0.toNatClampNeg) _ hy2) ⟨callB_of 1 hts (gC gw_308) rfl rfl rfl (hts _ gw_40) (hts _ gw_306) (by decide +kernel) ⟨Nat.le_of_ble_eq_true rfl, Nat.le_of_ble_eq_true rfl⟩, hts _ gw_307⟩ (pS hK hN hPc hDc) rfl rfl hl.1 rfl (lv_room (Nat.le_of_ble_eq_true rfl)) d_Bd_textSize_6 ⟨Nat.le_of_ble_eq_true rfl, Nat.le_of_ble_eq_true rfl⟩) hS (fun q _ h => hFc q h) hFc (fun H1 locs hB hz hk hS => ?_)
  obtain ⟨hP, hD⟩ := q_join (wr := [(a_t, .inr (0, [.ref a_t_entries, .ref a_t_markBits])), (a_t_markBits, .inl (G.2 0, n, .inl x_t_markBits))]) (wn := (ws_Bd_textSize G a_t a_t_entries a_t_markBits n x_t_markBits)) hP hD [] [0, 1] [0, 1] rfl rfl (by decide) (by decide) rfl (by decide) hk hFc hB.1 hB.2
  generalize H1 = H at hP hS ⊢
  replace hP : va_P G.1 vwCl (ws_Bd_textSize G a_t a_t_entries a_t_markBits n x_t_markBits) H := hP
  replace hD : va_D A (ws_Bd_textSize G a_t a_t_entries a_t_markBits n x_t_markBits) := hD
  refine lv_istore_n (lv' := [(2, .int y2), (0, .ref a_t), (1, .int p0)]) hx hb d_Bd_textSize_9 rfl hl (by decide) rfl (fun ls hl => ?_)
  refine lv_iload_n hx hb d_Bd_textSize_10 rfl (lv_at hl 0 rfl) ?_
  refine lv_if_ne (tgt := 18) hx hb d_Bd_textSize_11 (by decide) (fun c3 => ?_) (fun c3 => ?_)
  · replace h := (if_neg c3).symm.trans h
    refine lv_iload_n hx hb d_Bd_textSize_18 rfl (lv_at hl 0 rfl) ?_
    refine lv_iconst (v := (3 : Int32)) hx hb d_Bd_textSize_19 (by decide) ?_
    refine lv_iadd hx hb d_Bd_textSize_20 ?_
    cases h
    exact q_iretW hx hb hr hlocks hP hD hS d_Bd_textSize_21
  · replace h := (if_pos c3).symm.trans h
    refine lv_iconst (v := (1 : Int32)) hx hb d_Bd_textSize_14 (by decide) ?_
    refine lv_goto (tgt := 21) hx hb d_Bd_textSize_15 (by decide) ?_
    cases h
    exact q_iretW hx hb hr hlocks hP hD hS d_Bd_textSize_21

theorem d_Bd_findMark_0 : decode prog_2_method_9_code 0 = .ok (.iload_n 2, 1) := by decide +kernel
theorem d_Bd_findMark_1 : decode prog_2_method_9_code 1 = .ok (.istore_n 3, 1) := by decide +kernel
theorem d_Bd_findMark_2 : decode prog_2_method_9_code 2 = .ok (.iconst 1, 1) := by decide +kernel
theorem d_Bd_findMark_3 : decode prog_2_method_9_code 3 = .ok (.istore 4, 2) := by decide +kernel
theorem d_Bd_findMark_5 : decode prog_2_method_9_code 5 = .ok (.iload 4, 2) := by decide +kernel
theorem d_Bd_findMark_7 : decode prog_2_method_9_code 7 = .ok (.bipush 9, 2) := by decide +kernel
theorem d_Bd_findMark_9 : decode prog_2_method_9_code 9 = .ok (.if_icmp .gt 29, 3) := by decide +kernel
theorem d_Bd_findMark_12 : decode prog_2_method_9_code 12 = .ok (.aload_n 0, 1) := by decide +kernel
theorem d_Bd_findMark_13 : decode prog_2_method_9_code 13 = .ok (.iload_n 1, 1) := by decide +kernel
theorem d_Bd_findMark_14 : decode prog_2_method_9_code 14 = .ok (.iload 4, 2) := by decide +kernel
theorem d_Bd_findMark_16 : decode prog_2_method_9_code 16 = .ok (.invokevirtual 24, 3) := by decide +kernel
theorem d_Bd_findMark_19 : decode prog_2_method_9_code 19 = .ok (.ifCond .eq 13, 3) := by decide +kernel
theorem d_Bd_findMark_22 : decode prog_2_method_9_code 22 = .ok (.iload_n 3, 1) := by decide +kernel
theorem d_Bd_findMark_23 : decode prog_2_method_9_code 23 = .ok (.ifCond .ne 6, 3) := by decide +kernel
theorem d_Bd_findMark_26 : decode prog_2_method_9_code 26 = .ok (.iload 4, 2) := by decide +kernel
theorem d_Bd_findMark_28 : decode prog_2_method_9_code 28 = .ok (.ireturn, 1) := by decide +kernel
theorem d_Bd_findMark_29 : decode prog_2_method_9_code 29 = .ok (.iinc 3 (-1), 3) := by decide +kernel
theorem d_Bd_findMark_32 : decode prog_2_method_9_code 32 = .ok (.iinc 4 1, 3) := by decide +kernel
theorem d_Bd_findMark_35 : decode prog_2_method_9_code 35 = .ok (.goto (-30), 3) := by decide +kernel
theorem d_Bd_findMark_38 : decode prog_2_method_9_code 38 = .ok (.iconst 0, 1) := by decide +kernel
theorem d_Bd_findMark_39 : decode prog_2_method_9_code 39 = .ok (.ireturn, 1) := by decide +kernel
-- PlayStates$Board.findMark(II)I 
def ws_Bd_findMark (G : gG) (a_t a_t_entries a_t_markBits : Nat) (n : Nat) (x_t_markBits : Nat → Int32) : va_W := [(a_t, .inr (0, [.ref a_t_entries, .ref a_t_markBits])), (a_t_markBits, .inl (G.2 0, n, .inl x_t_markBits))]
def fb_Bd_findMark_L5 (fu : Nat) (n : Nat) (x_t_markBits : Nat → Int32)  (k5 : (Int32 → Int32 → Int32 → Int32 → Option (Int32))) (l5_1 : Int32) (l5_2 : Int32) (l5_3 : Int32) (l5_4 : Int32) : Option (Int32) :=
  (if (9 : Int32) < l5_4 then some (0 : Int32) else ((f_Bd_hasMark n l5_1 l5_4 x_t_markBits).bind fun y2 => (if y2 = 0 then (k5 l5_1 l5_2 l5_3 (l5_4 + (1 : Int32))) else (if l5_3 = 0 then some l5_4 else (k5 l5_1 l5_2 (l5_3 + (-1 : Int32)) (l5_4 + (1 : Int32)))))))
def f_Bd_findMark_L5 (fu : Nat) (n : Nat) (x_t_markBits : Nat → Int32)  : Nat → Int32 → Int32 → Int32 → Int32 → Option (Int32)
  | 0 => fun _ _ _ _ => none
  | k9 + 1 => fb_Bd_findMark_L5 fu n x_t_markBits (f_Bd_findMark_L5 fu n x_t_markBits k9)
def f_Bd_findMark (fu : Nat) (n : Nat) (p0 : Int32) (p1 : Int32) (x_t_markBits : Nat → Int32) : Option (Int32) :=
  (f_Bd_findMark_L5 fu n x_t_markBits fu p0 p1 p1 (1 : Int32))
set_option maxHeartbeats 4000000 in
set_option maxRecDepth 100000 in
theorem c_Bd_findMark (l : Launch) (G : gG) (sz : Nat) (a_t a_t_entries a_t_markBits : Nat) (fu : Nat) (n : Nat) (p0 : Int32) (p1 : Int32) (x_t_markBits : Nat → Int32) (r : Int32) (h : f_Bd_findMark fu n p0 p1 x_t_markBits = some r)  : cN l y_Bd_findMark w_Bd_findMark { frames := 1, cells := 0, slots := 0, locals := 22 } G sz [.ref a_t, .int p0, .int p1] (ws_Bd_findMark G a_t a_t_entries a_t_markBits n x_t_markBits) (some (.int r)) (wB G (ws_Bd_findMark G a_t a_t_entries a_t_markBits n x_t_markBits)) 0 0 := by
  refine cN_ofW (cc := prog_2_method_9_code) (maxL := 5) (ret := (some .int)) (by decide) rfl (Nat.le_of_ble_eq_true rfl) ?_
  intro p e s m args below meth c A H locs ls hx hb hr hts hown hlocks hin hml hK hN hP hD hA hS hl
  replace hl : lv_has ls 5 [(0, .ref a_t), (1, .int p0), (2, .int p1)] := hl
  replace hown : s.vm.findClass "PlayStates$Board" = some m.cls := hown
  unfold f_Bd_findMark at h
  refine lv_iload_n hx hb d_Bd_findMark_0 rfl (lv_at hl 2 rfl) ?_
  refine lv_istore_n (lv' := [(3, .int p1), (0, .ref a_t), (1, .int p0), (2, .int p1)]) hx hb d_Bd_findMark_1 rfl hl (by decide) rfl (fun ls hl => ?_)
  refine lv_iconst (v := (1 : Int32)) hx hb d_Bd_findMark_2 (by decide) ?_
  refine lv_istore (lv' := [(4, .int (1 : Int32)), (3, .int p1), (0, .ref a_t), (1, .int p0), (2, .int p1)]) hx hb d_Bd_findMark_3 hl (by decide) rfl (fun ls hl => ?_)
  have L5 : ∀ (nf : Nat) (l5_1 : Int32) (l5_2 : Int32) (l5_3 : Int32) (l5_4 : Int32) (H : Heap) (locs : List Loc) (ls : Array Slot), f_Bd_findMark_L5 fu n x_t_markBits nf l5_1 l5_2 l5_3 l5_4 = some r → va_P G.1 vwCl (ws_Bd_findMark G a_t a_t_entries a_t_markBits n x_t_markBits) H → va_D A (ws_Bd_findMark G a_t a_t_entries a_t_markBits n x_t_markBits) → va_S A s.heap H locs → lv_has ls 5 [(0, .ref a_t), (1, .int l5_1), (2, .int l5_2), (3, .int l5_3), (4, .int l5_4)] → W p l e { frames := 1, cells := 0, slots := 0, locals := 22 } s m args below meth c H locs 0 0 (MQ below (qQ (some (.int r)) (wB G (ws_Bd_findMark G a_t a_t_entries a_t_markBits n x_t_markBits) A) A) args s 0 0 A) (F0 m 5 ls []) := by
    clear h hP hD hS hl
    intro n5
    induction n5 with
    | zero => intro _ _ _ _ H locs ls h; exact nomatch (show none = some _ from h)
    | succ n5 ih5 =>
      intro l5_1 l5_2 l5_3 l5_4 H locs ls h hP hD hS hl
      replace h : fb_Bd_findMark_L5 fu n x_t_markBits (f_Bd_findMark_L5 fu n x_t_markBits n5) l5_1 l5_2 l5_3 l5_4 = some r := h
      unfold fb_Bd_findMark_L5 at h
      refine lv_iload hx hb d_Bd_findMark_5 (lv_at hl 4 rfl) ?_
      refine lv_bipush (v := (9 : Int32)) hx hb d_Bd_findMark_7 (by decide) ?_
      refine lv_icmp_gt (tgt := 38) hx hb d_Bd_findMark_9 (by decide) (fun c1 => ?_) (fun c1 => ?_)
      · replace h := (if_pos c1).symm.trans h
        refine lv_iconst (v := (0 : Int32)) hx hb d_Bd_findMark_38 (by decide) ?_
        cases h
        exact q_iretW hx hb hr hlocks hP hD hS d_Bd_findMark_39
      · replace h := (if_neg c1).symm.trans h
        refine lv_aload_n hx hb d_Bd_findMark_12 rfl (lv_at hl 0 rfl) ?_
        refine lv_iload_n hx hb d_Bd_findMark_13 rfl (lv_at hl 1 rfl) ?_
        refine lv_iload hx hb d_Bd_findMark_14 (lv_at hl 4 rfl) ?_
        obtain ⟨y2, hy2, h⟩ := o_bind h
        have hPc := hP.sub (ws' := (ws_Bd_hasMark G a_t a_t_entries a_t_markBits n x_t_markBits)) [0, 1] rfl
        have hDc := hD.sub (ws' := (ws_Bd_hasMark G a_t a_t_entries a_t_markBits n x_t_markBits)) [0, 1] (by decide) rfl
        have hFc := va_free (wc := (ws_Bd_hasMark G a_t a_t_entries a_t_markBits n x_t_markBits)) hD hS hA [0, 1] rfl
        refine q_call1 (va_runV (As := [.int l5_1, .int l5_4]) (rest := []) ⟨hx, hb, hml, hown, hts⟩ (c_Bd_hasMark l G H.size a_t a_t_entries a_t_markBits n l5_1 l5_4 x_t_markBits _ hy2) (cwV 2 hts (gV gw_179 gw_180 gw_181 gw_34 gw_182) rfl rfl rfl (by decide +kernel) ⟨Nat.le_of_ble_eq_true rfl, Nat.le_of_ble_eq_true rfl⟩) (pV hK hN hPc hDc (ci := 0) (q0 := 0) rfl rfl) rfl rfl hl.1 rfl (lv_room (Nat.le_of_ble_eq_true rfl)) d_Bd_findMark_16 ⟨Nat.le_of_ble_eq_true rfl, Nat.le_of_ble_eq_true rfl⟩) hS (fun q _ h => hFc q h) hFc (fun H1 locs hB hz hk hS => ?_)
        obtain ⟨hP, hD⟩ := q_joinA hFc hB.1 hB.2
        generalize H1 = H at hP hS ⊢
        replace hP : va_P G.1 vwCl (ws_Bd_findMark G a_t a_t_entries a_t_markBits n x_t_markBits) H := hP
        replace hD : va_D A (ws_Bd_findMark G a_t a_t_entries a_t_markBits n x_t_markBits) := hD
        refine lv_if_eq (tgt := 32) hx hb d_Bd_findMark_19 (by decide) (fun c3 => ?_) (fun c3 => ?_)
        · replace h := (if_pos c3).symm.trans h
          refine lv_iinc (v := (l5_4 + (1 : Int32))) (lv' := [(4, .int (l5_4 + (1 : Int32))), (0, .ref a_t), (1, .int l5_1), (2, .int l5_2), (3, .int l5_3)]) hx hb d_Bd_findMark_32 hl (k := 4) rfl rfl (by decide) rfl (fun ls hl => ?_)
          refine lv_goto (tgt := 5) hx hb d_Bd_findMark_35 (by decide) ?_
          exact ih5 l5_1 l5_2 l5_3 (l5_4 + (1 : Int32)) _ _ _ h hP hD hS (lv_sub hl [1, 2, 3, 4, 0] rfl)
        · replace h := (if_neg c3).symm.trans h
          refine lv_iload_n hx hb d_Bd_findMark_22 rfl (lv_at hl 3 rfl) ?_
          refine lv_if_ne (tgt := 29) hx hb d_Bd_findMark_23 (by decide) (fun c4 => ?_) (fun c4 => ?_)
          · replace h := (if_neg c4).symm.trans h
            refine lv_iinc (v := (l5_3 + (-1 : Int32))) (lv' := [(3, .int (l5_3 + (-1 : Int32))), (0, .ref a_t), (1, .int l5_1), (2, .int l5_2), (4, .int l5_4)]) hx hb d_Bd_findMark_29 hl (k := 3) rfl rfl (by decide) rfl (fun ls hl => ?_)
            refine lv_iinc (v := (l5_4 + (1 : Int32))) (lv' := [(4, .int (l5_4 + (1 : Int32))), (3, .int (l5_3 + (-1 : Int32))), (0, .ref a_t), (1, .int l5_1), (2, .int l5_2)]) hx hb d_Bd_findMark_32 hl (k := 4) rfl rfl (by decide) rfl (fun ls hl => ?_)
            refine lv_goto (tgt := 5) hx hb d_Bd_findMark_35 (by decide) ?_
            exact ih5 l5_1 l5_2 (l5_3 + (-1 : Int32)) (l5_4 + (1 : Int32)) _ _ _ h hP hD hS (lv_sub hl [2, 3, 4, 1, 0] rfl)
          · replace h := (if_pos c4).symm.trans h
            refine lv_iload hx hb d_Bd_findMark_26 (lv_at hl 4 rfl) ?_
            cases h
            exact q_iretW hx hb hr hlocks hP hD hS d_Bd_findMark_28
  exact L5 fu p0 p1 p1 (1 : Int32) _ _ _ h hP hD hS (lv_sub hl [2, 3, 4, 1, 0] rfl)

theorem gw_305 : (.code ⟨"PlayStates$Board", "textSize", "(I)I"⟩ prog_2_method_7_code 3 (some .int) : Cond) ∈ GW := gT 335 (by decide +kernel) (by decide +kernel)
theorem gw_316 : (.methodLink "PlayStates$Board" 34 ⟨"PlayStates$Board", "textSize", "(I)I"⟩ : Cond) ∈ GW := gT 346 (by decide +kernel) (by decide +kernel)
theorem gw_303 : (.instanceMethod ⟨"PlayStates$Board", "textSize", "(I)I"⟩ : Cond) ∈ GW := gT 333 (by decide +kernel) (by decide +kernel)
theorem gw_304 : (.selects "PlayStates$Board" ⟨"PlayStates$Board", "textSize", "(I)I"⟩ ⟨"PlayStates$Board", "textSize", "(I)I"⟩ : Cond) ∈ GW := gT 334 (by decide +kernel) (by decide +kernel)
theorem gw_319 : (.code ⟨"PlayStates$Board", "findMark", "(II)I"⟩ prog_2_method_9_code 5 (some .int) : Cond) ∈ GW := gT 350 (by decide +kernel) (by decide +kernel)
theorem gw_317 : (.methodLink "PlayStates$Board" 37 ⟨"PlayStates$Board", "findMark", "(II)I"⟩ : Cond) ∈ GW := gT 347 (by decide +kernel) (by decide +kernel)
theorem gw_318 : (.instanceMethod ⟨"PlayStates$Board", "findMark", "(II)I"⟩ : Cond) ∈ GW := gT 349 (by decide +kernel) (by decide +kernel)
theorem gw_9 : (.selects "PlayStates$Board" ⟨"PlayStates$Board", "findMark", "(II)I"⟩ ⟨"PlayStates$Board", "findMark", "(II)I"⟩ : Cond) ∈ GW := gP 9 (by decide +kernel) (by decide +kernel)
theorem d_Bd_textByte_0 : decode prog_2_method_8_code 0 = .ok (.iload_n 2, 1) := by decide +kernel
theorem d_Bd_textByte_1 : decode prog_2_method_8_code 1 = .ok (.ifCond .ne 27, 3) := by decide +kernel
theorem d_Bd_textByte_4 : decode prog_2_method_8_code 4 = .ok (.aload_n 0, 1) := by decide +kernel
theorem d_Bd_textByte_5 : decode prog_2_method_8_code 5 = .ok (.getfield 9, 3) := by decide +kernel
theorem d_Bd_textByte_8 : decode prog_2_method_8_code 8 = .ok (.iload_n 1, 1) := by decide +kernel
theorem d_Bd_textByte_9 : decode prog_2_method_8_code 9 = .ok (.iaload, 1) := by decide +kernel
theorem d_Bd_textByte_10 : decode prog_2_method_8_code 10 = .ok (.ifCond .ne 8, 3) := by decide +kernel
theorem d_Bd_textByte_13 : decode prog_2_method_8_code 13 = .ok (.bipush 46, 2) := by decide +kernel
theorem d_Bd_textByte_15 : decode prog_2_method_8_code 15 = .ok (.goto 12, 3) := by decide +kernel
theorem d_Bd_textByte_18 : decode prog_2_method_8_code 18 = .ok (.bipush 48, 2) := by decide +kernel
theorem d_Bd_textByte_20 : decode prog_2_method_8_code 20 = .ok (.aload_n 0, 1) := by decide +kernel
theorem d_Bd_textByte_21 : decode prog_2_method_8_code 21 = .ok (.getfield 9, 3) := by decide +kernel
theorem d_Bd_textByte_24 : decode prog_2_method_8_code 24 = .ok (.iload_n 1, 1) := by decide +kernel
theorem d_Bd_textByte_25 : decode prog_2_method_8_code 25 = .ok (.iaload, 1) := by decide +kernel
theorem d_Bd_textByte_26 : decode prog_2_method_8_code 26 = .ok (.iadd, 1) := by decide +kernel
theorem d_Bd_textByte_27 : decode prog_2_method_8_code 27 = .ok (.ireturn, 1) := by decide +kernel
theorem d_Bd_textByte_28 : decode prog_2_method_8_code 28 = .ok (.iload_n 2, 1) := by decide +kernel
theorem d_Bd_textByte_29 : decode prog_2_method_8_code 29 = .ok (.iconst 1, 1) := by decide +kernel
theorem d_Bd_textByte_30 : decode prog_2_method_8_code 30 = .ok (.if_icmp .ne 6, 3) := by decide +kernel
theorem d_Bd_textByte_33 : decode prog_2_method_8_code 33 = .ok (.bipush 40, 2) := by decide +kernel
theorem d_Bd_textByte_35 : decode prog_2_method_8_code 35 = .ok (.ireturn, 1) := by decide +kernel
theorem d_Bd_textByte_36 : decode prog_2_method_8_code 36 = .ok (.iload_n 2, 1) := by decide +kernel
theorem d_Bd_textByte_37 : decode prog_2_method_8_code 37 = .ok (.aload_n 0, 1) := by decide +kernel
theorem d_Bd_textByte_38 : decode prog_2_method_8_code 38 = .ok (.iload_n 1, 1) := by decide +kernel
theorem d_Bd_textByte_39 : decode prog_2_method_8_code 39 = .ok (.invokevirtual 34, 3) := by decide +kernel
theorem d_Bd_textByte_42 : decode prog_2_method_8_code 42 = .ok (.iconst 1, 1) := by decide +kernel
theorem d_Bd_textByte_43 : decode prog_2_method_8_code 43 = .ok (.isub, 1) := by decide +kernel
theorem d_Bd_textByte_44 : decode prog_2_method_8_code 44 = .ok (.if_icmp .ne 8, 3) := by decide +kernel
theorem d_Bd_textByte_47 : decode prog_2_method_8_code 47 = .ok (.bipush 41, 2) := by decide +kernel
theorem d_Bd_textByte_49 : decode prog_2_method_8_code 49 = .ok (.goto 14, 3) := by decide +kernel
theorem d_Bd_textByte_52 : decode prog_2_method_8_code 52 = .ok (.bipush 48, 2) := by decide +kernel
theorem d_Bd_textByte_54 : decode prog_2_method_8_code 54 = .ok (.aload_n 0, 1) := by decide +kernel
theorem d_Bd_textByte_55 : decode prog_2_method_8_code 55 = .ok (.iload_n 1, 1) := by decide +kernel
theorem d_Bd_textByte_56 : decode prog_2_method_8_code 56 = .ok (.iload_n 2, 1) := by decide +kernel
theorem d_Bd_textByte_57 : decode prog_2_method_8_code 57 = .ok (.iconst 2, 1) := by decide +kernel
theorem d_Bd_textByte_58 : decode prog_2_method_8_code 58 = .ok (.isub, 1) := by decide +kernel
theorem d_Bd_textByte_59 : decode prog_2_method_8_code 59 = .ok (.invokevirtual 37, 3) := by decide +kernel
theorem d_Bd_textByte_62 : decode prog_2_method_8_code 62 = .ok (.iadd, 1) := by decide +kernel
theorem d_Bd_textByte_63 : decode prog_2_method_8_code 63 = .ok (.ireturn, 1) := by decide +kernel
-- PlayStates$Board.textByte(II)I 
def ws_Bd_textByte (G : gG) (a_t a_t_entries a_t_markBits : Nat) (n : Nat) (x_t_entries : Nat → Int32) (x_t_markBits : Nat → Int32) : va_W := [(a_t, .inr (0, [.ref a_t_entries, .ref a_t_markBits])), (a_t_entries, .inl (G.2 0, n, .inl x_t_entries)), (a_t_markBits, .inl (G.2 0, n, .inl x_t_markBits))]
def f_Bd_textByte (fu : Nat) (n : Nat) (p0 : Int32) (p1 : Int32) (x_t_entries : Nat → Int32) (x_t_markBits : Nat → Int32) : Option (Int32) :=
  (if p1 = 0 then (if inB p0 n then (if (x_t_entries p0.toNatClampNeg) = 0 then some (46 : Int32) else (if inB p0 n then some ((48 : Int32) + (x_t_entries p0.toNatClampNeg)) else none)) else none) else (if p1 = (1 : Int32) then some (40 : Int32) else ((f_Bd_textSize n p0 x_t_markBits).bind fun y3 => (if p1 = (y3 - (1 : Int32)) then some (41 : Int32) else ((f_Bd_findMark fu n p0 (p1 - (2 : Int32)) x_t_markBits).bind fun y5 => some ((48 : Int32) + y5))))))
set_option maxHeartbeats 4000000 in
set_option maxRecDepth 100000 in
theorem c_Bd_textByte (l : Launch) (G : gG) (sz : Nat) (a_t a_t_entries a_t_markBits : Nat) (fu : Nat) (n : Nat) (p0 : Int32) (p1 : Int32) (x_t_entries : Nat → Int32) (x_t_markBits : Nat → Int32) (r : Int32) (h : f_Bd_textByte fu n p0 p1 x_t_entries x_t_markBits = some r)  : cN l y_Bd_textByte w_Bd_textByte { frames := 2, cells := 0, slots := 0, locals := 46 } G sz [.ref a_t, .int p0, .int p1] (ws_Bd_textByte G a_t a_t_entries a_t_markBits n x_t_entries x_t_markBits) (some (.int r)) (wB G (ws_Bd_textByte G a_t a_t_entries a_t_markBits n x_t_entries x_t_markBits)) 0 0 := by
  refine cN_ofW (cc := prog_2_method_8_code) (maxL := 3) (ret := (some .int)) (by decide) rfl (Nat.le_of_ble_eq_true rfl) ?_
  intro p e s m args below meth c A H locs ls hx hb hr hts hown hlocks hin hml hK hN hP hD hA hS hl
  replace hl : lv_has ls 3 [(0, .ref a_t), (1, .int p0), (2, .int p1)] := hl
  replace hown : s.vm.findClass "PlayStates$Board" = some m.cls := hown
  unfold f_Bd_textByte at h
  refine lv_iload_n hx hb d_Bd_textByte_0 rfl (lv_at hl 2 rfl) ?_
  refine lv_if_ne (tgt := 28) hx hb d_Bd_textByte_1 (by decide) (fun c1 => ?_) (fun c1 => ?_)
  · replace h := (if_neg c1).symm.trans h
    refine lv_iload_n hx hb d_Bd_textByte_28 rfl (lv_at hl 2 rfl) ?_
    refine lv_iconst (v := (1 : Int32)) hx hb d_Bd_textByte_29 (by decide) ?_
    refine lv_icmp_ne (tgt := 36) hx hb d_Bd_textByte_30 (by decide) (fun c2 => ?_) (fun c2 => ?_)
    · replace h := (if_neg c2).symm.trans h
      refine lv_iload_n hx hb d_Bd_textByte_36 rfl (lv_at hl 2 rfl) ?_
      refine lv_aload_n hx hb d_Bd_textByte_37 rfl (lv_at hl 0 rfl) ?_
      refine lv_iload_n hx hb d_Bd_textByte_38 rfl (lv_at hl 1 rfl) ?_
      obtain ⟨y3, hy3, h⟩ := o_bind h
      have hPc := hP.sub (ws' := (ws_Bd_textSize G a_t a_t_entries a_t_markBits n x_t_markBits)) [0, 2] rfl
      have hDc := hD.sub (ws' := (ws_Bd_textSize G a_t a_t_entries a_t_markBits n x_t_markBits)) [0, 2] (by decide) rfl
      have hFc := va_free (wc := (ws_Bd_textSize G a_t a_t_entries a_t_markBits n x_t_markBits)) hD hS hA [0, 2] rfl
      refine q_call1 (va_runV (As := [.int p0]) (rest := [.int p1]) ⟨hx, hb, hml, hown, hts⟩ (c_Bd_textSize l G H.size a_t a_t_entries a_t_markBits n p0 x_t_markBits _ hy3) (cwV 1 hts (gV gw_316 gw_303 gw_304 gw_34 gw_305) rfl rfl rfl (by decide +kernel) ⟨Nat.le_of_ble_eq_true rfl, Nat.le_of_ble_eq_true rfl⟩) (pV hK hN hPc hDc (ci := 0) (q0 := 0) rfl rfl) rfl rfl hl.1 rfl (lv_room (Nat.le_of_ble_eq_true rfl)) d_Bd_textByte_39 ⟨Nat.le_of_ble_eq_true rfl, Nat.le_of_ble_eq_true rfl⟩) hS (fun q _ h => hFc q h) hFc (fun H1 locs hB hz hk hS => ?_)
      obtain ⟨hP, hD⟩ := q_join (wr := [(a_t_entries, .inl (G.2 0, n, .inl x_t_entries))]) (wn := (ws_Bd_textByte G a_t a_t_entries a_t_markBits n x_t_entries x_t_markBits)) hP hD [0, 2] [1] [1, 0, 2] rfl rfl (by decide) (by decide) rfl (by decide) hk hFc hB.1 hB.2
      generalize H1 = H at hP hS ⊢
      replace hP : va_P G.1 vwCl (ws_Bd_textByte G a_t a_t_entries a_t_markBits n x_t_entries x_t_markBits) H := hP
      replace hD : va_D A (ws_Bd_textByte G a_t a_t_entries a_t_markBits n x_t_entries x_t_markBits) := hD
      refine lv_iconst (v := (1 : Int32)) hx hb d_Bd_textByte_42 (by decide) ?_
      refine lv_isub hx hb d_Bd_textByte_43 ?_
      refine lv_icmp_ne (tgt := 52) hx hb d_Bd_textByte_44 (by decide) (fun c4 => ?_) (fun c4 => ?_)
      · replace h := (if_neg c4).symm.trans h
        refine lv_bipush (v := (48 : Int32)) hx hb d_Bd_textByte_52 (by decide) ?_
        refine lv_aload_n hx hb d_Bd_textByte_54 rfl (lv_at hl 0 rfl) ?_
        refine lv_iload_n hx hb d_Bd_textByte_55 rfl (lv_at hl 1 rfl) ?_
        refine lv_iload_n hx hb d_Bd_textByte_56 rfl (lv_at hl 2 rfl) ?_
        refine lv_iconst (v := (2 : Int32)) hx hb d_Bd_textByte_57 (by decide) ?_
        refine lv_isub hx hb d_Bd_textByte_58 ?_
        obtain ⟨y5, hy5, h⟩ := o_bind h
        have hPc := hP.sub (ws' := (ws_Bd_findMark G a_t a_t_entries a_t_markBits n x_t_markBits)) [0, 2] rfl
        have hDc := hD.sub (ws' := (ws_Bd_findMark G a_t a_t_entries a_t_markBits n x_t_markBits)) [0, 2] (by decide) rfl
        have hFc := va_free (wc := (ws_Bd_findMark G a_t a_t_entries a_t_markBits n x_t_markBits)) hD hS hA [0, 2] rfl
        refine q_call1 (va_runV (As := [.int p0, .int (p1 - (2 : Int32))]) (rest := [.int (48 : Int32)]) ⟨hx, hb, hml, hown, hts⟩ (c_Bd_findMark l G H.size a_t a_t_entries a_t_markBits fu n p0 (p1 - (2 : Int32)) x_t_markBits _ hy5) (cwV 2 hts (gV gw_317 gw_318 gw_9 gw_34 gw_319) rfl rfl rfl (by decide +kernel) ⟨Nat.le_of_ble_eq_true rfl, Nat.le_of_ble_eq_true rfl⟩) (pV hK hN hPc hDc (ci := 0) (q0 := 0) rfl rfl) rfl rfl hl.1 rfl (lv_room (Nat.le_of_ble_eq_true rfl)) d_Bd_textByte_59 ⟨Nat.le_of_ble_eq_true rfl, Nat.le_of_ble_eq_true rfl⟩) hS (fun q _ h => hFc q h) hFc (fun H1 locs hB hz hk hS => ?_)
        obtain ⟨hP, hD⟩ := q_join (wr := [(a_t_entries, .inl (G.2 0, n, .inl x_t_entries))]) (wn := (ws_Bd_textByte G a_t a_t_entries a_t_markBits n x_t_entries x_t_markBits)) hP hD [0, 2] [1] [1, 0, 2] rfl rfl (by decide) (by decide) rfl (by decide) hk hFc hB.1 hB.2
        generalize H1 = H at hP hS ⊢
        replace hP : va_P G.1 vwCl (ws_Bd_textByte G a_t a_t_entries a_t_markBits n x_t_entries x_t_markBits) H := hP
        replace hD : va_D A (ws_Bd_textByte G a_t a_t_entries a_t_markBits n x_t_entries x_t_markBits) := hD
        refine lv_iadd hx hb d_Bd_textByte_62 ?_
        cases h
        exact q_iretW hx hb hr hlocks hP hD hS d_Bd_textByte_63
      · replace h := (if_pos c4).symm.trans h
        refine lv_bipush (v := (41 : Int32)) hx hb d_Bd_textByte_47 (by decide) ?_
        refine lv_goto (tgt := 63) hx hb d_Bd_textByte_49 (by decide) ?_
        cases h
        exact q_iretW hx hb hr hlocks hP hD hS d_Bd_textByte_63
    · replace h := (if_pos c2).symm.trans h
      refine lv_bipush (v := (40 : Int32)) hx hb d_Bd_textByte_33 (by decide) ?_
      cases h
      exact q_iretW hx hb hr hlocks hP hD hS d_Bd_textByte_35
  · replace h := (if_pos c1).symm.trans h
    refine lv_aload_n hx hb d_Bd_textByte_4 rfl (lv_at hl 0 rfl) ?_
    refine va_get (D := G.1) (ci := 0) (v := .ref a_t_entries) (C := "PlayStates$Board") (T := TBd) (N := 2) hx hb hts iw_0 hown hK hP 0 rfl rfl 0 (by decide) (hts _ gw_79) (fun _ h9 => h9) rfl d_Bd_textByte_5 ?_
    refine lv_iload_n hx hb d_Bd_textByte_8 rfl (lv_at hl 1 rfl) ?_
    obtain ⟨i6, h⟩ := o_if h
    refine va_iald (n := n) (f := x_t_entries) hx hb hK hP 1 0 rfl rfl i6 d_Bd_textByte_9 ?_
    refine lv_if_ne (tgt := 18) hx hb d_Bd_textByte_10 (by decide) (fun c7 => ?_) (fun c7 => ?_)
    · replace h := (if_neg c7).symm.trans h
      refine lv_bipush (v := (48 : Int32)) hx hb d_Bd_textByte_18 (by decide) ?_
      refine lv_aload_n hx hb d_Bd_textByte_20 rfl (lv_at hl 0 rfl) ?_
      refine va_get (D := G.1) (ci := 0) (v := .ref a_t_entries) (C := "PlayStates$Board") (T := TBd) (N := 2) hx hb hts iw_0 hown hK hP 0 rfl rfl 0 (by decide) (hts _ gw_79) (fun _ h9 => h9) rfl d_Bd_textByte_21 ?_
      refine lv_iload_n hx hb d_Bd_textByte_24 rfl (lv_at hl 1 rfl) ?_
      obtain ⟨i8, h⟩ := o_if h
      refine va_iald (n := n) (f := x_t_entries) hx hb hK hP 1 0 rfl rfl i8 d_Bd_textByte_25 ?_
      refine lv_iadd hx hb d_Bd_textByte_26 ?_
      cases h
      exact q_iretW hx hb hr hlocks hP hD hS d_Bd_textByte_27
    · replace h := (if_pos c7).symm.trans h
      refine lv_bipush (v := (46 : Int32)) hx hb d_Bd_textByte_13 (by decide) ?_
      refine lv_goto (tgt := 27) hx hb d_Bd_textByte_15 (by decide) ?_
      cases h
      exact q_iretW hx hb hr hlocks hP hD hS d_Bd_textByte_27
end
section
theorem gw_90 : (.fieldLink "PlayStates$StateReader" 9 "PlayStates$StateReader" "board" "LPlayStates$Board;" : Cond) ∈ GW := gT 77 (by decide +kernel) (by decide +kernel)
theorem gw_291 : (.code ⟨"PlayStates$Board", "clear", "()V"⟩ prog_2_method_2_code 1 none : Cond) ∈ GW := gT 320 (by decide +kernel) (by decide +kernel)
theorem gw_335 : (.methodLink "PlayStates$StateReader" 19 ⟨"PlayStates$Board", "clear", "()V"⟩ : Cond) ∈ GW := gT 367 (by decide +kernel) (by decide +kernel)
theorem gw_289 : (.instanceMethod ⟨"PlayStates$Board", "clear", "()V"⟩ : Cond) ∈ GW := gT 318 (by decide +kernel) (by decide +kernel)
theorem gw_290 : (.selects "PlayStates$Board" ⟨"PlayStates$Board", "clear", "()V"⟩ ⟨"PlayStates$Board", "clear", "()V"⟩ : Cond) ∈ GW := gT 319 (by decide +kernel) (by decide +kernel)
theorem gw_92 : (.fieldLink "PlayStates$StateReader" 24 "PlayStates$StateReader" "placesRead" "I" : Cond) ∈ GW := gT 79 (by decide +kernel) (by decide +kernel)
theorem gw_93 : (.fieldLink "PlayStates$StateReader" 27 "PlayStates$StateReader" "mayOpen" "Z" : Cond) ∈ GW := gT 80 (by decide +kernel) (by decide +kernel)
theorem gw_94 : (.fieldLink "PlayStates$StateReader" 31 "PlayStates$StateReader" "open" "Z" : Cond) ∈ GW := gT 81 (by decide +kernel) (by decide +kernel)
theorem d_Sr_begin_0 : decode prog_6_method_2_code 0 = .ok (.aload_n 0, 1) := by decide +kernel
theorem d_Sr_begin_1 : decode prog_6_method_2_code 1 = .ok (.getfield 9, 3) := by decide +kernel
theorem d_Sr_begin_4 : decode prog_6_method_2_code 4 = .ok (.invokevirtual 19, 3) := by decide +kernel
theorem d_Sr_begin_7 : decode prog_6_method_2_code 7 = .ok (.aload_n 0, 1) := by decide +kernel
theorem d_Sr_begin_8 : decode prog_6_method_2_code 8 = .ok (.iconst 0, 1) := by decide +kernel
theorem d_Sr_begin_9 : decode prog_6_method_2_code 9 = .ok (.putfield 24, 3) := by decide +kernel
theorem d_Sr_begin_12 : decode prog_6_method_2_code 12 = .ok (.aload_n 0, 1) := by decide +kernel
theorem d_Sr_begin_13 : decode prog_6_method_2_code 13 = .ok (.iconst 0, 1) := by decide +kernel
theorem d_Sr_begin_14 : decode prog_6_method_2_code 14 = .ok (.putfield 27, 3) := by decide +kernel
theorem d_Sr_begin_17 : decode prog_6_method_2_code 17 = .ok (.aload_n 0, 1) := by decide +kernel
theorem d_Sr_begin_18 : decode prog_6_method_2_code 18 = .ok (.iconst 0, 1) := by decide +kernel
theorem d_Sr_begin_19 : decode prog_6_method_2_code 19 = .ok (.putfield 31, 3) := by decide +kernel
theorem d_Sr_begin_22 : decode prog_6_method_2_code 22 = .ok (.return_, 1) := by decide +kernel
-- PlayStates$StateReader.begin()V 
def ws_Sr_begin (G : gG) (a_t a_t_board a_t_board_entries a_t_board_markBits : Nat) (n : Nat) (x_t_placeCount : Int32) (x_t_placesRead : Int32) (x_t_mayOpen : Int32) (x_t_open : Int32) (x_t_lastMark : Int32) (x_t_board_entries : Nat → Int32) (x_t_board_markBits : Nat → Int32) : va_W := [(a_t, .inr (4, [.ref a_t_board, .int x_t_placeCount, .int x_t_placesRead, .int x_t_mayOpen, .int x_t_open, .int x_t_lastMark])), (a_t_board, .inr (0, [.ref a_t_board_entries, .ref a_t_board_markBits])), (a_t_board_entries, .inl (G.2 0, n, .inl x_t_board_entries)), (a_t_board_markBits, .inl (G.2 0, n, .inl x_t_board_markBits))]
def f_Sr_begin (fu : Nat) (n : Nat)  (x_t_placeCount : Int32) (x_t_placesRead : Int32) (x_t_mayOpen : Int32) (x_t_open : Int32) (x_t_lastMark : Int32) (x_t_board_entries : Nat → Int32) (x_t_board_markBits : Nat → Int32) : Option (Int32 × Int32 × Int32 × (Nat → Int32) × (Nat → Int32)) :=
  ((f_Bd_clear fu n x_t_board_entries x_t_board_markBits).bind fun y1 => some ((0 : Int32), (0 : Int32), (0 : Int32), y1.1, y1.2))
set_option maxHeartbeats 4000000 in
set_option maxRecDepth 100000 in
theorem c_Sr_begin (l : Launch) (G : gG) (sz : Nat) (a_t a_t_board a_t_board_entries a_t_board_markBits : Nat) (fu : Nat) (n : Nat)  (x_t_placeCount : Int32) (x_t_placesRead : Int32) (x_t_mayOpen : Int32) (x_t_open : Int32) (x_t_lastMark : Int32) (x_t_board_entries : Nat → Int32) (x_t_board_markBits : Nat → Int32) (x_t_placesRead' : Int32) (x_t_mayOpen' : Int32) (x_t_open' : Int32) (x_t_board_entries' : Nat → Int32) (x_t_board_markBits' : Nat → Int32) (h : f_Sr_begin fu n x_t_placeCount x_t_placesRead x_t_mayOpen x_t_open x_t_lastMark x_t_board_entries x_t_board_markBits = some (x_t_placesRead', x_t_mayOpen', x_t_open', x_t_board_entries', x_t_board_markBits'))  : cN l y_Sr_begin w_Sr_begin { frames := 2, cells := 0, slots := 0, locals := 43 } G sz [.ref a_t] (ws_Sr_begin G a_t a_t_board a_t_board_entries a_t_board_markBits n x_t_placeCount x_t_placesRead x_t_mayOpen x_t_open x_t_lastMark x_t_board_entries x_t_board_markBits) none (wB G (ws_Sr_begin G a_t a_t_board a_t_board_entries a_t_board_markBits n x_t_placeCount x_t_placesRead' x_t_mayOpen' x_t_open' x_t_lastMark x_t_board_entries' x_t_board_markBits')) 0 0 := by
  refine cN_ofW (cc := prog_6_method_2_code) (maxL := 1) (ret := none) (by decide) rfl (Nat.le_of_ble_eq_true rfl) ?_
  intro p e s m args below meth c A H locs ls hx hb hr hts hown hlocks hin hml hK hN hP hD hA hS hl
  replace hl : lv_has ls 1 [(0, .ref a_t)] := hl
  replace hown : s.vm.findClass "PlayStates$StateReader" = some m.cls := hown
  unfold f_Sr_begin at h
  refine lv_aload_n hx hb d_Sr_begin_0 rfl (lv_at hl 0 rfl) ?_
  refine va_get (D := G.1) (ci := 4) (v := .ref a_t_board) (C := "PlayStates$StateReader") (T := TSr) (N := 6) hx hb hts iw_4 hown hK hP 0 rfl rfl 0 (by decide) (hts _ gw_90) (fun _ h9 => h9) rfl d_Sr_begin_1 ?_
  obtain ⟨y1, hy1, h⟩ := o_bind h
  have hPc := hP.sub (ws' := (ws_Bd_clear G a_t_board a_t_board_entries a_t_board_markBits n x_t_board_entries x_t_board_markBits)) [1, 2, 3] rfl
  have hDc := hD.sub (ws' := (ws_Bd_clear G a_t_board a_t_board_entries a_t_board_markBits n x_t_board_entries x_t_board_markBits)) [1, 2, 3] (by decide) rfl
  have hFc := va_free (wc := (ws_Bd_clear G a_t_board a_t_board_entries a_t_board_markBits n x_t_board_entries x_t_board_markBits)) hD hS hA [1, 2, 3] rfl
  refine q_call0 (va_runV (As := []) (rest := []) ⟨hx, hb, hml, hown, hts⟩ (c_Bd_clear l G H.size a_t_board a_t_board_entries a_t_board_markBits fu n x_t_board_entries x_t_board_markBits _ _ hy1) (cwV 0 hts (gV gw_335 gw_289 gw_290 gw_34 gw_291) rfl rfl rfl (by decide +kernel) ⟨Nat.le_of_ble_eq_true rfl, Nat.le_of_ble_eq_true rfl⟩) (pV hK hN hPc hDc (ci := 0) (q0 := 0) rfl rfl) rfl rfl hl.1 rfl (lv_room (Nat.le_of_ble_eq_true rfl)) d_Sr_begin_4 ⟨Nat.le_of_ble_eq_true rfl, Nat.le_of_ble_eq_true rfl⟩) hS (fun q _ h => hFc q h) hFc (fun H1 locs hB hz hk hS => ?_)
  obtain ⟨hP, hD⟩ := q_join (wr := [(a_t, .inr (4, [.ref a_t_board, .int x_t_placeCount, .int x_t_placesRead, .int x_t_mayOpen, .int x_t_open, .int x_t_lastMark]))]) (wn := (ws_Sr_begin G a_t a_t_board a_t_board_entries a_t_board_markBits n x_t_placeCount x_t_placesRead x_t_mayOpen x_t_open x_t_lastMark y1.1 y1.2)) hP hD [1, 2, 3] [0] [0, 1, 2, 3] rfl rfl (by decide) (by decide) rfl (by decide) hk hFc hB.1 hB.2
  generalize H1 = H at hP hS ⊢
  replace hP : va_P G.1 vwCl (ws_Sr_begin G a_t a_t_board a_t_board_entries a_t_board_markBits n x_t_placeCount x_t_placesRead x_t_mayOpen x_t_open x_t_lastMark y1.1 y1.2) H := hP
  replace hD : va_D A (ws_Sr_begin G a_t a_t_board a_t_board_entries a_t_board_markBits n x_t_placeCount x_t_placesRead x_t_mayOpen x_t_open x_t_lastMark y1.1 y1.2) := hD
  refine lv_aload_n hx hb d_Sr_begin_7 rfl (lv_at hl 0 rfl) ?_
  refine lv_iconst (v := (0 : Int32)) hx hb d_Sr_begin_8 (by decide) ?_
  refine va_put (D := G.1) (ci := 4) (v := .int (0 : Int32)) (ty := .int) (C := "PlayStates$StateReader") (T := TSr) (N := 6) hx hb hts iw_4 tySr tySr_ok nmSr hown hK hP hD hS 0 rfl rfl 2 (by decide) (hts _ gw_92) (fun _ h9 => h9) rfl (by decide +kernel) (by rfl) (by rfl) (Nat.le_of_ble_eq_true rfl) d_Sr_begin_9 (fun H locs hP hD hS => ?_)
  replace hP : va_P G.1 vwCl (ws_Sr_begin G a_t a_t_board a_t_board_entries a_t_board_markBits n x_t_placeCount (0 : Int32) x_t_mayOpen x_t_open x_t_lastMark y1.1 y1.2) H := hP
  replace hD : va_D A (ws_Sr_begin G a_t a_t_board a_t_board_entries a_t_board_markBits n x_t_placeCount (0 : Int32) x_t_mayOpen x_t_open x_t_lastMark y1.1 y1.2) := hD
  refine lv_aload_n hx hb d_Sr_begin_12 rfl (lv_at hl 0 rfl) ?_
  refine lv_iconst (v := (0 : Int32)) hx hb d_Sr_begin_13 (by decide) ?_
  refine va_put (D := G.1) (ci := 4) (v := .int (0 : Int32)) (ty := .boolean) (C := "PlayStates$StateReader") (T := TSr) (N := 6) hx hb hts iw_4 tySr tySr_ok nmSr hown hK hP hD hS 0 rfl rfl 3 (by decide) (hts _ gw_93) (fun _ h9 => h9) rfl (by decide +kernel) (by decide) (by decide) (Nat.le_of_ble_eq_true rfl) d_Sr_begin_14 (fun H locs hP hD hS => ?_)
  replace hP : va_P G.1 vwCl (ws_Sr_begin G a_t a_t_board a_t_board_entries a_t_board_markBits n x_t_placeCount (0 : Int32) (0 : Int32) x_t_open x_t_lastMark y1.1 y1.2) H := hP
  replace hD : va_D A (ws_Sr_begin G a_t a_t_board a_t_board_entries a_t_board_markBits n x_t_placeCount (0 : Int32) (0 : Int32) x_t_open x_t_lastMark y1.1 y1.2) := hD
  refine lv_aload_n hx hb d_Sr_begin_17 rfl (lv_at hl 0 rfl) ?_
  refine lv_iconst (v := (0 : Int32)) hx hb d_Sr_begin_18 (by decide) ?_
  refine va_put (D := G.1) (ci := 4) (v := .int (0 : Int32)) (ty := .boolean) (C := "PlayStates$StateReader") (T := TSr) (N := 6) hx hb hts iw_4 tySr tySr_ok nmSr hown hK hP hD hS 0 rfl rfl 4 (by decide) (hts _ gw_94) (fun _ h9 => h9) rfl (by decide +kernel) (by decide) (by decide) (Nat.le_of_ble_eq_true rfl) d_Sr_begin_19 (fun H locs hP hD hS => ?_)
  replace hP : va_P G.1 vwCl (ws_Sr_begin G a_t a_t_board a_t_board_entries a_t_board_markBits n x_t_placeCount (0 : Int32) (0 : Int32) (0 : Int32) x_t_lastMark y1.1 y1.2) H := hP
  replace hD : va_D A (ws_Sr_begin G a_t a_t_board a_t_board_entries a_t_board_markBits n x_t_placeCount (0 : Int32) (0 : Int32) (0 : Int32) x_t_lastMark y1.1 y1.2) := hD
  cases h
  exact q_vretW hx hb hr hlocks hP hD hS d_Sr_begin_22

theorem gw_91 : (.fieldLink "PlayStates$StateReader" 15 "PlayStates$StateReader" "placeCount" "I" : Cond) ∈ GW := gT 78 (by decide +kernel) (by decide +kernel)
theorem d_Sr_isWhole_0 : decode prog_6_method_4_code 0 = .ok (.aload_n 0, 1) := by decide +kernel
theorem d_Sr_isWhole_1 : decode prog_6_method_4_code 1 = .ok (.getfield 24, 3) := by decide +kernel
theorem d_Sr_isWhole_4 : decode prog_6_method_4_code 4 = .ok (.aload_n 0, 1) := by decide +kernel
theorem d_Sr_isWhole_5 : decode prog_6_method_4_code 5 = .ok (.getfield 15, 3) := by decide +kernel
theorem d_Sr_isWhole_8 : decode prog_6_method_4_code 8 = .ok (.if_icmp .ne 14, 3) := by decide +kernel
theorem d_Sr_isWhole_11 : decode prog_6_method_4_code 11 = .ok (.aload_n 0, 1) := by decide +kernel
theorem d_Sr_isWhole_12 : decode prog_6_method_4_code 12 = .ok (.getfield 31, 3) := by decide +kernel
theorem d_Sr_isWhole_15 : decode prog_6_method_4_code 15 = .ok (.ifCond .ne 7, 3) := by decide +kernel
theorem d_Sr_isWhole_18 : decode prog_6_method_4_code 18 = .ok (.iconst 1, 1) := by decide +kernel
theorem d_Sr_isWhole_19 : decode prog_6_method_4_code 19 = .ok (.goto 4, 3) := by decide +kernel
theorem d_Sr_isWhole_22 : decode prog_6_method_4_code 22 = .ok (.iconst 0, 1) := by decide +kernel
theorem d_Sr_isWhole_23 : decode prog_6_method_4_code 23 = .ok (.ireturn, 1) := by decide +kernel
-- PlayStates$StateReader.isWhole()Z 
def ws_Sr_isWhole (G : gG) (a_t a_t_board : Nat)  (x_t_placeCount : Int32) (x_t_placesRead : Int32) (x_t_mayOpen : Int32) (x_t_open : Int32) (x_t_lastMark : Int32) : va_W := [(a_t, .inr (4, [.ref a_t_board, .int x_t_placeCount, .int x_t_placesRead, .int x_t_mayOpen, .int x_t_open, .int x_t_lastMark]))]
def f_Sr_isWhole   (x_t_placeCount : Int32) (x_t_placesRead : Int32) (x_t_mayOpen : Int32) (x_t_open : Int32) (x_t_lastMark : Int32) : Option (Int32) :=
  (if x_t_placesRead = x_t_placeCount then (if x_t_open = 0 then some (1 : Int32) else some (0 : Int32)) else some (0 : Int32))
set_option maxHeartbeats 4000000 in
set_option maxRecDepth 100000 in
theorem c_Sr_isWhole (l : Launch) (G : gG) (sz : Nat) (a_t a_t_board : Nat)   (x_t_placeCount : Int32) (x_t_placesRead : Int32) (x_t_mayOpen : Int32) (x_t_open : Int32) (x_t_lastMark : Int32) (r : Int32) (h : f_Sr_isWhole x_t_placeCount x_t_placesRead x_t_mayOpen x_t_open x_t_lastMark = some r)  : cN l y_Sr_isWhole w_Sr_isWhole { frames := 0, cells := 0, slots := 0, locals := 0 } G sz [.ref a_t] (ws_Sr_isWhole G a_t a_t_board x_t_placeCount x_t_placesRead x_t_mayOpen x_t_open x_t_lastMark) (some (.int r)) (wB G (ws_Sr_isWhole G a_t a_t_board x_t_placeCount x_t_placesRead x_t_mayOpen x_t_open x_t_lastMark)) 0 0 := by
  refine cN_ofW (cc := prog_6_method_4_code) (maxL := 1) (ret := (some .boolean)) (by decide) rfl (Nat.le_of_ble_eq_true rfl) ?_
  intro p e s m args below meth c A H locs ls hx hb hr hts hown hlocks hin hml hK hN hP hD hA hS hl
  replace hl : lv_has ls 1 [(0, .ref a_t)] := hl
  replace hown : s.vm.findClass "PlayStates$StateReader" = some m.cls := hown
  unfold f_Sr_isWhole at h
  refine lv_aload_n hx hb d_Sr_isWhole_0 rfl (lv_at hl 0 rfl) ?_
  refine va_get (D := G.1) (ci := 4) (v := .int x_t_placesRead) (C := "PlayStates$StateReader") (T := TSr) (N := 6) hx hb hts iw_4 hown hK hP 0 rfl rfl 2 (by decide) (hts _ gw_92) (fun _ h9 => h9) rfl d_Sr_isWhole_1 ?_
  refine lv_aload_n hx hb d_Sr_isWhole_4 rfl (lv_at hl 0 rfl) ?_
  refine va_get (D := G.1) (ci := 4) (v := .int x_t_placeCount) (C := "PlayStates$StateReader") (T := TSr) (N := 6) hx hb hts iw_4 hown hK hP 0 rfl rfl 1 (by decide) (hts _ gw_91) (fun _ h9 => h9) rfl d_Sr_isWhole_5 ?_
  refine lv_icmp_ne (tgt := 22) hx hb d_Sr_isWhole_8 (by decide) (fun c1 => ?_) (fun c1 => ?_)
  · replace h := (if_neg c1).symm.trans h
    refine lv_iconst (v := (0 : Int32)) hx hb d_Sr_isWhole_22 (by decide) ?_
    cases h
    exact q_zretW hx hb hr hlocks (by decide) hP hD hS d_Sr_isWhole_23
  · replace h := (if_pos c1).symm.trans h
    refine lv_aload_n hx hb d_Sr_isWhole_11 rfl (lv_at hl 0 rfl) ?_
    refine va_get (D := G.1) (ci := 4) (v := .int x_t_open) (C := "PlayStates$StateReader") (T := TSr) (N := 6) hx hb hts iw_4 hown hK hP 0 rfl rfl 4 (by decide) (hts _ gw_94) (fun _ h9 => h9) rfl d_Sr_isWhole_12 ?_
    refine lv_if_ne (tgt := 22) hx hb d_Sr_isWhole_15 (by decide) (fun c2 => ?_) (fun c2 => ?_)
    · replace h := (if_neg c2).symm.trans h
      refine lv_iconst (v := (0 : Int32)) hx hb d_Sr_isWhole_22 (by decide) ?_
      cases h
      exact q_zretW hx hb hr hlocks (by decide) hP hD hS d_Sr_isWhole_23
    · replace h := (if_pos c2).symm.trans h
      refine lv_iconst (v := (1 : Int32)) hx hb d_Sr_isWhole_18 (by decide) ?_
      refine lv_goto (tgt := 23) hx hb d_Sr_isWhole_19 (by decide) ?_
      cases h
      exact q_zretW hx hb hr hlocks (by decide) hP hD hS d_Sr_isWhole_23

theorem gw_95 : (.fieldLink "PlayStates$StateReader" 48 "PlayStates$StateReader" "lastMark" "I" : Cond) ∈ GW := gT 82 (by decide +kernel) (by decide +kernel)
theorem d_Sr_acceptsOpening_0 : decode prog_6_method_5_code 0 = .ok (.aload_n 0, 1) := by decide +kernel
theorem d_Sr_acceptsOpening_1 : decode prog_6_method_5_code 1 = .ok (.getfield 27, 3) := by decide +kernel
theorem d_Sr_acceptsOpening_4 : decode prog_6_method_5_code 4 = .ok (.ifCond .ne 5, 3) := by decide +kernel
theorem d_Sr_acceptsOpening_7 : decode prog_6_method_5_code 7 = .ok (.iconst 0, 1) := by decide +kernel
theorem d_Sr_acceptsOpening_8 : decode prog_6_method_5_code 8 = .ok (.ireturn, 1) := by decide +kernel
theorem d_Sr_acceptsOpening_9 : decode prog_6_method_5_code 9 = .ok (.aload_n 0, 1) := by decide +kernel
theorem d_Sr_acceptsOpening_10 : decode prog_6_method_5_code 10 = .ok (.iconst 0, 1) := by decide +kernel
theorem d_Sr_acceptsOpening_11 : decode prog_6_method_5_code 11 = .ok (.putfield 27, 3) := by decide +kernel
theorem d_Sr_acceptsOpening_14 : decode prog_6_method_5_code 14 = .ok (.aload_n 0, 1) := by decide +kernel
theorem d_Sr_acceptsOpening_15 : decode prog_6_method_5_code 15 = .ok (.iconst 1, 1) := by decide +kernel
theorem d_Sr_acceptsOpening_16 : decode prog_6_method_5_code 16 = .ok (.putfield 31, 3) := by decide +kernel
theorem d_Sr_acceptsOpening_19 : decode prog_6_method_5_code 19 = .ok (.aload_n 0, 1) := by decide +kernel
theorem d_Sr_acceptsOpening_20 : decode prog_6_method_5_code 20 = .ok (.iconst 0, 1) := by decide +kernel
theorem d_Sr_acceptsOpening_21 : decode prog_6_method_5_code 21 = .ok (.putfield 48, 3) := by decide +kernel
theorem d_Sr_acceptsOpening_24 : decode prog_6_method_5_code 24 = .ok (.iconst 1, 1) := by decide +kernel
theorem d_Sr_acceptsOpening_25 : decode prog_6_method_5_code 25 = .ok (.ireturn, 1) := by decide +kernel
-- PlayStates$StateReader.acceptsOpening()Z 
def ws_Sr_acceptsOpening (G : gG) (a_t a_t_board : Nat)  (x_t_placeCount : Int32) (x_t_placesRead : Int32) (x_t_mayOpen : Int32) (x_t_open : Int32) (x_t_lastMark : Int32) : va_W := [(a_t, .inr (4, [.ref a_t_board, .int x_t_placeCount, .int x_t_placesRead, .int x_t_mayOpen, .int x_t_open, .int x_t_lastMark]))]
def f_Sr_acceptsOpening   (x_t_placeCount : Int32) (x_t_placesRead : Int32) (x_t_mayOpen : Int32) (x_t_open : Int32) (x_t_lastMark : Int32) : Option (Int32 × Int32 × Int32 × Int32) :=
  (if x_t_mayOpen = 0 then some ((0 : Int32), x_t_mayOpen, x_t_open, x_t_lastMark) else some ((1 : Int32), (0 : Int32), (1 : Int32), (0 : Int32)))
set_option maxHeartbeats 4000000 in
set_option maxRecDepth 100000 in
theorem c_Sr_acceptsOpening (l : Launch) (G : gG) (sz : Nat) (a_t a_t_board : Nat)   (x_t_placeCount : Int32) (x_t_placesRead : Int32) (x_t_mayOpen : Int32) (x_t_open : Int32) (x_t_lastMark : Int32) (r : Int32) (x_t_mayOpen' : Int32) (x_t_open' : Int32) (x_t_lastMark' : Int32) (h : f_Sr_acceptsOpening x_t_placeCount x_t_placesRead x_t_mayOpen x_t_open x_t_lastMark = some (r, x_t_mayOpen', x_t_open', x_t_lastMark'))  : cN l y_Sr_acceptsOpening w_Sr_acceptsOpening { frames := 0, cells := 0, slots := 0, locals := 0 } G sz [.ref a_t] (ws_Sr_acceptsOpening G a_t a_t_board x_t_placeCount x_t_placesRead x_t_mayOpen x_t_open x_t_lastMark) (some (.int r)) (wB G (ws_Sr_acceptsOpening G a_t a_t_board x_t_placeCount x_t_placesRead x_t_mayOpen' x_t_open' x_t_lastMark')) 0 0 := by
  refine cN_ofW (cc := prog_6_method_5_code) (maxL := 1) (ret := (some .boolean)) (by decide) rfl (Nat.le_of_ble_eq_true rfl) ?_
  intro p e s m args below meth c A H locs ls hx hb hr hts hown hlocks hin hml hK hN hP hD hA hS hl
  replace hl : lv_has ls 1 [(0, .ref a_t)] := hl
  replace hown : s.vm.findClass "PlayStates$StateReader" = some m.cls := hown
  unfold f_Sr_acceptsOpening at h
  refine lv_aload_n hx hb d_Sr_acceptsOpening_0 rfl (lv_at hl 0 rfl) ?_
  refine va_get (D := G.1) (ci := 4) (v := .int x_t_mayOpen) (C := "PlayStates$StateReader") (T := TSr) (N := 6) hx hb hts iw_4 hown hK hP 0 rfl rfl 3 (by decide) (hts _ gw_93) (fun _ h9 => h9) rfl d_Sr_acceptsOpening_1 ?_
  refine lv_if_ne (tgt := 9) hx hb d_Sr_acceptsOpening_4 (by decide) (fun c1 => ?_) (fun c1 => ?_)
  · replace h := (if_neg c1).symm.trans h
    refine lv_aload_n hx hb d_Sr_acceptsOpening_9 rfl (lv_at hl 0 rfl) ?_
    refine lv_iconst (v := (0 : Int32)) hx hb d_Sr_acceptsOpening_10 (by decide) ?_
    refine va_put (D := G.1) (ci := 4) (v := .int (0 : Int32)) (ty := .boolean) (C := "PlayStates$StateReader") (T := TSr) (N := 6) hx hb hts iw_4 tySr tySr_ok nmSr hown hK hP hD hS 0 rfl rfl 3 (by decide) (hts _ gw_93) (fun _ h9 => h9) rfl (by decide +kernel) (by decide) (by decide) (Nat.le_of_ble_eq_true rfl) d_Sr_acceptsOpening_11 (fun H locs hP hD hS => ?_)
    replace hP : va_P G.1 vwCl (ws_Sr_acceptsOpening G a_t a_t_board x_t_placeCount x_t_placesRead (0 : Int32) x_t_open x_t_lastMark) H := hP
    replace hD : va_D A (ws_Sr_acceptsOpening G a_t a_t_board x_t_placeCount x_t_placesRead (0 : Int32) x_t_open x_t_lastMark) := hD
    refine lv_aload_n hx hb d_Sr_acceptsOpening_14 rfl (lv_at hl 0 rfl) ?_
    refine lv_iconst (v := (1 : Int32)) hx hb d_Sr_acceptsOpening_15 (by decide) ?_
    refine va_put (D := G.1) (ci := 4) (v := .int (1 : Int32)) (ty := .boolean) (C := "PlayStates$StateReader") (T := TSr) (N := 6) hx hb hts iw_4 tySr tySr_ok nmSr hown hK hP hD hS 0 rfl rfl 4 (by decide) (hts _ gw_94) (fun _ h9 => h9) rfl (by decide +kernel) (by decide) (by decide) (Nat.le_of_ble_eq_true rfl) d_Sr_acceptsOpening_16 (fun H locs hP hD hS => ?_)
    replace hP : va_P G.1 vwCl (ws_Sr_acceptsOpening G a_t a_t_board x_t_placeCount x_t_placesRead (0 : Int32) (1 : Int32) x_t_lastMark) H := hP
    replace hD : va_D A (ws_Sr_acceptsOpening G a_t a_t_board x_t_placeCount x_t_placesRead (0 : Int32) (1 : Int32) x_t_lastMark) := hD
    refine lv_aload_n hx hb d_Sr_acceptsOpening_19 rfl (lv_at hl 0 rfl) ?_
    refine lv_iconst (v := (0 : Int32)) hx hb d_Sr_acceptsOpening_20 (by decide) ?_
    refine va_put (D := G.1) (ci := 4) (v := .int (0 : Int32)) (ty := .int) (C := "PlayStates$StateReader") (T := TSr) (N := 6) hx hb hts iw_4 tySr tySr_ok nmSr hown hK hP hD hS 0 rfl rfl 5 (by decide) (hts _ gw_95) (fun _ h9 => h9) rfl (by decide +kernel) (by rfl) (by rfl) (Nat.le_of_ble_eq_true rfl) d_Sr_acceptsOpening_21 (fun H locs hP hD hS => ?_)
    replace hP : va_P G.1 vwCl (ws_Sr_acceptsOpening G a_t a_t_board x_t_placeCount x_t_placesRead (0 : Int32) (1 : Int32) (0 : Int32)) H := hP
    replace hD : va_D A (ws_Sr_acceptsOpening G a_t a_t_board x_t_placeCount x_t_placesRead (0 : Int32) (1 : Int32) (0 : Int32)) := hD
    refine lv_iconst (v := (1 : Int32)) hx hb d_Sr_acceptsOpening_24 (by decide) ?_
    cases h
    exact q_zretW hx hb hr hlocks (by decide) hP hD hS d_Sr_acceptsOpening_25
  · replace h := (if_pos c1).symm.trans h
    refine lv_iconst (v := (0 : Int32)) hx hb d_Sr_acceptsOpening_7 (by decide) ?_
    cases h
    exact q_zretW hx hb hr hlocks (by decide) hP hD hS d_Sr_acceptsOpening_8

theorem d_Sr_acceptsClosing_0 : decode prog_6_method_6_code 0 = .ok (.aload_n 0, 1) := by decide +kernel
theorem d_Sr_acceptsClosing_1 : decode prog_6_method_6_code 1 = .ok (.getfield 48, 3) := by decide +kernel
theorem d_Sr_acceptsClosing_4 : decode prog_6_method_6_code 4 = .ok (.ifCond .ne 5, 3) := by decide +kernel
theorem d_Sr_acceptsClosing_7 : decode prog_6_method_6_code 7 = .ok (.iconst 0, 1) := by decide +kernel
theorem d_Sr_acceptsClosing_8 : decode prog_6_method_6_code 8 = .ok (.ireturn, 1) := by decide +kernel
theorem d_Sr_acceptsClosing_9 : decode prog_6_method_6_code 9 = .ok (.aload_n 0, 1) := by decide +kernel
theorem d_Sr_acceptsClosing_10 : decode prog_6_method_6_code 10 = .ok (.iconst 0, 1) := by decide +kernel
theorem d_Sr_acceptsClosing_11 : decode prog_6_method_6_code 11 = .ok (.putfield 31, 3) := by decide +kernel
theorem d_Sr_acceptsClosing_14 : decode prog_6_method_6_code 14 = .ok (.iconst 1, 1) := by decide +kernel
theorem d_Sr_acceptsClosing_15 : decode prog_6_method_6_code 15 = .ok (.ireturn, 1) := by decide +kernel
-- PlayStates$StateReader.acceptsClosing()Z 
def ws_Sr_acceptsClosing (G : gG) (a_t a_t_board : Nat)  (x_t_placeCount : Int32) (x_t_placesRead : Int32) (x_t_mayOpen : Int32) (x_t_open : Int32) (x_t_lastMark : Int32) : va_W := [(a_t, .inr (4, [.ref a_t_board, .int x_t_placeCount, .int x_t_placesRead, .int x_t_mayOpen, .int x_t_open, .int x_t_lastMark]))]
def f_Sr_acceptsClosing   (x_t_placeCount : Int32) (x_t_placesRead : Int32) (x_t_mayOpen : Int32) (x_t_open : Int32) (x_t_lastMark : Int32) : Option (Int32 × Int32) :=
  (if x_t_lastMark = 0 then some ((0 : Int32), x_t_open) else some ((1 : Int32), (0 : Int32)))
set_option maxHeartbeats 4000000 in
set_option maxRecDepth 100000 in
theorem c_Sr_acceptsClosing (l : Launch) (G : gG) (sz : Nat) (a_t a_t_board : Nat)   (x_t_placeCount : Int32) (x_t_placesRead : Int32) (x_t_mayOpen : Int32) (x_t_open : Int32) (x_t_lastMark : Int32) (r : Int32) (x_t_open' : Int32) (h : f_Sr_acceptsClosing x_t_placeCount x_t_placesRead x_t_mayOpen x_t_open x_t_lastMark = some (r, x_t_open'))  : cN l y_Sr_acceptsClosing w_Sr_acceptsClosing { frames := 0, cells := 0, slots := 0, locals := 0 } G sz [.ref a_t] (ws_Sr_acceptsClosing G a_t a_t_board x_t_placeCount x_t_placesRead x_t_mayOpen x_t_open x_t_lastMark) (some (.int r)) (wB G (ws_Sr_acceptsClosing G a_t a_t_board x_t_placeCount x_t_placesRead x_t_mayOpen x_t_open' x_t_lastMark)) 0 0 := by
  refine cN_ofW (cc := prog_6_method_6_code) (maxL := 1) (ret := (some .boolean)) (by decide) rfl (Nat.le_of_ble_eq_true rfl) ?_
  intro p e s m args below meth c A H locs ls hx hb hr hts hown hlocks hin hml hK hN hP hD hA hS hl
  replace hl : lv_has ls 1 [(0, .ref a_t)] := hl
  replace hown : s.vm.findClass "PlayStates$StateReader" = some m.cls := hown
  unfold f_Sr_acceptsClosing at h
  refine lv_aload_n hx hb d_Sr_acceptsClosing_0 rfl (lv_at hl 0 rfl) ?_
  refine va_get (D := G.1) (ci := 4) (v := .int x_t_lastMark) (C := "PlayStates$StateReader") (T := TSr) (N := 6) hx hb hts iw_4 hown hK hP 0 rfl rfl 5 (by decide) (hts _ gw_95) (fun _ h9 => h9) rfl d_Sr_acceptsClosing_1 ?_
  refine lv_if_ne (tgt := 9) hx hb d_Sr_acceptsClosing_4 (by decide) (fun c1 => ?_) (fun c1 => ?_)
  · replace h := (if_neg c1).symm.trans h
    refine lv_aload_n hx hb d_Sr_acceptsClosing_9 rfl (lv_at hl 0 rfl) ?_
    refine lv_iconst (v := (0 : Int32)) hx hb d_Sr_acceptsClosing_10 (by decide) ?_
    refine va_put (D := G.1) (ci := 4) (v := .int (0 : Int32)) (ty := .boolean) (C := "PlayStates$StateReader") (T := TSr) (N := 6) hx hb hts iw_4 tySr tySr_ok nmSr hown hK hP hD hS 0 rfl rfl 4 (by decide) (hts _ gw_94) (fun _ h9 => h9) rfl (by decide +kernel) (by decide) (by decide) (Nat.le_of_ble_eq_true rfl) d_Sr_acceptsClosing_11 (fun H locs hP hD hS => ?_)
    replace hP : va_P G.1 vwCl (ws_Sr_acceptsClosing G a_t a_t_board x_t_placeCount x_t_placesRead x_t_mayOpen (0 : Int32) x_t_lastMark) H := hP
    replace hD : va_D A (ws_Sr_acceptsClosing G a_t a_t_board x_t_placeCount x_t_placesRead x_t_mayOpen (0 : Int32) x_t_lastMark) := hD
    refine lv_iconst (v := (1 : Int32)) hx hb d_Sr_acceptsClosing_14 (by decide) ?_
    cases h
    exact q_zretW hx hb hr hlocks (by decide) hP hD hS d_Sr_acceptsClosing_15
  · replace h := (if_pos c1).symm.trans h
    refine lv_iconst (v := (0 : Int32)) hx hb d_Sr_acceptsClosing_7 (by decide) ?_
    cases h
    exact q_zretW hx hb hr hlocks (by decide) hP hD hS d_Sr_acceptsClosing_8

theorem gw_31 : (.initialized "PlayStates" : Cond) ∈ GW := gT 1 (by decide +kernel) (by decide +kernel)
theorem gw_201 : (.code ⟨"PlayStates", "isOneToNine", "(I)Z"⟩ prog_1_method_22_code 1 (some .boolean) : Cond) ∈ GW := gT 227 (by decide +kernel) (by decide +kernel)
theorem gw_200 : (.static ⟨"PlayStates", "isOneToNine", "(I)Z"⟩ : Cond) ∈ GW := gT 226 (by decide +kernel) (by decide +kernel)
theorem gw_194 : (.code ⟨"PlayStates$Board", "put", "(II)V"⟩ prog_2_method_5_code 3 none : Cond) ∈ GW := gT 220 (by decide +kernel) (by decide +kernel)
theorem gw_346 : (.methodLink "PlayStates$StateReader" 54 ⟨"PlayStates$Board", "put", "(II)V"⟩ : Cond) ∈ GW := gT 381 (by decide +kernel) (by decide +kernel)
theorem gw_192 : (.instanceMethod ⟨"PlayStates$Board", "put", "(II)V"⟩ : Cond) ∈ GW := gT 218 (by decide +kernel) (by decide +kernel)
theorem gw_193 : (.selects "PlayStates$Board" ⟨"PlayStates$Board", "put", "(II)V"⟩ ⟨"PlayStates$Board", "put", "(II)V"⟩ : Cond) ∈ GW := gT 219 (by decide +kernel) (by decide +kernel)
theorem d_Sr_acceptsMark_0 : decode prog_6_method_7_code 0 = .ok (.iload_n 1, 1) := by decide +kernel
theorem d_Sr_acceptsMark_1 : decode prog_6_method_7_code 1 = .ok (.invokestatic 51, 3) := by decide +kernel
theorem d_Sr_acceptsMark_4 : decode prog_6_method_7_code 4 = .ok (.ifCond .eq 11, 3) := by decide +kernel
theorem d_Sr_acceptsMark_7 : decode prog_6_method_7_code 7 = .ok (.iload_n 1, 1) := by decide +kernel
theorem d_Sr_acceptsMark_8 : decode prog_6_method_7_code 8 = .ok (.aload_n 0, 1) := by decide +kernel
theorem d_Sr_acceptsMark_9 : decode prog_6_method_7_code 9 = .ok (.getfield 48, 3) := by decide +kernel
theorem d_Sr_acceptsMark_12 : decode prog_6_method_7_code 12 = .ok (.if_icmp .gt 5, 3) := by decide +kernel
theorem d_Sr_acceptsMark_15 : decode prog_6_method_7_code 15 = .ok (.iconst 0, 1) := by decide +kernel
theorem d_Sr_acceptsMark_16 : decode prog_6_method_7_code 16 = .ok (.ireturn, 1) := by decide +kernel
theorem d_Sr_acceptsMark_17 : decode prog_6_method_7_code 17 = .ok (.aload_n 0, 1) := by decide +kernel
theorem d_Sr_acceptsMark_18 : decode prog_6_method_7_code 18 = .ok (.getfield 9, 3) := by decide +kernel
theorem d_Sr_acceptsMark_21 : decode prog_6_method_7_code 21 = .ok (.aload_n 0, 1) := by decide +kernel
theorem d_Sr_acceptsMark_22 : decode prog_6_method_7_code 22 = .ok (.getfield 24, 3) := by decide +kernel
theorem d_Sr_acceptsMark_25 : decode prog_6_method_7_code 25 = .ok (.iconst 1, 1) := by decide +kernel
theorem d_Sr_acceptsMark_26 : decode prog_6_method_7_code 26 = .ok (.isub, 1) := by decide +kernel
theorem d_Sr_acceptsMark_27 : decode prog_6_method_7_code 27 = .ok (.bipush 10, 2) := by decide +kernel
theorem d_Sr_acceptsMark_29 : decode prog_6_method_7_code 29 = .ok (.iload_n 1, 1) := by decide +kernel
theorem d_Sr_acceptsMark_30 : decode prog_6_method_7_code 30 = .ok (.iadd, 1) := by decide +kernel
theorem d_Sr_acceptsMark_31 : decode prog_6_method_7_code 31 = .ok (.invokevirtual 54, 3) := by decide +kernel
theorem d_Sr_acceptsMark_34 : decode prog_6_method_7_code 34 = .ok (.aload_n 0, 1) := by decide +kernel
theorem d_Sr_acceptsMark_35 : decode prog_6_method_7_code 35 = .ok (.iload_n 1, 1) := by decide +kernel
theorem d_Sr_acceptsMark_36 : decode prog_6_method_7_code 36 = .ok (.putfield 48, 3) := by decide +kernel
theorem d_Sr_acceptsMark_39 : decode prog_6_method_7_code 39 = .ok (.iconst 1, 1) := by decide +kernel
theorem d_Sr_acceptsMark_40 : decode prog_6_method_7_code 40 = .ok (.ireturn, 1) := by decide +kernel
-- PlayStates$StateReader.acceptsMark(I)Z 
def ws_Sr_acceptsMark (G : gG) (a_t a_t_board a_t_board_entries a_t_board_markBits : Nat) (n : Nat) (x_t_placeCount : Int32) (x_t_placesRead : Int32) (x_t_mayOpen : Int32) (x_t_open : Int32) (x_t_lastMark : Int32) (x_t_board_entries : Nat → Int32) (x_t_board_markBits : Nat → Int32) : va_W := [(a_t, .inr (4, [.ref a_t_board, .int x_t_placeCount, .int x_t_placesRead, .int x_t_mayOpen, .int x_t_open, .int x_t_lastMark])), (a_t_board, .inr (0, [.ref a_t_board_entries, .ref a_t_board_markBits])), (a_t_board_entries, .inl (G.2 0, n, .inl x_t_board_entries)), (a_t_board_markBits, .inl (G.2 0, n, .inl x_t_board_markBits))]
def f_Sr_acceptsMark (n : Nat) (p0 : Int32) (x_t_placeCount : Int32) (x_t_placesRead : Int32) (x_t_mayOpen : Int32) (x_t_open : Int32) (x_t_lastMark : Int32) (x_t_board_entries : Nat → Int32) (x_t_board_markBits : Nat → Int32) : Option (Int32 × Int32 × (Nat → Int32) × (Nat → Int32)) :=
  ((f_PS_isOneToNine p0).bind fun y1 => (if y1 = 0 then some ((0 : Int32), x_t_lastMark, x_t_board_entries, x_t_board_markBits) else (if x_t_lastMark < p0 then ((f_Bd_put n (x_t_placesRead - (1 : Int32)) ((10 : Int32) + p0) x_t_board_entries x_t_board_markBits).bind fun y4 => some ((1 : Int32), p0, y4.1, y4.2)) else some ((0 : Int32), x_t_lastMark, x_t_board_entries, x_t_board_markBits))))
set_option maxHeartbeats 4000000 in
set_option maxRecDepth 100000 in
theorem c_Sr_acceptsMark (l : Launch) (G : gG) (sz : Nat) (a_t a_t_board a_t_board_entries a_t_board_markBits : Nat) (n : Nat) (p0 : Int32) (x_t_placeCount : Int32) (x_t_placesRead : Int32) (x_t_mayOpen : Int32) (x_t_open : Int32) (x_t_lastMark : Int32) (x_t_board_entries : Nat → Int32) (x_t_board_markBits : Nat → Int32) (r : Int32) (x_t_lastMark' : Int32) (x_t_board_entries' : Nat → Int32) (x_t_board_markBits' : Nat → Int32) (h : f_Sr_acceptsMark n p0 x_t_placeCount x_t_placesRead x_t_mayOpen x_t_open x_t_lastMark x_t_board_entries x_t_board_markBits = some (r, x_t_lastMark', x_t_board_entries', x_t_board_markBits'))  : cN l y_Sr_acceptsMark w_Sr_acceptsMark { frames := 1, cells := 0, slots := 0, locals := 22 } G sz [.ref a_t, .int p0] (ws_Sr_acceptsMark G a_t a_t_board a_t_board_entries a_t_board_markBits n x_t_placeCount x_t_placesRead x_t_mayOpen x_t_open x_t_lastMark x_t_board_entries x_t_board_markBits) (some (.int r)) (wB G (ws_Sr_acceptsMark G a_t a_t_board a_t_board_entries a_t_board_markBits n x_t_placeCount x_t_placesRead x_t_mayOpen x_t_open x_t_lastMark' x_t_board_entries' x_t_board_markBits')) 0 0 := by
  refine cN_ofW (cc := prog_6_method_7_code) (maxL := 2) (ret := (some .boolean)) (by decide) rfl (Nat.le_of_ble_eq_true rfl) ?_
  intro p e s m args below meth c A H locs ls hx hb hr hts hown hlocks hin hml hK hN hP hD hA hS hl
  replace hl : lv_has ls 2 [(0, .ref a_t), (1, .int p0)] := hl
  replace hown : s.vm.findClass "PlayStates$StateReader" = some m.cls := hown
  unfold f_Sr_acceptsMark at h
  refine lv_iload_n hx hb d_Sr_acceptsMark_0 rfl (lv_at hl 1 rfl) ?_
  obtain ⟨y1, hy1, h⟩ := o_bind h
  have hPc := hP.sub (ws' := (ws_PS_isOneToNine G)) [] rfl
  have hDc := hD.sub (ws' := (ws_PS_isOneToNine G)) [] (by decide) rfl
  have hFc := va_free (wc := (ws_PS_isOneToNine G)) hD hS hA [] rfl
  refine q_call1 (va_runSN (As := [.int p0]) (rest := []) ⟨hx, hb, hml, hown, hts⟩ (c_PS_isOneToNine l G H.size p0 _ hy1) ⟨va_cnB 1 hts (gC gw_201) rfl rfl rfl (hN.2.1 ("PlayStates$StateReader", 51, y_PS_isOneToNine, "PlayStates") (by decide +kernel)) (hts _ gw_31) (by decide +kernel) ⟨Nat.le_of_ble_eq_true rfl, Nat.le_of_ble_eq_true rfl⟩, hts _ gw_200, trivial⟩ (pS hK hN hPc hDc) rfl rfl hl.1 rfl (lv_room (Nat.le_of_ble_eq_true rfl)) d_Sr_acceptsMark_1 ⟨Nat.le_of_ble_eq_true rfl, Nat.le_of_ble_eq_true rfl⟩) hS (fun q _ h => hFc q h) hFc (fun H1 locs hB hz hk hS => ?_)
  obtain ⟨hP, hD⟩ := q_join (wr := [(a_t, .inr (4, [.ref a_t_board, .int x_t_placeCount, .int x_t_placesRead, .int x_t_mayOpen, .int x_t_open, .int x_t_lastMark])), (a_t_board, .inr (0, [.ref a_t_board_entries, .ref a_t_board_markBits])), (a_t_board_entries, .inl (G.2 0, n, .inl x_t_board_entries)), (a_t_board_markBits, .inl (G.2 0, n, .inl x_t_board_markBits))]) (wn := (ws_Sr_acceptsMark G a_t a_t_board a_t_board_entries a_t_board_markBits n x_t_placeCount x_t_placesRead x_t_mayOpen x_t_open x_t_lastMark x_t_board_entries x_t_board_markBits)) hP hD [] [0, 1, 2, 3] [0, 1, 2, 3] rfl rfl (by decide) (by decide) rfl (by decide) hk hFc hB.1 hB.2
  generalize H1 = H at hP hS ⊢
  replace hP : va_P G.1 vwCl (ws_Sr_acceptsMark G a_t a_t_board a_t_board_entries a_t_board_markBits n x_t_placeCount x_t_placesRead x_t_mayOpen x_t_open x_t_lastMark x_t_board_entries x_t_board_markBits) H := hP
  replace hD : va_D A (ws_Sr_acceptsMark G a_t a_t_board a_t_board_entries a_t_board_markBits n x_t_placeCount x_t_placesRead x_t_mayOpen x_t_open x_t_lastMark x_t_board_entries x_t_board_markBits) := hD
  refine lv_if_eq (tgt := 15) hx hb d_Sr_acceptsMark_4 (by decide) (fun c2 => ?_) (fun c2 => ?_)
  · replace h := (if_pos c2).symm.trans h
    refine lv_iconst (v := (0 : Int32)) hx hb d_Sr_acceptsMark_15 (by decide) ?_
    cases h
    exact q_zretW hx hb hr hlocks (by decide) hP hD hS d_Sr_acceptsMark_16
  · replace h := (if_neg c2).symm.trans h
    refine lv_iload_n hx hb d_Sr_acceptsMark_7 rfl (lv_at hl 1 rfl) ?_
    refine lv_aload_n hx hb d_Sr_acceptsMark_8 rfl (lv_at hl 0 rfl) ?_
    refine va_get (D := G.1) (ci := 4) (v := .int x_t_lastMark) (C := "PlayStates$StateReader") (T := TSr) (N := 6) hx hb hts iw_4 hown hK hP 0 rfl rfl 5 (by decide) (hts _ gw_95) (fun _ h9 => h9) rfl d_Sr_acceptsMark_9 ?_
    refine lv_icmp_gt (tgt := 17) hx hb d_Sr_acceptsMark_12 (by decide) (fun c3 => ?_) (fun c3 => ?_)
    · replace h := (if_pos c3).symm.trans h
      refine lv_aload_n hx hb d_Sr_acceptsMark_17 rfl (lv_at hl 0 rfl) ?_
      refine va_get (D := G.1) (ci := 4) (v := .ref a_t_board) (C := "PlayStates$StateReader") (T := TSr) (N := 6) hx hb hts iw_4 hown hK hP 0 rfl rfl 0 (by decide) (hts _ gw_90) (fun _ h9 => h9) rfl d_Sr_acceptsMark_18 ?_
      refine lv_aload_n hx hb d_Sr_acceptsMark_21 rfl (lv_at hl 0 rfl) ?_
      refine va_get (D := G.1) (ci := 4) (v := .int x_t_placesRead) (C := "PlayStates$StateReader") (T := TSr) (N := 6) hx hb hts iw_4 hown hK hP 0 rfl rfl 2 (by decide) (hts _ gw_92) (fun _ h9 => h9) rfl d_Sr_acceptsMark_22 ?_
      refine lv_iconst (v := (1 : Int32)) hx hb d_Sr_acceptsMark_25 (by decide) ?_
      refine lv_isub hx hb d_Sr_acceptsMark_26 ?_
      refine lv_bipush (v := (10 : Int32)) hx hb d_Sr_acceptsMark_27 (by decide) ?_
      refine lv_iload_n hx hb d_Sr_acceptsMark_29 rfl (lv_at hl 1 rfl) ?_
      refine lv_iadd hx hb d_Sr_acceptsMark_30 ?_
      obtain ⟨y4, hy4, h⟩ := o_bind h
      have hPc := hP.sub (ws' := (ws_Bd_put G a_t_board a_t_board_entries a_t_board_markBits n x_t_board_entries x_t_board_markBits)) [1, 2, 3] rfl
      have hDc := hD.sub (ws' := (ws_Bd_put G a_t_board a_t_board_entries a_t_board_markBits n x_t_board_entries x_t_board_markBits)) [1, 2, 3] (by decide) rfl
      have hFc := va_free (wc := (ws_Bd_put G a_t_board a_t_board_entries a_t_board_markBits n x_t_board_entries x_t_board_markBits)) hD hS hA [1, 2, 3] rfl
      refine q_call0 (va_runV (As := [.int (x_t_placesRead - (1 : Int32)), .int ((10 : Int32) + p0)]) (rest := []) ⟨hx, hb, hml, hown, hts⟩ (c_Bd_put l G H.size a_t_board a_t_board_entries a_t_board_markBits n (x_t_placesRead - (1 : Int32)) ((10 : Int32) + p0) x_t_board_entries x_t_board_markBits _ _ hy4) (cwV 2 hts (gV gw_346 gw_192 gw_193 gw_34 gw_194) rfl rfl rfl (by decide +kernel) ⟨Nat.le_of_ble_eq_true rfl, Nat.le_of_ble_eq_true rfl⟩) (pV hK hN hPc hDc (ci := 0) (q0 := 0) rfl rfl) rfl rfl hl.1 rfl (lv_room (Nat.le_of_ble_eq_true rfl)) d_Sr_acceptsMark_31 ⟨Nat.le_of_ble_eq_true rfl, Nat.le_of_ble_eq_true rfl⟩) hS (fun q _ h => hFc q h) hFc (fun H1 locs hB hz hk hS => ?_)
      obtain ⟨hP, hD⟩ := q_join (wr := [(a_t, .inr (4, [.ref a_t_board, .int x_t_placeCount, .int x_t_placesRead, .int x_t_mayOpen, .int x_t_open, .int x_t_lastMark]))]) (wn := (ws_Sr_acceptsMark G a_t a_t_board a_t_board_entries a_t_board_markBits n x_t_placeCount x_t_placesRead x_t_mayOpen x_t_open x_t_lastMark y4.1 y4.2)) hP hD [1, 2, 3] [0] [0, 1, 2, 3] rfl rfl (by decide) (by decide) rfl (by decide) hk hFc hB.1 hB.2
      generalize H1 = H at hP hS ⊢
      replace hP : va_P G.1 vwCl (ws_Sr_acceptsMark G a_t a_t_board a_t_board_entries a_t_board_markBits n x_t_placeCount x_t_placesRead x_t_mayOpen x_t_open x_t_lastMark y4.1 y4.2) H := hP
      replace hD : va_D A (ws_Sr_acceptsMark G a_t a_t_board a_t_board_entries a_t_board_markBits n x_t_placeCount x_t_placesRead x_t_mayOpen x_t_open x_t_lastMark y4.1 y4.2) := hD
      refine lv_aload_n hx hb d_Sr_acceptsMark_34 rfl (lv_at hl 0 rfl) ?_
      refine lv_iload_n hx hb d_Sr_acceptsMark_35 rfl (lv_at hl 1 rfl) ?_
      refine va_put (D := G.1) (ci := 4) (v := .int p0) (ty := .int) (C := "PlayStates$StateReader") (T := TSr) (N := 6) hx hb hts iw_4 tySr tySr_ok nmSr hown hK hP hD hS 0 rfl rfl 5 (by decide) (hts _ gw_95) (fun _ h9 => h9) rfl (by decide +kernel) (by rfl) (by rfl) (Nat.le_of_ble_eq_true rfl) d_Sr_acceptsMark_36 (fun H locs hP hD hS => ?_)
      replace hP : va_P G.1 vwCl (ws_Sr_acceptsMark G a_t a_t_board a_t_board_entries a_t_board_markBits n x_t_placeCount x_t_placesRead x_t_mayOpen x_t_open p0 y4.1 y4.2) H := hP
      replace hD : va_D A (ws_Sr_acceptsMark G a_t a_t_board a_t_board_entries a_t_board_markBits n x_t_placeCount x_t_placesRead x_t_mayOpen x_t_open p0 y4.1 y4.2) := hD
      refine lv_iconst (v := (1 : Int32)) hx hb d_Sr_acceptsMark_39 (by decide) ?_
      cases h
      exact q_zretW hx hb hr hlocks (by decide) hP hD hS d_Sr_acceptsMark_40
    · replace h := (if_neg c3).symm.trans h
      refine lv_iconst (v := (0 : Int32)) hx hb d_Sr_acceptsMark_15 (by decide) ?_
      cases h
      exact q_zretW hx hb hr hlocks (by decide) hP hD hS d_Sr_acceptsMark_16

theorem d_Sr_acceptsEntry_0 : decode prog_6_method_8_code 0 = .ok (.iload_n 1, 1) := by decide +kernel
theorem d_Sr_acceptsEntry_1 : decode prog_6_method_8_code 1 = .ok (.bipush 46, 2) := by decide +kernel
theorem d_Sr_acceptsEntry_3 : decode prog_6_method_8_code 3 = .ok (.if_icmp .ne 7, 3) := by decide +kernel
theorem d_Sr_acceptsEntry_6 : decode prog_6_method_8_code 6 = .ok (.iconst 0, 1) := by decide +kernel
theorem d_Sr_acceptsEntry_7 : decode prog_6_method_8_code 7 = .ok (.goto 7, 3) := by decide +kernel
theorem d_Sr_acceptsEntry_10 : decode prog_6_method_8_code 10 = .ok (.iload_n 1, 1) := by decide +kernel
theorem d_Sr_acceptsEntry_11 : decode prog_6_method_8_code 11 = .ok (.bipush 48, 2) := by decide +kernel
theorem d_Sr_acceptsEntry_13 : decode prog_6_method_8_code 13 = .ok (.isub, 1) := by decide +kernel
theorem d_Sr_acceptsEntry_14 : decode prog_6_method_8_code 14 = .ok (.istore_n 2, 1) := by decide +kernel
theorem d_Sr_acceptsEntry_15 : decode prog_6_method_8_code 15 = .ok (.aload_n 0, 1) := by decide +kernel
theorem d_Sr_acceptsEntry_16 : decode prog_6_method_8_code 16 = .ok (.getfield 24, 3) := by decide +kernel
theorem d_Sr_acceptsEntry_19 : decode prog_6_method_8_code 19 = .ok (.aload_n 0, 1) := by decide +kernel
theorem d_Sr_acceptsEntry_20 : decode prog_6_method_8_code 20 = .ok (.getfield 15, 3) := by decide +kernel
theorem d_Sr_acceptsEntry_23 : decode prog_6_method_8_code 23 = .ok (.if_icmp .ge 16, 3) := by decide +kernel
theorem d_Sr_acceptsEntry_26 : decode prog_6_method_8_code 26 = .ok (.iload_n 1, 1) := by decide +kernel
theorem d_Sr_acceptsEntry_27 : decode prog_6_method_8_code 27 = .ok (.bipush 46, 2) := by decide +kernel
theorem d_Sr_acceptsEntry_29 : decode prog_6_method_8_code 29 = .ok (.if_icmp .eq 12, 3) := by decide +kernel
theorem d_Sr_acceptsEntry_32 : decode prog_6_method_8_code 32 = .ok (.iload_n 2, 1) := by decide +kernel
theorem d_Sr_acceptsEntry_33 : decode prog_6_method_8_code 33 = .ok (.invokestatic 51, 3) := by decide +kernel
theorem d_Sr_acceptsEntry_36 : decode prog_6_method_8_code 36 = .ok (.ifCond .ne 5, 3) := by decide +kernel
theorem d_Sr_acceptsEntry_39 : decode prog_6_method_8_code 39 = .ok (.iconst 0, 1) := by decide +kernel
theorem d_Sr_acceptsEntry_40 : decode prog_6_method_8_code 40 = .ok (.ireturn, 1) := by decide +kernel
theorem d_Sr_acceptsEntry_41 : decode prog_6_method_8_code 41 = .ok (.aload_n 0, 1) := by decide +kernel
theorem d_Sr_acceptsEntry_42 : decode prog_6_method_8_code 42 = .ok (.getfield 9, 3) := by decide +kernel
theorem d_Sr_acceptsEntry_45 : decode prog_6_method_8_code 45 = .ok (.aload_n 0, 1) := by decide +kernel
theorem d_Sr_acceptsEntry_46 : decode prog_6_method_8_code 46 = .ok (.getfield 24, 3) := by decide +kernel
theorem d_Sr_acceptsEntry_49 : decode prog_6_method_8_code 49 = .ok (.iload_n 2, 1) := by decide +kernel
theorem d_Sr_acceptsEntry_50 : decode prog_6_method_8_code 50 = .ok (.invokevirtual 54, 3) := by decide +kernel
theorem d_Sr_acceptsEntry_53 : decode prog_6_method_8_code 53 = .ok (.aload_n 0, 1) := by decide +kernel
theorem d_Sr_acceptsEntry_54 : decode prog_6_method_8_code 54 = .ok (.dup, 1) := by decide +kernel
theorem d_Sr_acceptsEntry_55 : decode prog_6_method_8_code 55 = .ok (.getfield 24, 3) := by decide +kernel
theorem d_Sr_acceptsEntry_58 : decode prog_6_method_8_code 58 = .ok (.iconst 1, 1) := by decide +kernel
theorem d_Sr_acceptsEntry_59 : decode prog_6_method_8_code 59 = .ok (.iadd, 1) := by decide +kernel
theorem d_Sr_acceptsEntry_60 : decode prog_6_method_8_code 60 = .ok (.putfield 24, 3) := by decide +kernel
theorem d_Sr_acceptsEntry_63 : decode prog_6_method_8_code 63 = .ok (.aload_n 0, 1) := by decide +kernel
theorem d_Sr_acceptsEntry_64 : decode prog_6_method_8_code 64 = .ok (.iconst 1, 1) := by decide +kernel
theorem d_Sr_acceptsEntry_65 : decode prog_6_method_8_code 65 = .ok (.putfield 27, 3) := by decide +kernel
theorem d_Sr_acceptsEntry_68 : decode prog_6_method_8_code 68 = .ok (.iconst 1, 1) := by decide +kernel
theorem d_Sr_acceptsEntry_69 : decode prog_6_method_8_code 69 = .ok (.ireturn, 1) := by decide +kernel
-- PlayStates$StateReader.acceptsEntry(I)Z 
def ws_Sr_acceptsEntry (G : gG) (a_t a_t_board a_t_board_entries a_t_board_markBits : Nat) (n : Nat) (x_t_placeCount : Int32) (x_t_placesRead : Int32) (x_t_mayOpen : Int32) (x_t_open : Int32) (x_t_lastMark : Int32) (x_t_board_entries : Nat → Int32) (x_t_board_markBits : Nat → Int32) : va_W := [(a_t, .inr (4, [.ref a_t_board, .int x_t_placeCount, .int x_t_placesRead, .int x_t_mayOpen, .int x_t_open, .int x_t_lastMark])), (a_t_board, .inr (0, [.ref a_t_board_entries, .ref a_t_board_markBits])), (a_t_board_entries, .inl (G.2 0, n, .inl x_t_board_entries)), (a_t_board_markBits, .inl (G.2 0, n, .inl x_t_board_markBits))]
def f_Sr_acceptsEntry (n : Nat) (p0 : Int32) (x_t_placeCount : Int32) (x_t_placesRead : Int32) (x_t_mayOpen : Int32) (x_t_open : Int32) (x_t_lastMark : Int32) (x_t_board_entries : Nat → Int32) (x_t_board_markBits : Nat → Int32) : Option (Int32 × Int32 × Int32 × (Nat → Int32) × (Nat → Int32)) :=
  (if p0 = (46 : Int32) then (if x_t_placeCount ≤ x_t_placesRead then some ((0 : Int32), x_t_placesRead, x_t_mayOpen, x_t_board_entries, x_t_board_markBits) else (if p0 = (46 : Int32) then ((f_Bd_put n x_t_placesRead (0 : Int32) x_t_board_entries x_t_board_markBits).bind fun y10 => some ((1 : Int32), (x_t_placesRead + (1 : Int32)), (1 : Int32), y10.1, y10.2)) else ((f_PS_isOneToNine (0 : Int32)).bind fun y11 => (if y11 = 0 then some ((0 : Int32), x_t_placesRead, x_t_mayOpen, x_t_board_entries, x_t_board_markBits) else ((f_Bd_put n x_t_placesRead (0 : Int32) x_t_board_entries x_t_board_markBits).bind fun y13 => some ((1 : Int32), (x_t_placesRead + (1 : Int32)), (1 : Int32), y13.1, y13.2)))))) else (if x_t_placeCount ≤ x_t_placesRead then some ((0 : Int32), x_t_placesRead, x_t_mayOpen, x_t_board_entries, x_t_board_markBits) else (if p0 = (46 : Int32) then ((f_Bd_put n x_t_placesRead (p0 - (48 : Int32)) x_t_board_entries x_t_board_markBits).bind fun y4 => some ((1 : Int32), (x_t_placesRead + (1 : Int32)), (1 : Int32), y4.1, y4.2)) else ((f_PS_isOneToNine (p0 - (48 : Int32))).bind fun y5 => (if y5 = 0 then some ((0 : Int32), x_t_placesRead, x_t_mayOpen, x_t_board_entries, x_t_board_markBits) else ((f_Bd_put n x_t_placesRead (p0 - (48 : Int32)) x_t_board_entries x_t_board_markBits).bind fun y7 => some ((1 : Int32), (x_t_placesRead + (1 : Int32)), (1 : Int32), y7.1, y7.2)))))))
set_option maxHeartbeats 4000000 in
set_option maxRecDepth 100000 in
theorem c_Sr_acceptsEntry (l : Launch) (G : gG) (sz : Nat) (a_t a_t_board a_t_board_entries a_t_board_markBits : Nat) (n : Nat) (p0 : Int32) (x_t_placeCount : Int32) (x_t_placesRead : Int32) (x_t_mayOpen : Int32) (x_t_open : Int32) (x_t_lastMark : Int32) (x_t_board_entries : Nat → Int32) (x_t_board_markBits : Nat → Int32) (r : Int32) (x_t_placesRead' : Int32) (x_t_mayOpen' : Int32) (x_t_board_entries' : Nat → Int32) (x_t_board_markBits' : Nat → Int32) (h : f_Sr_acceptsEntry n p0 x_t_placeCount x_t_placesRead x_t_mayOpen x_t_open x_t_lastMark x_t_board_entries x_t_board_markBits = some (r, x_t_placesRead', x_t_mayOpen', x_t_board_entries', x_t_board_markBits'))  : cN l y_Sr_acceptsEntry w_Sr_acceptsEntry { frames := 1, cells := 0, slots := 0, locals := 22 } G sz [.ref a_t, .int p0] (ws_Sr_acceptsEntry G a_t a_t_board a_t_board_entries a_t_board_markBits n x_t_placeCount x_t_placesRead x_t_mayOpen x_t_open x_t_lastMark x_t_board_entries x_t_board_markBits) (some (.int r)) (wB G (ws_Sr_acceptsEntry G a_t a_t_board a_t_board_entries a_t_board_markBits n x_t_placeCount x_t_placesRead' x_t_mayOpen' x_t_open x_t_lastMark x_t_board_entries' x_t_board_markBits')) 0 0 := by
  refine cN_ofW (cc := prog_6_method_8_code) (maxL := 3) (ret := (some .boolean)) (by decide) rfl (Nat.le_of_ble_eq_true rfl) ?_
  intro p e s m args below meth c A H locs ls hx hb hr hts hown hlocks hin hml hK hN hP hD hA hS hl
  replace hl : lv_has ls 3 [(0, .ref a_t), (1, .int p0)] := hl
  replace hown : s.vm.findClass "PlayStates$StateReader" = some m.cls := hown
  unfold f_Sr_acceptsEntry at h
  refine lv_iload_n hx hb d_Sr_acceptsEntry_0 rfl (lv_at hl 1 rfl) ?_
  refine lv_bipush (v := (46 : Int32)) hx hb d_Sr_acceptsEntry_1 (by decide) ?_
  refine lv_icmp_ne (tgt := 10) hx hb d_Sr_acceptsEntry_3 (by decide) (fun c1 => ?_) (fun c1 => ?_)
  · replace h := (if_neg c1).symm.trans h
    refine lv_iload_n hx hb d_Sr_acceptsEntry_10 rfl (lv_at hl 1 rfl) ?_
    refine lv_bipush (v := (48 : Int32)) hx hb d_Sr_acceptsEntry_11 (by decide) ?_
    refine lv_isub hx hb d_Sr_acceptsEntry_13 ?_
    refine lv_istore_n (lv' := [(2, .int (p0 - (48 : Int32))), (0, .ref a_t), (1, .int p0)]) hx hb d_Sr_acceptsEntry_14 rfl hl (by decide) rfl (fun ls hl => ?_)
    refine lv_aload_n hx hb d_Sr_acceptsEntry_15 rfl (lv_at hl 1 rfl) ?_
    refine va_get (D := G.1) (ci := 4) (v := .int x_t_placesRead) (C := "PlayStates$StateReader") (T := TSr) (N := 6) hx hb hts iw_4 hown hK hP 0 rfl rfl 2 (by decide) (hts _ gw_92) (fun _ h9 => h9) rfl d_Sr_acceptsEntry_16 ?_
    refine lv_aload_n hx hb d_Sr_acceptsEntry_19 rfl (lv_at hl 1 rfl) ?_
    refine va_get (D := G.1) (ci := 4) (v := .int x_t_placeCount) (C := "PlayStates$StateReader") (T := TSr) (N := 6) hx hb hts iw_4 hown hK hP 0 rfl rfl 1 (by decide) (hts _ gw_91) (fun _ h9 => h9) rfl d_Sr_acceptsEntry_20 ?_
    refine lv_icmp_ge (tgt := 39) hx hb d_Sr_acceptsEntry_23 (by decide) (fun c2 => ?_) (fun c2 => ?_)
    · replace h := (if_pos c2).symm.trans h
      refine lv_iconst (v := (0 : Int32)) hx hb d_Sr_acceptsEntry_39 (by decide) ?_
      cases h
      exact q_zretW hx hb hr hlocks (by decide) hP hD hS d_Sr_acceptsEntry_40
    · replace h := (if_neg c2).symm.trans h
      refine lv_iload_n hx hb d_Sr_acceptsEntry_26 rfl (lv_at hl 2 rfl) ?_
      refine lv_bipush (v := (46 : Int32)) hx hb d_Sr_acceptsEntry_27 (by decide) ?_
      refine lv_icmp_eq (tgt := 41) hx hb d_Sr_acceptsEntry_29 (by decide) (fun c3 => ?_) (fun c3 => ?_)
      · replace h := (if_pos c3).symm.trans h
        refine lv_aload_n hx hb d_Sr_acceptsEntry_41 rfl (lv_at hl 1 rfl) ?_
        refine va_get (D := G.1) (ci := 4) (v := .ref a_t_board) (C := "PlayStates$StateReader") (T := TSr) (N := 6) hx hb hts iw_4 hown hK hP 0 rfl rfl 0 (by decide) (hts _ gw_90) (fun _ h9 => h9) rfl d_Sr_acceptsEntry_42 ?_
        refine lv_aload_n hx hb d_Sr_acceptsEntry_45 rfl (lv_at hl 1 rfl) ?_
        refine va_get (D := G.1) (ci := 4) (v := .int x_t_placesRead) (C := "PlayStates$StateReader") (T := TSr) (N := 6) hx hb hts iw_4 hown hK hP 0 rfl rfl 2 (by decide) (hts _ gw_92) (fun _ h9 => h9) rfl d_Sr_acceptsEntry_46 ?_
        refine lv_iload_n hx hb d_Sr_acceptsEntry_49 rfl (lv_at hl 0 rfl) ?_
        obtain ⟨y4, hy4, h⟩ := o_bind h
        have hPc := hP.sub (ws' := (ws_Bd_put G a_t_board a_t_board_entries a_t_board_markBits n x_t_board_entries x_t_board_markBits)) [1, 2, 3] rfl
        have hDc := hD.sub (ws' := (ws_Bd_put G a_t_board a_t_board_entries a_t_board_markBits n x_t_board_entries x_t_board_markBits)) [1, 2, 3] (by decide) rfl
        have hFc := va_free (wc := (ws_Bd_put G a_t_board a_t_board_entries a_t_board_markBits n x_t_board_entries x_t_board_markBits)) hD hS hA [1, 2, 3] rfl
        refine q_call0 (va_runV (As := [.int x_t_placesRead, .int (p0 - (48 : Int32))]) (rest := []) ⟨hx, hb, hml, hown, hts⟩ (c_Bd_put l G H.size a_t_board a_t_board_entries a_t_board_markBits n x_t_placesRead (p0 - (48 : Int32)) x_t_board_entries x_t_board_markBits _ _ hy4) (cwV 2 hts (gV gw_346 gw_192 gw_193 gw_34 gw_194) rfl rfl rfl (by decide +kernel) ⟨Nat.le_of_ble_eq_true rfl, Nat.le_of_ble_eq_true rfl⟩) (pV hK hN hPc hDc (ci := 0) (q0 := 0) rfl rfl) rfl rfl hl.1 rfl (lv_room (Nat.le_of_ble_eq_true rfl)) d_Sr_acceptsEntry_50 ⟨Nat.le_of_ble_eq_true rfl, Nat.le_of_ble_eq_true rfl⟩) hS (fun q _ h => hFc q h) hFc (fun H1 locs hB hz hk hS => ?_)
        obtain ⟨hP, hD⟩ := q_join (wr := [(a_t, .inr (4, [.ref a_t_board, .int x_t_placeCount, .int x_t_placesRead, .int x_t_mayOpen, .int x_t_open, .int x_t_lastMark]))]) (wn := (ws_Sr_acceptsEntry G a_t a_t_board a_t_board_entries a_t_board_markBits n x_t_placeCount x_t_placesRead x_t_mayOpen x_t_open x_t_lastMark y4.1 y4.2)) hP hD [1, 2, 3] [0] [0, 1, 2, 3] rfl rfl (by decide) (by decide) rfl (by decide) hk hFc hB.1 hB.2
        generalize H1 = H at hP hS ⊢
        replace hP : va_P G.1 vwCl (ws_Sr_acceptsEntry G a_t a_t_board a_t_board_entries a_t_board_markBits n x_t_placeCount x_t_placesRead x_t_mayOpen x_t_open x_t_lastMark y4.1 y4.2) H := hP
        replace hD : va_D A (ws_Sr_acceptsEntry G a_t a_t_board a_t_board_entries a_t_board_markBits n x_t_placeCount x_t_placesRead x_t_mayOpen x_t_open x_t_lastMark y4.1 y4.2) := hD
        refine lv_aload_n hx hb d_Sr_acceptsEntry_53 rfl (lv_at hl 1 rfl) ?_
        refine lv_dup hx hb d_Sr_acceptsEntry_54 rfl ?_
        refine va_get (D := G.1) (ci := 4) (v := .int x_t_placesRead) (C := "PlayStates$StateReader") (T := TSr) (N := 6) hx hb hts iw_4 hown hK hP 0 rfl rfl 2 (by decide) (hts _ gw_92) (fun _ h9 => h9) rfl d_Sr_acceptsEntry_55 ?_
        refine lv_iconst (v := (1 : Int32)) hx hb d_Sr_acceptsEntry_58 (by decide) ?_
        refine lv_iadd hx hb d_Sr_acceptsEntry_59 ?_
        refine va_put (D := G.1) (ci := 4) (v := .int (x_t_placesRead + (1 : Int32))) (ty := .int) (C := "PlayStates$StateReader") (T := TSr) (N := 6) hx hb hts iw_4 tySr tySr_ok nmSr hown hK hP hD hS 0 rfl rfl 2 (by decide) (hts _ gw_92) (fun _ h9 => h9) rfl (by decide +kernel) (by rfl) (by rfl) (Nat.le_of_ble_eq_true rfl) d_Sr_acceptsEntry_60 (fun H locs hP hD hS => ?_)
        replace hP : va_P G.1 vwCl (ws_Sr_acceptsEntry G a_t a_t_board a_t_board_entries a_t_board_markBits n x_t_placeCount (x_t_placesRead + (1 : Int32)) x_t_mayOpen x_t_open x_t_lastMark y4.1 y4.2) H := hP
        replace hD : va_D A (ws_Sr_acceptsEntry G a_t a_t_board a_t_board_entries a_t_board_markBits n x_t_placeCount (x_t_placesRead + (1 : Int32)) x_t_mayOpen x_t_open x_t_lastMark y4.1 y4.2) := hD
        refine lv_aload_n hx hb d_Sr_acceptsEntry_63 rfl (lv_at hl 1 rfl) ?_
        refine lv_iconst (v := (1 : Int32)) hx hb d_Sr_acceptsEntry_64 (by decide) ?_
        refine va_put (D := G.1) (ci := 4) (v := .int (1 : Int32)) (ty := .boolean) (C := "PlayStates$StateReader") (T := TSr) (N := 6) hx hb hts iw_4 tySr tySr_ok nmSr hown hK hP hD hS 0 rfl rfl 3 (by decide) (hts _ gw_93) (fun _ h9 => h9) rfl (by decide +kernel) (by decide) (by decide) (Nat.le_of_ble_eq_true rfl) d_Sr_acceptsEntry_65 (fun H locs hP hD hS => ?_)
        replace hP : va_P G.1 vwCl (ws_Sr_acceptsEntry G a_t a_t_board a_t_board_entries a_t_board_markBits n x_t_placeCount (x_t_placesRead + (1 : Int32)) (1 : Int32) x_t_open x_t_lastMark y4.1 y4.2) H := hP
        replace hD : va_D A (ws_Sr_acceptsEntry G a_t a_t_board a_t_board_entries a_t_board_markBits n x_t_placeCount (x_t_placesRead + (1 : Int32)) (1 : Int32) x_t_open x_t_lastMark y4.1 y4.2) := hD
        refine lv_iconst (v := (1 : Int32)) hx hb d_Sr_acceptsEntry_68 (by decide) ?_
        cases h
        exact q_zretW hx hb hr hlocks (by decide) hP hD hS d_Sr_acceptsEntry_69
      · replace h := (if_neg c3).symm.trans h
        refine lv_iload_n hx hb d_Sr_acceptsEntry_32 rfl (lv_at hl 0 rfl) ?_
        obtain ⟨y5, hy5, h⟩ := o_bind h
        have hPc := hP.sub (ws' := (ws_PS_isOneToNine G)) [] rfl
        have hDc := hD.sub (ws' := (ws_PS_isOneToNine G)) [] (by decide) rfl
        have hFc := va_free (wc := (ws_PS_isOneToNine G)) hD hS hA [] rfl
        refine q_call1 (va_runSN (As := [.int (p0 - (48 : Int32))]) (rest := []) ⟨hx, hb, hml, hown, hts⟩ (c_PS_isOneToNine l G H.size (p0 - (48 : Int32)) _ hy5) ⟨va_cnB 1 hts (gC gw_201) rfl rfl rfl (hN.2.1 ("PlayStates$StateReader", 51, y_PS_isOneToNine, "PlayStates") (by decide +kernel)) (hts _ gw_31) (by decide +kernel) ⟨Nat.le_of_ble_eq_true rfl, Nat.le_of_ble_eq_true rfl⟩, hts _ gw_200, trivial⟩ (pS hK hN hPc hDc) rfl rfl hl.1 rfl (lv_room (Nat.le_of_ble_eq_true rfl)) d_Sr_acceptsEntry_33 ⟨Nat.le_of_ble_eq_true rfl, Nat.le_of_ble_eq_true rfl⟩) hS (fun q _ h => hFc q h) hFc (fun H1 locs hB hz hk hS => ?_)
        obtain ⟨hP, hD⟩ := q_join (wr := [(a_t, .inr (4, [.ref a_t_board, .int x_t_placeCount, .int x_t_placesRead, .int x_t_mayOpen, .int x_t_open, .int x_t_lastMark])), (a_t_board, .inr (0, [.ref a_t_board_entries, .ref a_t_board_markBits])), (a_t_board_entries, .inl (G.2 0, n, .inl x_t_board_entries)), (a_t_board_markBits, .inl (G.2 0, n, .inl x_t_board_markBits))]) (wn := (ws_Sr_acceptsEntry G a_t a_t_board a_t_board_entries a_t_board_markBits n x_t_placeCount x_t_placesRead x_t_mayOpen x_t_open x_t_lastMark x_t_board_entries x_t_board_markBits)) hP hD [] [0, 1, 2, 3] [0, 1, 2, 3] rfl rfl (by decide) (by decide) rfl (by decide) hk hFc hB.1 hB.2
        generalize H1 = H at hP hS ⊢
        replace hP : va_P G.1 vwCl (ws_Sr_acceptsEntry G a_t a_t_board a_t_board_entries a_t_board_markBits n x_t_placeCount x_t_placesRead x_t_mayOpen x_t_open x_t_lastMark x_t_board_entries x_t_board_markBits) H := hP
        replace hD : va_D A (ws_Sr_acceptsEntry G a_t a_t_board a_t_board_entries a_t_board_markBits n x_t_placeCount x_t_placesRead x_t_mayOpen x_t_open x_t_lastMark x_t_board_entries x_t_board_markBits) := hD
        refine lv_if_ne (tgt := 41) hx hb d_Sr_acceptsEntry_36 (by decide) (fun c6 => ?_) (fun c6 => ?_)
        · replace h := (if_neg c6).symm.trans h
          refine lv_aload_n hx hb d_Sr_acceptsEntry_41 rfl (lv_at hl 1 rfl) ?_
          refine va_get (D := G.1) (ci := 4) (v := .ref a_t_board) (C := "PlayStates$StateReader") (T := TSr) (N := 6) hx hb hts iw_4 hown hK hP 0 rfl rfl 0 (by decide) (hts _ gw_90) (fun _ h9 => h9) rfl d_Sr_acceptsEntry_42 ?_
          refine lv_aload_n hx hb d_Sr_acceptsEntry_45 rfl (lv_at hl 1 rfl) ?_
          refine va_get (D := G.1) (ci := 4) (v := .int x_t_placesRead) (C := "PlayStates$StateReader") (T := TSr) (N := 6) hx hb hts iw_4 hown hK hP 0 rfl rfl 2 (by decide) (hts _ gw_92) (fun _ h9 => h9) rfl d_Sr_acceptsEntry_46 ?_
          refine lv_iload_n hx hb d_Sr_acceptsEntry_49 rfl (lv_at hl 0 rfl) ?_
          obtain ⟨y7, hy7, h⟩ := o_bind h
          have hPc := hP.sub (ws' := (ws_Bd_put G a_t_board a_t_board_entries a_t_board_markBits n x_t_board_entries x_t_board_markBits)) [1, 2, 3] rfl
          have hDc := hD.sub (ws' := (ws_Bd_put G a_t_board a_t_board_entries a_t_board_markBits n x_t_board_entries x_t_board_markBits)) [1, 2, 3] (by decide) rfl
          have hFc := va_free (wc := (ws_Bd_put G a_t_board a_t_board_entries a_t_board_markBits n x_t_board_entries x_t_board_markBits)) hD hS hA [1, 2, 3] rfl
          refine q_call0 (va_runV (As := [.int x_t_placesRead, .int (p0 - (48 : Int32))]) (rest := []) ⟨hx, hb, hml, hown, hts⟩ (c_Bd_put l G H.size a_t_board a_t_board_entries a_t_board_markBits n x_t_placesRead (p0 - (48 : Int32)) x_t_board_entries x_t_board_markBits _ _ hy7) (cwV 2 hts (gV gw_346 gw_192 gw_193 gw_34 gw_194) rfl rfl rfl (by decide +kernel) ⟨Nat.le_of_ble_eq_true rfl, Nat.le_of_ble_eq_true rfl⟩) (pV hK hN hPc hDc (ci := 0) (q0 := 0) rfl rfl) rfl rfl hl.1 rfl (lv_room (Nat.le_of_ble_eq_true rfl)) d_Sr_acceptsEntry_50 ⟨Nat.le_of_ble_eq_true rfl, Nat.le_of_ble_eq_true rfl⟩) hS (fun q _ h => hFc q h) hFc (fun H1 locs hB hz hk hS => ?_)
          obtain ⟨hP, hD⟩ := q_join (wr := [(a_t, .inr (4, [.ref a_t_board, .int x_t_placeCount, .int x_t_placesRead, .int x_t_mayOpen, .int x_t_open, .int x_t_lastMark]))]) (wn := (ws_Sr_acceptsEntry G a_t a_t_board a_t_board_entries a_t_board_markBits n x_t_placeCount x_t_placesRead x_t_mayOpen x_t_open x_t_lastMark y7.1 y7.2)) hP hD [1, 2, 3] [0] [0, 1, 2, 3] rfl rfl (by decide) (by decide) rfl (by decide) hk hFc hB.1 hB.2
          generalize H1 = H at hP hS ⊢
          replace hP : va_P G.1 vwCl (ws_Sr_acceptsEntry G a_t a_t_board a_t_board_entries a_t_board_markBits n x_t_placeCount x_t_placesRead x_t_mayOpen x_t_open x_t_lastMark y7.1 y7.2) H := hP
          replace hD : va_D A (ws_Sr_acceptsEntry G a_t a_t_board a_t_board_entries a_t_board_markBits n x_t_placeCount x_t_placesRead x_t_mayOpen x_t_open x_t_lastMark y7.1 y7.2) := hD
          refine lv_aload_n hx hb d_Sr_acceptsEntry_53 rfl (lv_at hl 1 rfl) ?_
          refine lv_dup hx hb d_Sr_acceptsEntry_54 rfl ?_
          refine va_get (D := G.1) (ci := 4) (v := .int x_t_placesRead) (C := "PlayStates$StateReader") (T := TSr) (N := 6) hx hb hts iw_4 hown hK hP 0 rfl rfl 2 (by decide) (hts _ gw_92) (fun _ h9 => h9) rfl d_Sr_acceptsEntry_55 ?_
          refine lv_iconst (v := (1 : Int32)) hx hb d_Sr_acceptsEntry_58 (by decide) ?_
          refine lv_iadd hx hb d_Sr_acceptsEntry_59 ?_
          refine va_put (D := G.1) (ci := 4) (v := .int (x_t_placesRead + (1 : Int32))) (ty := .int) (C := "PlayStates$StateReader") (T := TSr) (N := 6) hx hb hts iw_4 tySr tySr_ok nmSr hown hK hP hD hS 0 rfl rfl 2 (by decide) (hts _ gw_92) (fun _ h9 => h9) rfl (by decide +kernel) (by rfl) (by rfl) (Nat.le_of_ble_eq_true rfl) d_Sr_acceptsEntry_60 (fun H locs hP hD hS => ?_)
          replace hP : va_P G.1 vwCl (ws_Sr_acceptsEntry G a_t a_t_board a_t_board_entries a_t_board_markBits n x_t_placeCount (x_t_placesRead + (1 : Int32)) x_t_mayOpen x_t_open x_t_lastMark y7.1 y7.2) H := hP
          replace hD : va_D A (ws_Sr_acceptsEntry G a_t a_t_board a_t_board_entries a_t_board_markBits n x_t_placeCount (x_t_placesRead + (1 : Int32)) x_t_mayOpen x_t_open x_t_lastMark y7.1 y7.2) := hD
          refine lv_aload_n hx hb d_Sr_acceptsEntry_63 rfl (lv_at hl 1 rfl) ?_
          refine lv_iconst (v := (1 : Int32)) hx hb d_Sr_acceptsEntry_64 (by decide) ?_
          refine va_put (D := G.1) (ci := 4) (v := .int (1 : Int32)) (ty := .boolean) (C := "PlayStates$StateReader") (T := TSr) (N := 6) hx hb hts iw_4 tySr tySr_ok nmSr hown hK hP hD hS 0 rfl rfl 3 (by decide) (hts _ gw_93) (fun _ h9 => h9) rfl (by decide +kernel) (by decide) (by decide) (Nat.le_of_ble_eq_true rfl) d_Sr_acceptsEntry_65 (fun H locs hP hD hS => ?_)
          replace hP : va_P G.1 vwCl (ws_Sr_acceptsEntry G a_t a_t_board a_t_board_entries a_t_board_markBits n x_t_placeCount (x_t_placesRead + (1 : Int32)) (1 : Int32) x_t_open x_t_lastMark y7.1 y7.2) H := hP
          replace hD : va_D A (ws_Sr_acceptsEntry G a_t a_t_board a_t_board_entries a_t_board_markBits n x_t_placeCount (x_t_placesRead + (1 : Int32)) (1 : Int32) x_t_open x_t_lastMark y7.1 y7.2) := hD
          refine lv_iconst (v := (1 : Int32)) hx hb d_Sr_acceptsEntry_68 (by decide) ?_
          cases h
          exact q_zretW hx hb hr hlocks (by decide) hP hD hS d_Sr_acceptsEntry_69
        · replace h := (if_pos c6).symm.trans h
          refine lv_iconst (v := (0 : Int32)) hx hb d_Sr_acceptsEntry_39 (by decide) ?_
          cases h
          exact q_zretW hx hb hr hlocks (by decide) hP hD hS d_Sr_acceptsEntry_40
  · replace h := (if_pos c1).symm.trans h
    refine lv_iconst (v := (0 : Int32)) hx hb d_Sr_acceptsEntry_6 (by decide) ?_
    refine lv_goto (tgt := 14) hx hb d_Sr_acceptsEntry_7 (by decide) ?_
    refine lv_istore_n (lv' := [(2, .int (0 : Int32)), (0, .ref a_t), (1, .int p0)]) hx hb d_Sr_acceptsEntry_14 rfl hl (by decide) rfl (fun ls hl => ?_)
    refine lv_aload_n hx hb d_Sr_acceptsEntry_15 rfl (lv_at hl 1 rfl) ?_
    refine va_get (D := G.1) (ci := 4) (v := .int x_t_placesRead) (C := "PlayStates$StateReader") (T := TSr) (N := 6) hx hb hts iw_4 hown hK hP 0 rfl rfl 2 (by decide) (hts _ gw_92) (fun _ h9 => h9) rfl d_Sr_acceptsEntry_16 ?_
    refine lv_aload_n hx hb d_Sr_acceptsEntry_19 rfl (lv_at hl 1 rfl) ?_
    refine va_get (D := G.1) (ci := 4) (v := .int x_t_placeCount) (C := "PlayStates$StateReader") (T := TSr) (N := 6) hx hb hts iw_4 hown hK hP 0 rfl rfl 1 (by decide) (hts _ gw_91) (fun _ h9 => h9) rfl d_Sr_acceptsEntry_20 ?_
    refine lv_icmp_ge (tgt := 39) hx hb d_Sr_acceptsEntry_23 (by decide) (fun c8 => ?_) (fun c8 => ?_)
    · replace h := (if_pos c8).symm.trans h
      refine lv_iconst (v := (0 : Int32)) hx hb d_Sr_acceptsEntry_39 (by decide) ?_
      cases h
      exact q_zretW hx hb hr hlocks (by decide) hP hD hS d_Sr_acceptsEntry_40
    · replace h := (if_neg c8).symm.trans h
      refine lv_iload_n hx hb d_Sr_acceptsEntry_26 rfl (lv_at hl 2 rfl) ?_
      refine lv_bipush (v := (46 : Int32)) hx hb d_Sr_acceptsEntry_27 (by decide) ?_
      refine lv_icmp_eq (tgt := 41) hx hb d_Sr_acceptsEntry_29 (by decide) (fun c9 => ?_) (fun c9 => ?_)
      · replace h := (if_pos c9).symm.trans h
        refine lv_aload_n hx hb d_Sr_acceptsEntry_41 rfl (lv_at hl 1 rfl) ?_
        refine va_get (D := G.1) (ci := 4) (v := .ref a_t_board) (C := "PlayStates$StateReader") (T := TSr) (N := 6) hx hb hts iw_4 hown hK hP 0 rfl rfl 0 (by decide) (hts _ gw_90) (fun _ h9 => h9) rfl d_Sr_acceptsEntry_42 ?_
        refine lv_aload_n hx hb d_Sr_acceptsEntry_45 rfl (lv_at hl 1 rfl) ?_
        refine va_get (D := G.1) (ci := 4) (v := .int x_t_placesRead) (C := "PlayStates$StateReader") (T := TSr) (N := 6) hx hb hts iw_4 hown hK hP 0 rfl rfl 2 (by decide) (hts _ gw_92) (fun _ h9 => h9) rfl d_Sr_acceptsEntry_46 ?_
        refine lv_iload_n hx hb d_Sr_acceptsEntry_49 rfl (lv_at hl 0 rfl) ?_
        obtain ⟨y10, hy10, h⟩ := o_bind h
        have hPc := hP.sub (ws' := (ws_Bd_put G a_t_board a_t_board_entries a_t_board_markBits n x_t_board_entries x_t_board_markBits)) [1, 2, 3] rfl
        have hDc := hD.sub (ws' := (ws_Bd_put G a_t_board a_t_board_entries a_t_board_markBits n x_t_board_entries x_t_board_markBits)) [1, 2, 3] (by decide) rfl
        have hFc := va_free (wc := (ws_Bd_put G a_t_board a_t_board_entries a_t_board_markBits n x_t_board_entries x_t_board_markBits)) hD hS hA [1, 2, 3] rfl
        refine q_call0 (va_runV (As := [.int x_t_placesRead, .int (0 : Int32)]) (rest := []) ⟨hx, hb, hml, hown, hts⟩ (c_Bd_put l G H.size a_t_board a_t_board_entries a_t_board_markBits n x_t_placesRead (0 : Int32) x_t_board_entries x_t_board_markBits _ _ hy10) (cwV 2 hts (gV gw_346 gw_192 gw_193 gw_34 gw_194) rfl rfl rfl (by decide +kernel) ⟨Nat.le_of_ble_eq_true rfl, Nat.le_of_ble_eq_true rfl⟩) (pV hK hN hPc hDc (ci := 0) (q0 := 0) rfl rfl) rfl rfl hl.1 rfl (lv_room (Nat.le_of_ble_eq_true rfl)) d_Sr_acceptsEntry_50 ⟨Nat.le_of_ble_eq_true rfl, Nat.le_of_ble_eq_true rfl⟩) hS (fun q _ h => hFc q h) hFc (fun H1 locs hB hz hk hS => ?_)
        obtain ⟨hP, hD⟩ := q_join (wr := [(a_t, .inr (4, [.ref a_t_board, .int x_t_placeCount, .int x_t_placesRead, .int x_t_mayOpen, .int x_t_open, .int x_t_lastMark]))]) (wn := (ws_Sr_acceptsEntry G a_t a_t_board a_t_board_entries a_t_board_markBits n x_t_placeCount x_t_placesRead x_t_mayOpen x_t_open x_t_lastMark y10.1 y10.2)) hP hD [1, 2, 3] [0] [0, 1, 2, 3] rfl rfl (by decide) (by decide) rfl (by decide) hk hFc hB.1 hB.2
        generalize H1 = H at hP hS ⊢
        replace hP : va_P G.1 vwCl (ws_Sr_acceptsEntry G a_t a_t_board a_t_board_entries a_t_board_markBits n x_t_placeCount x_t_placesRead x_t_mayOpen x_t_open x_t_lastMark y10.1 y10.2) H := hP
        replace hD : va_D A (ws_Sr_acceptsEntry G a_t a_t_board a_t_board_entries a_t_board_markBits n x_t_placeCount x_t_placesRead x_t_mayOpen x_t_open x_t_lastMark y10.1 y10.2) := hD
        refine lv_aload_n hx hb d_Sr_acceptsEntry_53 rfl (lv_at hl 1 rfl) ?_
        refine lv_dup hx hb d_Sr_acceptsEntry_54 rfl ?_
        refine va_get (D := G.1) (ci := 4) (v := .int x_t_placesRead) (C := "PlayStates$StateReader") (T := TSr) (N := 6) hx hb hts iw_4 hown hK hP 0 rfl rfl 2 (by decide) (hts _ gw_92) (fun _ h9 => h9) rfl d_Sr_acceptsEntry_55 ?_
        refine lv_iconst (v := (1 : Int32)) hx hb d_Sr_acceptsEntry_58 (by decide) ?_
        refine lv_iadd hx hb d_Sr_acceptsEntry_59 ?_
        refine va_put (D := G.1) (ci := 4) (v := .int (x_t_placesRead + (1 : Int32))) (ty := .int) (C := "PlayStates$StateReader") (T := TSr) (N := 6) hx hb hts iw_4 tySr tySr_ok nmSr hown hK hP hD hS 0 rfl rfl 2 (by decide) (hts _ gw_92) (fun _ h9 => h9) rfl (by decide +kernel) (by rfl) (by rfl) (Nat.le_of_ble_eq_true rfl) d_Sr_acceptsEntry_60 (fun H locs hP hD hS => ?_)
        replace hP : va_P G.1 vwCl (ws_Sr_acceptsEntry G a_t a_t_board a_t_board_entries a_t_board_markBits n x_t_placeCount (x_t_placesRead + (1 : Int32)) x_t_mayOpen x_t_open x_t_lastMark y10.1 y10.2) H := hP
        replace hD : va_D A (ws_Sr_acceptsEntry G a_t a_t_board a_t_board_entries a_t_board_markBits n x_t_placeCount (x_t_placesRead + (1 : Int32)) x_t_mayOpen x_t_open x_t_lastMark y10.1 y10.2) := hD
        refine lv_aload_n hx hb d_Sr_acceptsEntry_63 rfl (lv_at hl 1 rfl) ?_
        refine lv_iconst (v := (1 : Int32)) hx hb d_Sr_acceptsEntry_64 (by decide) ?_
        refine va_put (D := G.1) (ci := 4) (v := .int (1 : Int32)) (ty := .boolean) (C := "PlayStates$StateReader") (T := TSr) (N := 6) hx hb hts iw_4 tySr tySr_ok nmSr hown hK hP hD hS 0 rfl rfl 3 (by decide) (hts _ gw_93) (fun _ h9 => h9) rfl (by decide +kernel) (by decide) (by decide) (Nat.le_of_ble_eq_true rfl) d_Sr_acceptsEntry_65 (fun H locs hP hD hS => ?_)
        replace hP : va_P G.1 vwCl (ws_Sr_acceptsEntry G a_t a_t_board a_t_board_entries a_t_board_markBits n x_t_placeCount (x_t_placesRead + (1 : Int32)) (1 : Int32) x_t_open x_t_lastMark y10.1 y10.2) H := hP
        replace hD : va_D A (ws_Sr_acceptsEntry G a_t a_t_board a_t_board_entries a_t_board_markBits n x_t_placeCount (x_t_placesRead + (1 : Int32)) (1 : Int32) x_t_open x_t_lastMark y10.1 y10.2) := hD
        refine lv_iconst (v := (1 : Int32)) hx hb d_Sr_acceptsEntry_68 (by decide) ?_
        cases h
        exact q_zretW hx hb hr hlocks (by decide) hP hD hS d_Sr_acceptsEntry_69
      · replace h := (if_neg c9).symm.trans h
        refine lv_iload_n hx hb d_Sr_acceptsEntry_32 rfl (lv_at hl 0 rfl) ?_
        obtain ⟨y11, hy11, h⟩ := o_bind h
        have hPc := hP.sub (ws' := (ws_PS_isOneToNine G)) [] rfl
        have hDc := hD.sub (ws' := (ws_PS_isOneToNine G)) [] (by decide) rfl
        have hFc := va_free (wc := (ws_PS_isOneToNine G)) hD hS hA [] rfl
        refine q_call1 (va_runSN (As := [.int (0 : Int32)]) (rest := []) ⟨hx, hb, hml, hown, hts⟩ (c_PS_isOneToNine l G H.size (0 : Int32) _ hy11) ⟨va_cnB 1 hts (gC gw_201) rfl rfl rfl (hN.2.1 ("PlayStates$StateReader", 51, y_PS_isOneToNine, "PlayStates") (by decide +kernel)) (hts _ gw_31) (by decide +kernel) ⟨Nat.le_of_ble_eq_true rfl, Nat.le_of_ble_eq_true rfl⟩, hts _ gw_200, trivial⟩ (pS hK hN hPc hDc) rfl rfl hl.1 rfl (lv_room (Nat.le_of_ble_eq_true rfl)) d_Sr_acceptsEntry_33 ⟨Nat.le_of_ble_eq_true rfl, Nat.le_of_ble_eq_true rfl⟩) hS (fun q _ h => hFc q h) hFc (fun H1 locs hB hz hk hS => ?_)
        obtain ⟨hP, hD⟩ := q_join (wr := [(a_t, .inr (4, [.ref a_t_board, .int x_t_placeCount, .int x_t_placesRead, .int x_t_mayOpen, .int x_t_open, .int x_t_lastMark])), (a_t_board, .inr (0, [.ref a_t_board_entries, .ref a_t_board_markBits])), (a_t_board_entries, .inl (G.2 0, n, .inl x_t_board_entries)), (a_t_board_markBits, .inl (G.2 0, n, .inl x_t_board_markBits))]) (wn := (ws_Sr_acceptsEntry G a_t a_t_board a_t_board_entries a_t_board_markBits n x_t_placeCount x_t_placesRead x_t_mayOpen x_t_open x_t_lastMark x_t_board_entries x_t_board_markBits)) hP hD [] [0, 1, 2, 3] [0, 1, 2, 3] rfl rfl (by decide) (by decide) rfl (by decide) hk hFc hB.1 hB.2
        generalize H1 = H at hP hS ⊢
        replace hP : va_P G.1 vwCl (ws_Sr_acceptsEntry G a_t a_t_board a_t_board_entries a_t_board_markBits n x_t_placeCount x_t_placesRead x_t_mayOpen x_t_open x_t_lastMark x_t_board_entries x_t_board_markBits) H := hP
        replace hD : va_D A (ws_Sr_acceptsEntry G a_t a_t_board a_t_board_entries a_t_board_markBits n x_t_placeCount x_t_placesRead x_t_mayOpen x_t_open x_t_lastMark x_t_board_entries x_t_board_markBits) := hD
        refine lv_if_ne (tgt := 41) hx hb d_Sr_acceptsEntry_36 (by decide) (fun c12 => ?_) (fun c12 => ?_)
        · replace h := (if_neg c12).symm.trans h
          refine lv_aload_n hx hb d_Sr_acceptsEntry_41 rfl (lv_at hl 1 rfl) ?_
          refine va_get (D := G.1) (ci := 4) (v := .ref a_t_board) (C := "PlayStates$StateReader") (T := TSr) (N := 6) hx hb hts iw_4 hown hK hP 0 rfl rfl 0 (by decide) (hts _ gw_90) (fun _ h9 => h9) rfl d_Sr_acceptsEntry_42 ?_
          refine lv_aload_n hx hb d_Sr_acceptsEntry_45 rfl (lv_at hl 1 rfl) ?_
          refine va_get (D := G.1) (ci := 4) (v := .int x_t_placesRead) (C := "PlayStates$StateReader") (T := TSr) (N := 6) hx hb hts iw_4 hown hK hP 0 rfl rfl 2 (by decide) (hts _ gw_92) (fun _ h9 => h9) rfl d_Sr_acceptsEntry_46 ?_
          refine lv_iload_n hx hb d_Sr_acceptsEntry_49 rfl (lv_at hl 0 rfl) ?_
          obtain ⟨y13, hy13, h⟩ := o_bind h
          have hPc := hP.sub (ws' := (ws_Bd_put G a_t_board a_t_board_entries a_t_board_markBits n x_t_board_entries x_t_board_markBits)) [1, 2, 3] rfl
          have hDc := hD.sub (ws' := (ws_Bd_put G a_t_board a_t_board_entries a_t_board_markBits n x_t_board_entries x_t_board_markBits)) [1, 2, 3] (by decide) rfl
          have hFc := va_free (wc := (ws_Bd_put G a_t_board a_t_board_entries a_t_board_markBits n x_t_board_entries x_t_board_markBits)) hD hS hA [1, 2, 3] rfl
          refine q_call0 (va_runV (As := [.int x_t_placesRead, .int (0 : Int32)]) (rest := []) ⟨hx, hb, hml, hown, hts⟩ (c_Bd_put l G H.size a_t_board a_t_board_entries a_t_board_markBits n x_t_placesRead (0 : Int32) x_t_board_entries x_t_board_markBits _ _ hy13) (cwV 2 hts (gV gw_346 gw_192 gw_193 gw_34 gw_194) rfl rfl rfl (by decide +kernel) ⟨Nat.le_of_ble_eq_true rfl, Nat.le_of_ble_eq_true rfl⟩) (pV hK hN hPc hDc (ci := 0) (q0 := 0) rfl rfl) rfl rfl hl.1 rfl (lv_room (Nat.le_of_ble_eq_true rfl)) d_Sr_acceptsEntry_50 ⟨Nat.le_of_ble_eq_true rfl, Nat.le_of_ble_eq_true rfl⟩) hS (fun q _ h => hFc q h) hFc (fun H1 locs hB hz hk hS => ?_)
          obtain ⟨hP, hD⟩ := q_join (wr := [(a_t, .inr (4, [.ref a_t_board, .int x_t_placeCount, .int x_t_placesRead, .int x_t_mayOpen, .int x_t_open, .int x_t_lastMark]))]) (wn := (ws_Sr_acceptsEntry G a_t a_t_board a_t_board_entries a_t_board_markBits n x_t_placeCount x_t_placesRead x_t_mayOpen x_t_open x_t_lastMark y13.1 y13.2)) hP hD [1, 2, 3] [0] [0, 1, 2, 3] rfl rfl (by decide) (by decide) rfl (by decide) hk hFc hB.1 hB.2
          generalize H1 = H at hP hS ⊢
          replace hP : va_P G.1 vwCl (ws_Sr_acceptsEntry G a_t a_t_board a_t_board_entries a_t_board_markBits n x_t_placeCount x_t_placesRead x_t_mayOpen x_t_open x_t_lastMark y13.1 y13.2) H := hP
          replace hD : va_D A (ws_Sr_acceptsEntry G a_t a_t_board a_t_board_entries a_t_board_markBits n x_t_placeCount x_t_placesRead x_t_mayOpen x_t_open x_t_lastMark y13.1 y13.2) := hD
          refine lv_aload_n hx hb d_Sr_acceptsEntry_53 rfl (lv_at hl 1 rfl) ?_
          refine lv_dup hx hb d_Sr_acceptsEntry_54 rfl ?_
          refine va_get (D := G.1) (ci := 4) (v := .int x_t_placesRead) (C := "PlayStates$StateReader") (T := TSr) (N := 6) hx hb hts iw_4 hown hK hP 0 rfl rfl 2 (by decide) (hts _ gw_92) (fun _ h9 => h9) rfl d_Sr_acceptsEntry_55 ?_
          refine lv_iconst (v := (1 : Int32)) hx hb d_Sr_acceptsEntry_58 (by decide) ?_
          refine lv_iadd hx hb d_Sr_acceptsEntry_59 ?_
          refine va_put (D := G.1) (ci := 4) (v := .int (x_t_placesRead + (1 : Int32))) (ty := .int) (C := "PlayStates$StateReader") (T := TSr) (N := 6) hx hb hts iw_4 tySr tySr_ok nmSr hown hK hP hD hS 0 rfl rfl 2 (by decide) (hts _ gw_92) (fun _ h9 => h9) rfl (by decide +kernel) (by rfl) (by rfl) (Nat.le_of_ble_eq_true rfl) d_Sr_acceptsEntry_60 (fun H locs hP hD hS => ?_)
          replace hP : va_P G.1 vwCl (ws_Sr_acceptsEntry G a_t a_t_board a_t_board_entries a_t_board_markBits n x_t_placeCount (x_t_placesRead + (1 : Int32)) x_t_mayOpen x_t_open x_t_lastMark y13.1 y13.2) H := hP
          replace hD : va_D A (ws_Sr_acceptsEntry G a_t a_t_board a_t_board_entries a_t_board_markBits n x_t_placeCount (x_t_placesRead + (1 : Int32)) x_t_mayOpen x_t_open x_t_lastMark y13.1 y13.2) := hD
          refine lv_aload_n hx hb d_Sr_acceptsEntry_63 rfl (lv_at hl 1 rfl) ?_
          refine lv_iconst (v := (1 : Int32)) hx hb d_Sr_acceptsEntry_64 (by decide) ?_
          refine va_put (D := G.1) (ci := 4) (v := .int (1 : Int32)) (ty := .boolean) (C := "PlayStates$StateReader") (T := TSr) (N := 6) hx hb hts iw_4 tySr tySr_ok nmSr hown hK hP hD hS 0 rfl rfl 3 (by decide) (hts _ gw_93) (fun _ h9 => h9) rfl (by decide +kernel) (by decide) (by decide) (Nat.le_of_ble_eq_true rfl) d_Sr_acceptsEntry_65 (fun H locs hP hD hS => ?_)
          replace hP : va_P G.1 vwCl (ws_Sr_acceptsEntry G a_t a_t_board a_t_board_entries a_t_board_markBits n x_t_placeCount (x_t_placesRead + (1 : Int32)) (1 : Int32) x_t_open x_t_lastMark y13.1 y13.2) H := hP
          replace hD : va_D A (ws_Sr_acceptsEntry G a_t a_t_board a_t_board_entries a_t_board_markBits n x_t_placeCount (x_t_placesRead + (1 : Int32)) (1 : Int32) x_t_open x_t_lastMark y13.1 y13.2) := hD
          refine lv_iconst (v := (1 : Int32)) hx hb d_Sr_acceptsEntry_68 (by decide) ?_
          cases h
          exact q_zretW hx hb hr hlocks (by decide) hP hD hS d_Sr_acceptsEntry_69
        · replace h := (if_pos c12).symm.trans h
          refine lv_iconst (v := (0 : Int32)) hx hb d_Sr_acceptsEntry_39 (by decide) ?_
          cases h
          exact q_zretW hx hb hr hlocks (by decide) hP hD hS d_Sr_acceptsEntry_40

theorem gw_352 : (.code ⟨"PlayStates$StateReader", "acceptsEntry", "(I)Z"⟩ prog_6_method_8_code 3 (some .boolean) : Cond) ∈ GW := gT 389 (by decide +kernel) (by decide +kernel)
theorem gw_350 : (.methodLink "PlayStates$StateReader" 45 ⟨"PlayStates$StateReader", "acceptsEntry", "(I)Z"⟩ : Cond) ∈ GW := gT 386 (by decide +kernel) (by decide +kernel)
theorem gw_35 : (.initialized "PlayStates$StateReader" : Cond) ∈ GW := gT 5 (by decide +kernel) (by decide +kernel)
theorem gw_351 : (.instanceMethod ⟨"PlayStates$StateReader", "acceptsEntry", "(I)Z"⟩ : Cond) ∈ GW := gT 388 (by decide +kernel) (by decide +kernel)
theorem gw_14 : (.selects "PlayStates$StateReader" ⟨"PlayStates$StateReader", "acceptsEntry", "(I)Z"⟩ ⟨"PlayStates$StateReader", "acceptsEntry", "(I)Z"⟩ : Cond) ∈ GW := gP 14 (by decide +kernel) (by decide +kernel)
theorem gw_349 : (.code ⟨"PlayStates$StateReader", "acceptsOpening", "()Z"⟩ prog_6_method_5_code 1 (some .boolean) : Cond) ∈ GW := gT 385 (by decide +kernel) (by decide +kernel)
theorem gw_347 : (.methodLink "PlayStates$StateReader" 42 ⟨"PlayStates$StateReader", "acceptsOpening", "()Z"⟩ : Cond) ∈ GW := gT 382 (by decide +kernel) (by decide +kernel)
theorem gw_348 : (.instanceMethod ⟨"PlayStates$StateReader", "acceptsOpening", "()Z"⟩ : Cond) ∈ GW := gT 384 (by decide +kernel) (by decide +kernel)
theorem gw_13 : (.selects "PlayStates$StateReader" ⟨"PlayStates$StateReader", "acceptsOpening", "()Z"⟩ ⟨"PlayStates$StateReader", "acceptsOpening", "()Z"⟩ : Cond) ∈ GW := gP 13 (by decide +kernel) (by decide +kernel)
theorem gw_345 : (.code ⟨"PlayStates$StateReader", "acceptsMark", "(I)Z"⟩ prog_6_method_7_code 2 (some .boolean) : Cond) ∈ GW := gT 379 (by decide +kernel) (by decide +kernel)
theorem gw_343 : (.methodLink "PlayStates$StateReader" 38 ⟨"PlayStates$StateReader", "acceptsMark", "(I)Z"⟩ : Cond) ∈ GW := gT 376 (by decide +kernel) (by decide +kernel)
theorem gw_344 : (.instanceMethod ⟨"PlayStates$StateReader", "acceptsMark", "(I)Z"⟩ : Cond) ∈ GW := gT 378 (by decide +kernel) (by decide +kernel)
theorem gw_12 : (.selects "PlayStates$StateReader" ⟨"PlayStates$StateReader", "acceptsMark", "(I)Z"⟩ ⟨"PlayStates$StateReader", "acceptsMark", "(I)Z"⟩ : Cond) ∈ GW := gP 12 (by decide +kernel) (by decide +kernel)
theorem gw_342 : (.code ⟨"PlayStates$StateReader", "acceptsClosing", "()Z"⟩ prog_6_method_6_code 1 (some .boolean) : Cond) ∈ GW := gT 375 (by decide +kernel) (by decide +kernel)
theorem gw_340 : (.methodLink "PlayStates$StateReader" 34 ⟨"PlayStates$StateReader", "acceptsClosing", "()Z"⟩ : Cond) ∈ GW := gT 372 (by decide +kernel) (by decide +kernel)
theorem gw_341 : (.instanceMethod ⟨"PlayStates$StateReader", "acceptsClosing", "()Z"⟩ : Cond) ∈ GW := gT 374 (by decide +kernel) (by decide +kernel)
theorem gw_11 : (.selects "PlayStates$StateReader" ⟨"PlayStates$StateReader", "acceptsClosing", "()Z"⟩ ⟨"PlayStates$StateReader", "acceptsClosing", "()Z"⟩ : Cond) ∈ GW := gP 11 (by decide +kernel) (by decide +kernel)
theorem d_Sr_accepts_0 : decode prog_6_method_3_code 0 = .ok (.aload_n 0, 1) := by decide +kernel
theorem d_Sr_accepts_1 : decode prog_6_method_3_code 1 = .ok (.getfield 31, 3) := by decide +kernel
theorem d_Sr_accepts_4 : decode prog_6_method_3_code 4 = .ok (.ifCond .eq 25, 3) := by decide +kernel
theorem d_Sr_accepts_7 : decode prog_6_method_3_code 7 = .ok (.iload_n 1, 1) := by decide +kernel
theorem d_Sr_accepts_8 : decode prog_6_method_3_code 8 = .ok (.bipush 41, 2) := by decide +kernel
theorem d_Sr_accepts_10 : decode prog_6_method_3_code 10 = .ok (.if_icmp .ne 10, 3) := by decide +kernel
theorem d_Sr_accepts_13 : decode prog_6_method_3_code 13 = .ok (.aload_n 0, 1) := by decide +kernel
theorem d_Sr_accepts_14 : decode prog_6_method_3_code 14 = .ok (.invokevirtual 34, 3) := by decide +kernel
theorem d_Sr_accepts_17 : decode prog_6_method_3_code 17 = .ok (.goto 11, 3) := by decide +kernel
theorem d_Sr_accepts_20 : decode prog_6_method_3_code 20 = .ok (.aload_n 0, 1) := by decide +kernel
theorem d_Sr_accepts_21 : decode prog_6_method_3_code 21 = .ok (.iload_n 1, 1) := by decide +kernel
theorem d_Sr_accepts_22 : decode prog_6_method_3_code 22 = .ok (.bipush 48, 2) := by decide +kernel
theorem d_Sr_accepts_24 : decode prog_6_method_3_code 24 = .ok (.isub, 1) := by decide +kernel
theorem d_Sr_accepts_25 : decode prog_6_method_3_code 25 = .ok (.invokevirtual 38, 3) := by decide +kernel
theorem d_Sr_accepts_28 : decode prog_6_method_3_code 28 = .ok (.ireturn, 1) := by decide +kernel
theorem d_Sr_accepts_29 : decode prog_6_method_3_code 29 = .ok (.iload_n 1, 1) := by decide +kernel
theorem d_Sr_accepts_30 : decode prog_6_method_3_code 30 = .ok (.bipush 40, 2) := by decide +kernel
theorem d_Sr_accepts_32 : decode prog_6_method_3_code 32 = .ok (.if_icmp .ne 8, 3) := by decide +kernel
theorem d_Sr_accepts_35 : decode prog_6_method_3_code 35 = .ok (.aload_n 0, 1) := by decide +kernel
theorem d_Sr_accepts_36 : decode prog_6_method_3_code 36 = .ok (.invokevirtual 42, 3) := by decide +kernel
theorem d_Sr_accepts_39 : decode prog_6_method_3_code 39 = .ok (.ireturn, 1) := by decide +kernel
theorem d_Sr_accepts_40 : decode prog_6_method_3_code 40 = .ok (.aload_n 0, 1) := by decide +kernel
theorem d_Sr_accepts_41 : decode prog_6_method_3_code 41 = .ok (.iload_n 1, 1) := by decide +kernel
theorem d_Sr_accepts_42 : decode prog_6_method_3_code 42 = .ok (.invokevirtual 45, 3) := by decide +kernel
theorem d_Sr_accepts_45 : decode prog_6_method_3_code 45 = .ok (.ireturn, 1) := by decide +kernel
-- PlayStates$StateReader.accepts(I)Z 
def ws_Sr_accepts (G : gG) (a_t a_t_board a_t_board_entries a_t_board_markBits : Nat) (n : Nat) (x_t_placeCount : Int32) (x_t_placesRead : Int32) (x_t_mayOpen : Int32) (x_t_open : Int32) (x_t_lastMark : Int32) (x_t_board_entries : Nat → Int32) (x_t_board_markBits : Nat → Int32) : va_W := [(a_t, .inr (4, [.ref a_t_board, .int x_t_placeCount, .int x_t_placesRead, .int x_t_mayOpen, .int x_t_open, .int x_t_lastMark])), (a_t_board, .inr (0, [.ref a_t_board_entries, .ref a_t_board_markBits])), (a_t_board_entries, .inl (G.2 0, n, .inl x_t_board_entries)), (a_t_board_markBits, .inl (G.2 0, n, .inl x_t_board_markBits))]
def f_Sr_accepts (n : Nat) (p0 : Int32) (x_t_placeCount : Int32) (x_t_placesRead : Int32) (x_t_mayOpen : Int32) (x_t_open : Int32) (x_t_lastMark : Int32) (x_t_board_entries : Nat → Int32) (x_t_board_markBits : Nat → Int32) : Option (Int32 × Int32 × Int32 × Int32 × Int32 × (Nat → Int32) × (Nat → Int32)) :=
  (if x_t_open = 0 then (if p0 = (40 : Int32) then ((f_Sr_acceptsOpening x_t_placeCount x_t_placesRead x_t_mayOpen x_t_open x_t_lastMark).bind fun y5 => (if (y5.1 = 0 ∨ y5.1 = 1) then some (y5.1, x_t_placesRead, y5.2.1, y5.2.2.1, y5.2.2.2, x_t_board_entries, x_t_board_markBits) else none)) else ((f_Sr_acceptsEntry n p0 x_t_placeCount x_t_placesRead x_t_mayOpen x_t_open x_t_lastMark x_t_board_entries x_t_board_markBits).bind fun y3 => (if (y3.1 = 0 ∨ y3.1 = 1) then some (y3.1, y3.2.1, y3.2.2.1, x_t_open, x_t_lastMark, y3.2.2.2.1, y3.2.2.2.2) else none))) else (if p0 = (41 : Int32) then ((f_Sr_acceptsClosing x_t_placeCount x_t_placesRead x_t_mayOpen x_t_open x_t_lastMark).bind fun y10 => (if (y10.1 = 0 ∨ y10.1 = 1) then some (y10.1, x_t_placesRead, x_t_mayOpen, y10.2, x_t_lastMark, x_t_board_entries, x_t_board_markBits) else none)) else ((f_Sr_acceptsMark n (p0 - (48 : Int32)) x_t_placeCount x_t_placesRead x_t_mayOpen x_t_open x_t_lastMark x_t_board_entries x_t_board_markBits).bind fun y8 => (if (y8.1 = 0 ∨ y8.1 = 1) then some (y8.1, x_t_placesRead, x_t_mayOpen, x_t_open, y8.2.1, y8.2.2.1, y8.2.2.2) else none))))
set_option maxHeartbeats 4000000 in
set_option maxRecDepth 100000 in
theorem c_Sr_accepts (l : Launch) (G : gG) (sz : Nat) (a_t a_t_board a_t_board_entries a_t_board_markBits : Nat) (n : Nat) (p0 : Int32) (x_t_placeCount : Int32) (x_t_placesRead : Int32) (x_t_mayOpen : Int32) (x_t_open : Int32) (x_t_lastMark : Int32) (x_t_board_entries : Nat → Int32) (x_t_board_markBits : Nat → Int32) (r : Int32) (x_t_placesRead' : Int32) (x_t_mayOpen' : Int32) (x_t_open' : Int32) (x_t_lastMark' : Int32) (x_t_board_entries' : Nat → Int32) (x_t_board_markBits' : Nat → Int32) (h : f_Sr_accepts n p0 x_t_placeCount x_t_placesRead x_t_mayOpen x_t_open x_t_lastMark x_t_board_entries x_t_board_markBits = some (r, x_t_placesRead', x_t_mayOpen', x_t_open', x_t_lastMark', x_t_board_entries', x_t_board_markBits'))  : cN l y_Sr_accepts w_Sr_accepts { frames := 2, cells := 0, slots := 0, locals := 44 } G sz [.ref a_t, .int p0] (ws_Sr_accepts G a_t a_t_board a_t_board_entries a_t_board_markBits n x_t_placeCount x_t_placesRead x_t_mayOpen x_t_open x_t_lastMark x_t_board_entries x_t_board_markBits) (some (.int r)) (wB G (ws_Sr_accepts G a_t a_t_board a_t_board_entries a_t_board_markBits n x_t_placeCount x_t_placesRead' x_t_mayOpen' x_t_open' x_t_lastMark' x_t_board_entries' x_t_board_markBits')) 0 0 := by
  refine cN_ofW (cc := prog_6_method_3_code) (maxL := 2) (ret := (some .boolean)) (by decide) rfl (Nat.le_of_ble_eq_true rfl) ?_
  intro p e s m args below meth c A H locs ls hx hb hr hts hown hlocks hin hml hK hN hP hD hA hS hl
  replace hl : lv_has ls 2 [(0, .ref a_t), (1, .int p0)] := hl
  replace hown : s.vm.findClass "PlayStates$StateReader" = some m.cls := hown
  unfold f_Sr_accepts at h
  refine lv_aload_n hx hb d_Sr_accepts_0 rfl (lv_at hl 0 rfl) ?_
  refine va_get (D := G.1) (ci := 4) (v := .int x_t_open) (C := "PlayStates$StateReader") (T := TSr) (N := 6) hx hb hts iw_4 hown hK hP 0 rfl rfl 4 (by decide) (hts _ gw_94) (fun _ h9 => h9) rfl d_Sr_accepts_1 ?_
  refine lv_if_eq (tgt := 29) hx hb d_Sr_accepts_4 (by decide) (fun c1 => ?_) (fun c1 => ?_)
  · replace h := (if_pos c1).symm.trans h
    refine lv_iload_n hx hb d_Sr_accepts_29 rfl (lv_at hl 1 rfl) ?_
    refine lv_bipush (v := (40 : Int32)) hx hb d_Sr_accepts_30 (by decide) ?_
    refine lv_icmp_ne (tgt := 40) hx hb d_Sr_accepts_32 (by decide) (fun c2 => ?_) (fun c2 => ?_)
    · replace h := (if_neg c2).symm.trans h
      refine lv_aload_n hx hb d_Sr_accepts_40 rfl (lv_at hl 0 rfl) ?_
      refine lv_iload_n hx hb d_Sr_accepts_41 rfl (lv_at hl 1 rfl) ?_
      obtain ⟨y3, hy3, h⟩ := o_bind h
      have hPc := hP.sub (ws' := (ws_Sr_acceptsEntry G a_t a_t_board a_t_board_entries a_t_board_markBits n x_t_placeCount x_t_placesRead x_t_mayOpen x_t_open x_t_lastMark x_t_board_entries x_t_board_markBits)) [0, 1, 2, 3] rfl
      have hDc := hD.sub (ws' := (ws_Sr_acceptsEntry G a_t a_t_board a_t_board_entries a_t_board_markBits n x_t_placeCount x_t_placesRead x_t_mayOpen x_t_open x_t_lastMark x_t_board_entries x_t_board_markBits)) [0, 1, 2, 3] (by decide) rfl
      have hFc := va_free (wc := (ws_Sr_acceptsEntry G a_t a_t_board a_t_board_entries a_t_board_markBits n x_t_placeCount x_t_placesRead x_t_mayOpen x_t_open x_t_lastMark x_t_board_entries x_t_board_markBits)) hD hS hA [0, 1, 2, 3] rfl
      refine q_call1 (va_runV (As := [.int p0]) (rest := []) ⟨hx, hb, hml, hown, hts⟩ (c_Sr_acceptsEntry l G H.size a_t a_t_board a_t_board_entries a_t_board_markBits n p0 x_t_placeCount x_t_placesRead x_t_mayOpen x_t_open x_t_lastMark x_t_board_entries x_t_board_markBits _ _ _ _ _ hy3) (cwV 1 hts (gV gw_350 gw_351 gw_14 gw_35 gw_352) rfl rfl rfl (by decide +kernel) ⟨Nat.le_of_ble_eq_true rfl, Nat.le_of_ble_eq_true rfl⟩) (pV hK hN hPc hDc (ci := 4) (q0 := 0) rfl rfl) rfl rfl hl.1 rfl (lv_room (Nat.le_of_ble_eq_true rfl)) d_Sr_accepts_42 ⟨Nat.le_of_ble_eq_true rfl, Nat.le_of_ble_eq_true rfl⟩) hS (fun q _ h => hFc q h) hFc (fun H1 locs hB hz hk hS => ?_)
      obtain ⟨hP, hD⟩ := q_joinA hFc hB.1 hB.2
      generalize H1 = H at hP hS ⊢
      replace hP : va_P G.1 vwCl (ws_Sr_accepts G a_t a_t_board a_t_board_entries a_t_board_markBits n x_t_placeCount y3.2.1 y3.2.2.1 x_t_open x_t_lastMark y3.2.2.2.1 y3.2.2.2.2) H := hP
      replace hD : va_D A (ws_Sr_accepts G a_t a_t_board a_t_board_entries a_t_board_markBits n x_t_placeCount y3.2.1 y3.2.2.1 x_t_open x_t_lastMark y3.2.2.2.1 y3.2.2.2.2) := hD
      obtain ⟨b4, h⟩ := o_if h
      cases h
      exact q_zretW hx hb hr hlocks (bool01 b4).1 hP hD hS d_Sr_accepts_45
    · replace h := (if_pos c2).symm.trans h
      refine lv_aload_n hx hb d_Sr_accepts_35 rfl (lv_at hl 0 rfl) ?_
      obtain ⟨y5, hy5, h⟩ := o_bind h
      have hPc := hP.sub (ws' := (ws_Sr_acceptsOpening G a_t a_t_board x_t_placeCount x_t_placesRead x_t_mayOpen x_t_open x_t_lastMark)) [0] rfl
      have hDc := hD.sub (ws' := (ws_Sr_acceptsOpening G a_t a_t_board x_t_placeCount x_t_placesRead x_t_mayOpen x_t_open x_t_lastMark)) [0] (by decide) rfl
      have hFc := va_free (wc := (ws_Sr_acceptsOpening G a_t a_t_board x_t_placeCount x_t_placesRead x_t_mayOpen x_t_open x_t_lastMark)) hD hS hA [0] rfl
      refine q_call1 (va_runV (As := []) (rest := []) ⟨hx, hb, hml, hown, hts⟩ (c_Sr_acceptsOpening l G H.size a_t a_t_board x_t_placeCount x_t_placesRead x_t_mayOpen x_t_open x_t_lastMark _ _ _ _ hy5) (cwV 0 hts (gV gw_347 gw_348 gw_13 gw_35 gw_349) rfl rfl rfl (by decide +kernel) ⟨Nat.le_of_ble_eq_true rfl, Nat.le_of_ble_eq_true rfl⟩) (pV hK hN hPc hDc (ci := 4) (q0 := 0) rfl rfl) rfl rfl hl.1 rfl (lv_room (Nat.le_of_ble_eq_true rfl)) d_Sr_accepts_36 ⟨Nat.le_of_ble_eq_true rfl, Nat.le_of_ble_eq_true rfl⟩) hS (fun q _ h => hFc q h) hFc (fun H1 locs hB hz hk hS => ?_)
      obtain ⟨hP, hD⟩ := q_join (wr := [(a_t_board, .inr (0, [.ref a_t_board_entries, .ref a_t_board_markBits])), (a_t_board_entries, .inl (G.2 0, n, .inl x_t_board_entries)), (a_t_board_markBits, .inl (G.2 0, n, .inl x_t_board_markBits))]) (wn := (ws_Sr_accepts G a_t a_t_board a_t_board_entries a_t_board_markBits n x_t_placeCount x_t_placesRead y5.2.1 y5.2.2.1 y5.2.2.2 x_t_board_entries x_t_board_markBits)) hP hD [0] [1, 2, 3] [3, 0, 1, 2] rfl rfl (by decide) (by decide) rfl (by decide) hk hFc hB.1 hB.2
      generalize H1 = H at hP hS ⊢
      replace hP : va_P G.1 vwCl (ws_Sr_accepts G a_t a_t_board a_t_board_entries a_t_board_markBits n x_t_placeCount x_t_placesRead y5.2.1 y5.2.2.1 y5.2.2.2 x_t_board_entries x_t_board_markBits) H := hP
      replace hD : va_D A (ws_Sr_accepts G a_t a_t_board a_t_board_entries a_t_board_markBits n x_t_placeCount x_t_placesRead y5.2.1 y5.2.2.1 y5.2.2.2 x_t_board_entries x_t_board_markBits) := hD
      obtain ⟨b6, h⟩ := o_if h
      cases h
      exact q_zretW hx hb hr hlocks (bool01 b6).1 hP hD hS d_Sr_accepts_39
  · replace h := (if_neg c1).symm.trans h
    refine lv_iload_n hx hb d_Sr_accepts_7 rfl (lv_at hl 1 rfl) ?_
    refine lv_bipush (v := (41 : Int32)) hx hb d_Sr_accepts_8 (by decide) ?_
    refine lv_icmp_ne (tgt := 20) hx hb d_Sr_accepts_10 (by decide) (fun c7 => ?_) (fun c7 => ?_)
    · replace h := (if_neg c7).symm.trans h
      refine lv_aload_n hx hb d_Sr_accepts_20 rfl (lv_at hl 0 rfl) ?_
      refine lv_iload_n hx hb d_Sr_accepts_21 rfl (lv_at hl 1 rfl) ?_
      refine lv_bipush (v := (48 : Int32)) hx hb d_Sr_accepts_22 (by decide) ?_
      refine lv_isub hx hb d_Sr_accepts_24 ?_
      obtain ⟨y8, hy8, h⟩ := o_bind h
      have hPc := hP.sub (ws' := (ws_Sr_acceptsMark G a_t a_t_board a_t_board_entries a_t_board_markBits n x_t_placeCount x_t_placesRead x_t_mayOpen x_t_open x_t_lastMark x_t_board_entries x_t_board_markBits)) [0, 1, 2, 3] rfl
      have hDc := hD.sub (ws' := (ws_Sr_acceptsMark G a_t a_t_board a_t_board_entries a_t_board_markBits n x_t_placeCount x_t_placesRead x_t_mayOpen x_t_open x_t_lastMark x_t_board_entries x_t_board_markBits)) [0, 1, 2, 3] (by decide) rfl
      have hFc := va_free (wc := (ws_Sr_acceptsMark G a_t a_t_board a_t_board_entries a_t_board_markBits n x_t_placeCount x_t_placesRead x_t_mayOpen x_t_open x_t_lastMark x_t_board_entries x_t_board_markBits)) hD hS hA [0, 1, 2, 3] rfl
      refine q_call1 (va_runV (As := [.int (p0 - (48 : Int32))]) (rest := []) ⟨hx, hb, hml, hown, hts⟩ (c_Sr_acceptsMark l G H.size a_t a_t_board a_t_board_entries a_t_board_markBits n (p0 - (48 : Int32)) x_t_placeCount x_t_placesRead x_t_mayOpen x_t_open x_t_lastMark x_t_board_entries x_t_board_markBits _ _ _ _ hy8) (cwV 1 hts (gV gw_343 gw_344 gw_12 gw_35 gw_345) rfl rfl rfl (by decide +kernel) ⟨Nat.le_of_ble_eq_true rfl, Nat.le_of_ble_eq_true rfl⟩) (pV hK hN hPc hDc (ci := 4) (q0 := 0) rfl rfl) rfl rfl hl.1 rfl (lv_room (Nat.le_of_ble_eq_true rfl)) d_Sr_accepts_25 ⟨Nat.le_of_ble_eq_true rfl, Nat.le_of_ble_eq_true rfl⟩) hS (fun q _ h => hFc q h) hFc (fun H1 locs hB hz hk hS => ?_)
      obtain ⟨hP, hD⟩ := q_joinA hFc hB.1 hB.2
      generalize H1 = H at hP hS ⊢
      replace hP : va_P G.1 vwCl (ws_Sr_accepts G a_t a_t_board a_t_board_entries a_t_board_markBits n x_t_placeCount x_t_placesRead x_t_mayOpen x_t_open y8.2.1 y8.2.2.1 y8.2.2.2) H := hP
      replace hD : va_D A (ws_Sr_accepts G a_t a_t_board a_t_board_entries a_t_board_markBits n x_t_placeCount x_t_placesRead x_t_mayOpen x_t_open y8.2.1 y8.2.2.1 y8.2.2.2) := hD
      obtain ⟨b9, h⟩ := o_if h
      cases h
      exact q_zretW hx hb hr hlocks (bool01 b9).1 hP hD hS d_Sr_accepts_28
    · replace h := (if_pos c7).symm.trans h
      refine lv_aload_n hx hb d_Sr_accepts_13 rfl (lv_at hl 0 rfl) ?_
      obtain ⟨y10, hy10, h⟩ := o_bind h
      have hPc := hP.sub (ws' := (ws_Sr_acceptsClosing G a_t a_t_board x_t_placeCount x_t_placesRead x_t_mayOpen x_t_open x_t_lastMark)) [0] rfl
      have hDc := hD.sub (ws' := (ws_Sr_acceptsClosing G a_t a_t_board x_t_placeCount x_t_placesRead x_t_mayOpen x_t_open x_t_lastMark)) [0] (by decide) rfl
      have hFc := va_free (wc := (ws_Sr_acceptsClosing G a_t a_t_board x_t_placeCount x_t_placesRead x_t_mayOpen x_t_open x_t_lastMark)) hD hS hA [0] rfl
      refine q_call1 (va_runV (As := []) (rest := []) ⟨hx, hb, hml, hown, hts⟩ (c_Sr_acceptsClosing l G H.size a_t a_t_board x_t_placeCount x_t_placesRead x_t_mayOpen x_t_open x_t_lastMark _ _ hy10) (cwV 0 hts (gV gw_340 gw_341 gw_11 gw_35 gw_342) rfl rfl rfl (by decide +kernel) ⟨Nat.le_of_ble_eq_true rfl, Nat.le_of_ble_eq_true rfl⟩) (pV hK hN hPc hDc (ci := 4) (q0 := 0) rfl rfl) rfl rfl hl.1 rfl (lv_room (Nat.le_of_ble_eq_true rfl)) d_Sr_accepts_14 ⟨Nat.le_of_ble_eq_true rfl, Nat.le_of_ble_eq_true rfl⟩) hS (fun q _ h => hFc q h) hFc (fun H1 locs hB hz hk hS => ?_)
      obtain ⟨hP, hD⟩ := q_join (wr := [(a_t_board, .inr (0, [.ref a_t_board_entries, .ref a_t_board_markBits])), (a_t_board_entries, .inl (G.2 0, n, .inl x_t_board_entries)), (a_t_board_markBits, .inl (G.2 0, n, .inl x_t_board_markBits))]) (wn := (ws_Sr_accepts G a_t a_t_board a_t_board_entries a_t_board_markBits n x_t_placeCount x_t_placesRead x_t_mayOpen y10.2 x_t_lastMark x_t_board_entries x_t_board_markBits)) hP hD [0] [1, 2, 3] [3, 0, 1, 2] rfl rfl (by decide) (by decide) rfl (by decide) hk hFc hB.1 hB.2
      generalize H1 = H at hP hS ⊢
      replace hP : va_P G.1 vwCl (ws_Sr_accepts G a_t a_t_board a_t_board_entries a_t_board_markBits n x_t_placeCount x_t_placesRead x_t_mayOpen y10.2 x_t_lastMark x_t_board_entries x_t_board_markBits) H := hP
      replace hD : va_D A (ws_Sr_accepts G a_t a_t_board a_t_board_entries a_t_board_markBits n x_t_placeCount x_t_placesRead x_t_mayOpen y10.2 x_t_lastMark x_t_board_entries x_t_board_markBits) := hD
      refine lv_goto (tgt := 28) hx hb d_Sr_accepts_17 (by decide) ?_
      obtain ⟨b11, h⟩ := o_if h
      cases h
      exact q_zretW hx hb hr hlocks (bool01 b11).1 hP hD hS d_Sr_accepts_28
end
