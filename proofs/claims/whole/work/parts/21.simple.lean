theorem gw_165 : (.code ⟨"PlayStates", "find", "(I)LPlayStates$Person;"⟩ prog_1_method_25_code 2 (some (.object "PlayStates$Person")) : Cond) ∈ GW := gT 189 (by decide +kernel) (by decide +kernel)
theorem gw_163 : (.methodLink "PlayStates" 75 ⟨"PlayStates", "find", "(I)LPlayStates$Person;"⟩ : Cond) ∈ GW := gT 186 (by decide +kernel) (by decide +kernel)
theorem gw_164 : (.instanceMethod ⟨"PlayStates", "find", "(I)LPlayStates$Person;"⟩ : Cond) ∈ GW := gT 188 (by decide +kernel) (by decide +kernel)
theorem gw_2 : (.selects "PlayStates" ⟨"PlayStates", "find", "(I)LPlayStates$Person;"⟩ ⟨"PlayStates", "find", "(I)LPlayStates$Person;"⟩ : Cond) ∈ GW := gP 2 (by decide +kernel) (by decide +kernel)
theorem gw_168 : (.code ⟨"PlayStates", "isPlace", "(I)Z"⟩ prog_1_method_24_code 2 (some .boolean) : Cond) ∈ GW := gT 193 (by decide +kernel) (by decide +kernel)
theorem gw_166 : (.methodLink "PlayStates" 79 ⟨"PlayStates", "isPlace", "(I)Z"⟩ : Cond) ∈ GW := gT 190 (by decide +kernel) (by decide +kernel)
theorem gw_167 : (.instanceMethod ⟨"PlayStates", "isPlace", "(I)Z"⟩ : Cond) ∈ GW := gT 192 (by decide +kernel) (by decide +kernel)
theorem gw_3 : (.selects "PlayStates" ⟨"PlayStates", "isPlace", "(I)Z"⟩ ⟨"PlayStates", "isPlace", "(I)Z"⟩ : Cond) ∈ GW := gP 3 (by decide +kernel) (by decide +kernel)
theorem gw_171 : (.code ⟨"PlayStates", "isZeroToNine", "(I)Z"⟩ prog_1_method_21_code 1 (some .boolean) : Cond) ∈ GW := gT 196 (by decide +kernel) (by decide +kernel)
theorem gw_169 : (.methodLink "PlayStates" 83 ⟨"PlayStates", "isZeroToNine", "(I)Z"⟩ : Cond) ∈ GW := gT 194 (by decide +kernel) (by decide +kernel)
theorem gw_170 : (.static ⟨"PlayStates", "isZeroToNine", "(I)Z"⟩ : Cond) ∈ GW := gT 195 (by decide +kernel) (by decide +kernel)
theorem gw_174 : (.code ⟨"PlayStates", "tell", "(LPlayStates$Person;II)I"⟩ prog_1_method_28_code 5 (some .int) : Cond) ∈ GW := gT 200 (by decide +kernel) (by decide +kernel)
theorem gw_172 : (.methodLink "PlayStates" 86 ⟨"PlayStates", "tell", "(LPlayStates$Person;II)I"⟩ : Cond) ∈ GW := gT 197 (by decide +kernel) (by decide +kernel)
theorem gw_173 : (.instanceMethod ⟨"PlayStates", "tell", "(LPlayStates$Person;II)I"⟩ : Cond) ∈ GW := gT 199 (by decide +kernel) (by decide +kernel)
theorem gw_4 : (.selects "PlayStates" ⟨"PlayStates", "tell", "(LPlayStates$Person;II)I"⟩ ⟨"PlayStates", "tell", "(LPlayStates$Person;II)I"⟩ : Cond) ∈ GW := gP 4 (by decide +kernel) (by decide +kernel)
theorem d_PS_enter_0 : decode prog_1_method_3_code 0 = .ok (.aload_n 0, 1) := by decide +kernel
theorem d_PS_enter_1 : decode prog_1_method_3_code 1 = .ok (.iload_n 1, 1) := by decide +kernel
theorem d_PS_enter_2 : decode prog_1_method_3_code 2 = .ok (.invokevirtual 75, 3) := by decide +kernel
theorem d_PS_enter_5 : decode prog_1_method_3_code 5 = .ok (.astore 4, 2) := by decide +kernel
theorem d_PS_enter_7 : decode prog_1_method_3_code 7 = .ok (.aload 4, 2) := by decide +kernel
theorem d_PS_enter_9 : decode prog_1_method_3_code 9 = .ok (.ifnull 18, 3) := by decide +kernel
theorem d_PS_enter_12 : decode prog_1_method_3_code 12 = .ok (.aload_n 0, 1) := by decide +kernel
theorem d_PS_enter_13 : decode prog_1_method_3_code 13 = .ok (.iload_n 2, 1) := by decide +kernel
theorem d_PS_enter_14 : decode prog_1_method_3_code 14 = .ok (.invokevirtual 79, 3) := by decide +kernel
theorem d_PS_enter_17 : decode prog_1_method_3_code 17 = .ok (.ifCond .eq 10, 3) := by decide +kernel
theorem d_PS_enter_20 : decode prog_1_method_3_code 20 = .ok (.iload_n 3, 1) := by decide +kernel
theorem d_PS_enter_21 : decode prog_1_method_3_code 21 = .ok (.invokestatic 83, 3) := by decide +kernel
theorem d_PS_enter_24 : decode prog_1_method_3_code 24 = .ok (.ifCond .ne 5, 3) := by decide +kernel
theorem d_PS_enter_27 : decode prog_1_method_3_code 27 = .ok (.iconst (-1), 1) := by decide +kernel
theorem d_PS_enter_28 : decode prog_1_method_3_code 28 = .ok (.ireturn, 1) := by decide +kernel
theorem d_PS_enter_29 : decode prog_1_method_3_code 29 = .ok (.aload_n 0, 1) := by decide +kernel
theorem d_PS_enter_30 : decode prog_1_method_3_code 30 = .ok (.aload 4, 2) := by decide +kernel
theorem d_PS_enter_32 : decode prog_1_method_3_code 32 = .ok (.iload_n 2, 1) := by decide +kernel
theorem d_PS_enter_33 : decode prog_1_method_3_code 33 = .ok (.iload_n 3, 1) := by decide +kernel
theorem d_PS_enter_34 : decode prog_1_method_3_code 34 = .ok (.invokevirtual 86, 3) := by decide +kernel
theorem d_PS_enter_37 : decode prog_1_method_3_code 37 = .ok (.ireturn, 1) := by decide +kernel
-- PlayStates.enter(III)I 
def ws_PS_enter (G : gG) (a_t a_t_right a_t_joining a_t_units a_t_draft a_t_reader a_t_persons a_t_table a_t_table_place a_t_table_told a_t_table_before a_t_table_behind a_w a_w_clock a_w_board a_w_board_entries a_w_board_markBits : Nat) (n : Nat) (x_t_placeCount : Int32) (x_t_personCount : Int32) (x_t_unitCount : Int32) (x_t_persons : Nat → Option Nat) (x_t_table_count : Int32) (x_t_table_place : Nat → Int32) (x_t_table_told : Nat → Int32) (x_t_table_before : Nat → Int32) (x_t_table_behind : Nat → Int32) (x_w_number : Int32) (x_w_present : Int32) (x_w_helpCount : Int32) (x_w_board_entries : Nat → Int32) (x_w_board_markBits : Nat → Int32) : va_W := [(a_t, .inr (5, [.int x_t_placeCount, .ref a_t_right, .ref a_t_persons, .int x_t_personCount, .ref a_t_table, .ref a_t_joining, .ref a_t_units, .int x_t_unitCount, .ref a_t_draft, .ref a_t_reader])), (a_t_persons, .inl (G.2 3, 8, .inr (.inr (.inr (.inr x_t_persons))))), (a_t_table, .inr (3, [.ref a_t_table_place, .ref a_t_table_told, .ref a_t_table_before, .ref a_t_table_behind, .int x_t_table_count])), (a_t_table_place, .inl (G.2 0, 600, .inl x_t_table_place)), (a_t_table_told, .inl (G.2 0, 600, .inl x_t_table_told)), (a_t_table_before, .inl (G.2 0, 600, .inl x_t_table_before)), (a_t_table_behind, .inl (G.2 0, 600, .inl x_t_table_behind)), (a_w, .inr (2, [.int x_w_number, .ref a_w_board, .ref a_w_clock, .int x_w_present, .int x_w_helpCount])), (a_w_board, .inr (0, [.ref a_w_board_entries, .ref a_w_board_markBits])), (a_w_board_entries, .inl (G.2 0, n, .inl x_w_board_entries)), (a_w_board_markBits, .inl (G.2 0, n, .inl x_w_board_markBits))]
def f_PS_enter (n : Nat) (p0 : Int32) (p1 : Int32) (p2 : Int32) (x_t_placeCount : Int32) (x_t_personCount : Int32) (x_t_unitCount : Int32) (x_t_persons : Nat → Option Nat) (x_t_table_count : Int32) (x_t_table_place : Nat → Int32) (x_t_table_told : Nat → Int32) (x_t_table_before : Nat → Int32) (x_t_table_behind : Nat → Int32) (x_w_number : Int32) (x_w_present : Int32) (x_w_helpCount : Int32) (x_w_board_entries : Nat → Int32) (x_w_board_markBits : Nat → Int32) : Option (Int32 × Int32 × (Nat → Int32) × (Nat → Int32) × (Nat → Int32) × (Nat → Int32) × Int32 × (Nat → Int32) × (Nat → Int32)) :=
  ((f_PS_isPlace p1 x_t_placeCount x_t_personCount x_t_unitCount).bind fun y1 => (if y1 = 0 then some ((-1 : Int32), x_t_table_count, x_t_table_place, x_t_table_told, x_t_table_before, x_t_table_behind, x_w_present, x_w_board_entries, x_w_board_markBits) else ((f_PS_isZeroToNine p2).bind fun y3 => (if y3 = 0 then some ((-1 : Int32), x_t_table_count, x_t_table_place, x_t_table_told, x_t_table_before, x_t_table_behind, x_w_present, x_w_board_entries, x_w_board_markBits) else ((f_PS_tell n p1 p2 x_t_placeCount x_t_personCount x_t_unitCount x_t_table_count x_t_table_place x_t_table_told x_t_table_before x_t_table_behind x_w_number x_w_present x_w_helpCount x_w_board_entries x_w_board_markBits).bind fun y5 => some (y5.1, y5.2.1, y5.2.2.1, y5.2.2.2.1, y5.2.2.2.2.1, y5.2.2.2.2.2.1, y5.2.2.2.2.2.2.1, y5.2.2.2.2.2.2.2.1, y5.2.2.2.2.2.2.2.2))))))
set_option maxHeartbeats 4000000 in
set_option maxRecDepth 100000 in
theorem c_PS_enter (l : Launch) (G : gG) (sz : Nat) (a_t a_t_right a_t_joining a_t_units a_t_draft a_t_reader a_t_persons a_t_table a_t_table_place a_t_table_told a_t_table_before a_t_table_behind a_w a_w_clock a_w_board a_w_board_entries a_w_board_markBits : Nat) (n : Nat) (p0 : Int32) (p1 : Int32) (p2 : Int32) (x_t_placeCount : Int32) (x_t_personCount : Int32) (x_t_unitCount : Int32) (x_t_persons : Nat → Option Nat) (x_t_table_count : Int32) (x_t_table_place : Nat → Int32) (x_t_table_told : Nat → Int32) (x_t_table_before : Nat → Int32) (x_t_table_behind : Nat → Int32) (x_w_number : Int32) (x_w_present : Int32) (x_w_helpCount : Int32) (x_w_board_entries : Nat → Int32) (x_w_board_markBits : Nat → Int32) (r : Int32) (x_t_table_count' : Int32) (x_t_table_place' : Nat → Int32) (x_t_table_told' : Nat → Int32) (x_t_table_before' : Nat → Int32) (x_t_table_behind' : Nat → Int32) (x_w_present' : Int32) (x_w_board_entries' : Nat → Int32) (x_w_board_markBits' : Nat → Int32) (h : f_PS_enter n p0 p1 p2 x_t_placeCount x_t_personCount x_t_unitCount x_t_persons x_t_table_count x_t_table_place x_t_table_told x_t_table_before x_t_table_behind x_w_number x_w_present x_w_helpCount x_w_board_entries x_w_board_markBits = some (r, x_t_table_count', x_t_table_place', x_t_table_told', x_t_table_before', x_t_table_behind', x_w_present', x_w_board_entries', x_w_board_markBits'))  (hw : f_PS_find p0 x_t_placeCount x_t_personCount x_t_unitCount x_t_persons = some (some a_w)) : cN l y_PS_enter w_PS_enter { frames := 3, cells := 0, slots := 0, locals := 69 } G sz [.ref a_t, .int p0, .int p1, .int p2] (ws_PS_enter G a_t a_t_right a_t_joining a_t_units a_t_draft a_t_reader a_t_persons a_t_table a_t_table_place a_t_table_told a_t_table_before a_t_table_behind a_w a_w_clock a_w_board a_w_board_entries a_w_board_markBits n x_t_placeCount x_t_personCount x_t_unitCount x_t_persons x_t_table_count x_t_table_place x_t_table_told x_t_table_before x_t_table_behind x_w_number x_w_present x_w_helpCount x_w_board_entries x_w_board_markBits) (some (.int r)) (wB G (ws_PS_enter G a_t a_t_right a_t_joining a_t_units a_t_draft a_t_reader a_t_persons a_t_table a_t_table_place a_t_table_told a_t_table_before a_t_table_behind a_w a_w_clock a_w_board a_w_board_entries a_w_board_markBits n x_t_placeCount x_t_personCount x_t_unitCount x_t_persons x_t_table_count' x_t_table_place' x_t_table_told' x_t_table_before' x_t_table_behind' x_w_number x_w_present' x_w_helpCount x_w_board_entries' x_w_board_markBits')) 0 0 := by
  refine cN_ofW (cc := prog_1_method_3_code) (maxL := 5) (ret := (some .int)) (by decide) rfl (Nat.le_of_ble_eq_true rfl) ?_
  intro p e s m args below meth c A H locs ls hx hb hr hts hown hlocks hin hml hK hN hP hD hA hS hl
  replace hl : lv_has ls 5 [(0, .ref a_t), (1, .int p0), (2, .int p1), (3, .int p2)] := hl
  replace hown : s.vm.findClass "PlayStates" = some m.cls := hown
  unfold f_PS_enter at h
  refine lv_aload_n hx hb d_PS_enter_0 rfl (lv_at hl 0 rfl) ?_
  refine lv_iload_n hx hb d_PS_enter_1 rfl (lv_at hl 1 rfl) ?_
  have hPc := hP.sub (ws' := (ws_PS_find G a_t a_t_right a_t_table a_t_joining a_t_units a_t_draft a_t_reader a_t_persons x_t_placeCount x_t_personCount x_t_unitCount x_t_persons)) [0, 1] rfl
  have hDc := hD.sub (ws' := (ws_PS_find G a_t a_t_right a_t_table a_t_joining a_t_units a_t_draft a_t_reader a_t_persons x_t_placeCount x_t_personCount x_t_unitCount x_t_persons)) [0, 1] (by decide) rfl
  have hFc := va_free (wc := (ws_PS_find G a_t a_t_right a_t_table a_t_joining a_t_units a_t_draft a_t_reader a_t_persons x_t_placeCount x_t_personCount x_t_unitCount x_t_persons)) hD hS hA [0, 1] rfl
  refine q_call1 (va_runV (As := [.int p0]) (rest := []) ⟨hx, hb, hml, hown, hts⟩ (c_PS_find l G H.size a_t a_t_right a_t_table a_t_joining a_t_units a_t_draft a_t_reader a_t_persons p0 x_t_placeCount x_t_personCount x_t_unitCount x_t_persons _ hw) (cwV 1 hts (gV gw_163 gw_164 gw_2 gw_31 gw_165) rfl rfl rfl (by decide +kernel) ⟨Nat.le_of_ble_eq_true rfl, Nat.le_of_ble_eq_true rfl⟩) (pV hK hN hPc hDc (ci := 5) (q0 := 0) rfl rfl) rfl rfl hl.1 rfl (lv_room (Nat.le_of_ble_eq_true rfl)) d_PS_enter_2 ⟨Nat.le_of_ble_eq_true rfl, Nat.le_of_ble_eq_true rfl⟩) hS (fun q _ h => hFc q h) hFc (fun H1 locs hB hz hk hS => ?_)
  obtain ⟨hP, hD⟩ := q_join (wr := [(a_t_table, .inr (3, [.ref a_t_table_place, .ref a_t_table_told, .ref a_t_table_before, .ref a_t_table_behind, .int x_t_table_count])), (a_t_table_place, .inl (G.2 0, 600, .inl x_t_table_place)), (a_t_table_told, .inl (G.2 0, 600, .inl x_t_table_told)), (a_t_table_before, .inl (G.2 0, 600, .inl x_t_table_before)), (a_t_table_behind, .inl (G.2 0, 600, .inl x_t_table_behind)), (a_w, .inr (2, [.int x_w_number, .ref a_w_board, .ref a_w_clock, .int x_w_present, .int x_w_helpCount])), (a_w_board, .inr (0, [.ref a_w_board_entries, .ref a_w_board_markBits])), (a_w_board_entries, .inl (G.2 0, n, .inl x_w_board_entries)), (a_w_board_markBits, .inl (G.2 0, n, .inl x_w_board_markBits))]) (wn := (ws_PS_enter G a_t a_t_right a_t_joining a_t_units a_t_draft a_t_reader a_t_persons a_t_table a_t_table_place a_t_table_told a_t_table_before a_t_table_behind a_w a_w_clock a_w_board a_w_board_entries a_w_board_markBits n x_t_placeCount x_t_personCount x_t_unitCount x_t_persons x_t_table_count x_t_table_place x_t_table_told x_t_table_before x_t_table_behind x_w_number x_w_present x_w_helpCount x_w_board_entries x_w_board_markBits)) hP hD [0, 1] [2, 3, 4, 5, 6, 7, 8, 9, 10] [9, 10, 0, 1, 2, 3, 4, 5, 6, 7, 8] rfl rfl (by decide) (by decide) rfl (by decide) hk hFc hB.1 hB.2
  generalize H1 = H at hP hS ⊢
  replace hP : va_P G.1 vwCl (ws_PS_enter G a_t a_t_right a_t_joining a_t_units a_t_draft a_t_reader a_t_persons a_t_table a_t_table_place a_t_table_told a_t_table_before a_t_table_behind a_w a_w_clock a_w_board a_w_board_entries a_w_board_markBits n x_t_placeCount x_t_personCount x_t_unitCount x_t_persons x_t_table_count x_t_table_place x_t_table_told x_t_table_before x_t_table_behind x_w_number x_w_present x_w_helpCount x_w_board_entries x_w_board_markBits) H := hP
  replace hD : va_D A (ws_PS_enter G a_t a_t_right a_t_joining a_t_units a_t_draft a_t_reader a_t_persons a_t_table a_t_table_place a_t_table_told a_t_table_before a_t_table_behind a_w a_w_clock a_w_board a_w_board_entries a_w_board_markBits n x_t_placeCount x_t_personCount x_t_unitCount x_t_persons x_t_table_count x_t_table_place x_t_table_told x_t_table_before x_t_table_behind x_w_number x_w_present x_w_helpCount x_w_board_entries x_w_board_markBits) := hD
  refine lv_astore (lv' := [(4, .ref a_w), (0, .ref a_t), (1, .int p0), (2, .int p1), (3, .int p2)]) hx hb d_PS_enter_5 hl (by decide) rfl (fun ls hl => ?_)
  refine lv_aload hx hb d_PS_enter_7 (lv_at hl 0 rfl) ?_
  refine lv_ifnull hx hb d_PS_enter_9 ?_
  refine lv_aload_n hx hb d_PS_enter_12 rfl (lv_at hl 1 rfl) ?_
  refine lv_iload_n hx hb d_PS_enter_13 rfl (lv_at hl 3 rfl) ?_
  obtain ⟨y1, hy1, h⟩ := o_bind h
  have hPc := hP.sub (ws' := (ws_PS_isPlace G a_t a_t_right a_t_persons a_t_table a_t_joining a_t_units a_t_draft a_t_reader x_t_placeCount x_t_personCount x_t_unitCount)) [0] rfl
  have hDc := hD.sub (ws' := (ws_PS_isPlace G a_t a_t_right a_t_persons a_t_table a_t_joining a_t_units a_t_draft a_t_reader x_t_placeCount x_t_personCount x_t_unitCount)) [0] (by decide) rfl
  have hFc := va_free (wc := (ws_PS_isPlace G a_t a_t_right a_t_persons a_t_table a_t_joining a_t_units a_t_draft a_t_reader x_t_placeCount x_t_personCount x_t_unitCount)) hD hS hA [0] rfl
  refine q_call1 (va_runV (As := [.int p1]) (rest := []) ⟨hx, hb, hml, hown, hts⟩ (c_PS_isPlace l G H.size a_t a_t_right a_t_persons a_t_table a_t_joining a_t_units a_t_draft a_t_reader p1 x_t_placeCount x_t_personCount x_t_unitCount _ hy1) (cwV 1 hts (gV gw_166 gw_167 gw_3 gw_31 gw_168) rfl rfl rfl (by decide +kernel) ⟨Nat.le_of_ble_eq_true rfl, Nat.le_of_ble_eq_true rfl⟩) (pV hK hN hPc hDc (ci := 5) (q0 := 0) rfl rfl) rfl rfl hl.1 rfl (lv_room (Nat.le_of_ble_eq_true rfl)) d_PS_enter_14 ⟨Nat.le_of_ble_eq_true rfl, Nat.le_of_ble_eq_true rfl⟩) hS (fun q _ h => hFc q h) hFc (fun H1 locs hB hz hk hS => ?_)
  obtain ⟨hP, hD⟩ := q_join (wr := [(a_t_persons, .inl (G.2 3, 8, .inr (.inr (.inr (.inr x_t_persons))))), (a_t_table, .inr (3, [.ref a_t_table_place, .ref a_t_table_told, .ref a_t_table_before, .ref a_t_table_behind, .int x_t_table_count])), (a_t_table_place, .inl (G.2 0, 600, .inl x_t_table_place)), (a_t_table_told, .inl (G.2 0, 600, .inl x_t_table_told)), (a_t_table_before, .inl (G.2 0, 600, .inl x_t_table_before)), (a_t_table_behind, .inl (G.2 0, 600, .inl x_t_table_behind)), (a_w, .inr (2, [.int x_w_number, .ref a_w_board, .ref a_w_clock, .int x_w_present, .int x_w_helpCount])), (a_w_board, .inr (0, [.ref a_w_board_entries, .ref a_w_board_markBits])), (a_w_board_entries, .inl (G.2 0, n, .inl x_w_board_entries)), (a_w_board_markBits, .inl (G.2 0, n, .inl x_w_board_markBits))]) (wn := (ws_PS_enter G a_t a_t_right a_t_joining a_t_units a_t_draft a_t_reader a_t_persons a_t_table a_t_table_place a_t_table_told a_t_table_before a_t_table_behind a_w a_w_clock a_w_board a_w_board_entries a_w_board_markBits n x_t_placeCount x_t_personCount x_t_unitCount x_t_persons x_t_table_count x_t_table_place x_t_table_told x_t_table_before x_t_table_behind x_w_number x_w_present x_w_helpCount x_w_board_entries x_w_board_markBits)) hP hD [0] [1, 2, 3, 4, 5, 6, 7, 8, 9, 10] [10, 0, 1, 2, 3, 4, 5, 6, 7, 8, 9] rfl rfl (by decide) (by decide) rfl (by decide) hk hFc hB.1 hB.2
  generalize H1 = H at hP hS ⊢
  replace hP : va_P G.1 vwCl (ws_PS_enter G a_t a_t_right a_t_joining a_t_units a_t_draft a_t_reader a_t_persons a_t_table a_t_table_place a_t_table_told a_t_table_before a_t_table_behind a_w a_w_clock a_w_board a_w_board_entries a_w_board_markBits n x_t_placeCount x_t_personCount x_t_unitCount x_t_persons x_t_table_count x_t_table_place x_t_table_told x_t_table_before x_t_table_behind x_w_number x_w_present x_w_helpCount x_w_board_entries x_w_board_markBits) H := hP
  replace hD : va_D A (ws_PS_enter G a_t a_t_right a_t_joining a_t_units a_t_draft a_t_reader a_t_persons a_t_table a_t_table_place a_t_table_told a_t_table_before a_t_table_behind a_w a_w_clock a_w_board a_w_board_entries a_w_board_markBits n x_t_placeCount x_t_personCount x_t_unitCount x_t_persons x_t_table_count x_t_table_place x_t_table_told x_t_table_before x_t_table_behind x_w_number x_w_present x_w_helpCount x_w_board_entries x_w_board_markBits) := hD
  refine lv_if_eq (tgt := 27) hx hb d_PS_enter_17 (by decide) (fun c2 => ?_) (fun c2 => ?_)
  · replace h := (if_pos c2).symm.trans h
    refine lv_iconst (v := (-1 : Int32)) hx hb d_PS_enter_27 (by decide) ?_
    cases h
    exact q_iretW hx hb hr hlocks hP hD hS d_PS_enter_28
  · replace h := (if_neg c2).symm.trans h
    refine lv_iload_n hx hb d_PS_enter_20 rfl (lv_at hl 4 rfl) ?_
    obtain ⟨y3, hy3, h⟩ := o_bind h
    have hPc := hP.sub (ws' := (ws_PS_isZeroToNine G)) [] rfl
    have hDc := hD.sub (ws' := (ws_PS_isZeroToNine G)) [] (by decide) rfl
    have hFc := va_free (wc := (ws_PS_isZeroToNine G)) hD hS hA [] rfl
    refine q_call1 (va_runS (As := [.int p2]) (rest := []) ⟨hx, hb, hml, hown, hts⟩ (c_PS_isZeroToNine l G H.size p2 _ hy3) ⟨callB_of 1 hts (gC gw_171) rfl rfl rfl (hts _ gw_31) (hts _ gw_169) (by decide +kernel) ⟨Nat.le_of_ble_eq_true rfl, Nat.le_of_ble_eq_true rfl⟩, hts _ gw_170⟩ (pS hK hN hPc hDc) rfl rfl hl.1 rfl (lv_room (Nat.le_of_ble_eq_true rfl)) d_PS_enter_21 ⟨Nat.le_of_ble_eq_true rfl, Nat.le_of_ble_eq_true rfl⟩) hS (fun q _ h => hFc q h) hFc (fun H1 locs hB hz hk hS => ?_)
    obtain ⟨hP, hD⟩ := q_join (wr := [(a_t, .inr (5, [.int x_t_placeCount, .ref a_t_right, .ref a_t_persons, .int x_t_personCount, .ref a_t_table, .ref a_t_joining, .ref a_t_units, .int x_t_unitCount, .ref a_t_draft, .ref a_t_reader])), (a_t_persons, .inl (G.2 3, 8, .inr (.inr (.inr (.inr x_t_persons))))), (a_t_table, .inr (3, [.ref a_t_table_place, .ref a_t_table_told, .ref a_t_table_before, .ref a_t_table_behind, .int x_t_table_count])), (a_t_table_place, .inl (G.2 0, 600, .inl x_t_table_place)), (a_t_table_told, .inl (G.2 0, 600, .inl x_t_table_told)), (a_t_table_before, .inl (G.2 0, 600, .inl x_t_table_before)), (a_t_table_behind, .inl (G.2 0, 600, .inl x_t_table_behind)), (a_w, .inr (2, [.int x_w_number, .ref a_w_board, .ref a_w_clock, .int x_w_present, .int x_w_helpCount])), (a_w_board, .inr (0, [.ref a_w_board_entries, .ref a_w_board_markBits])), (a_w_board_entries, .inl (G.2 0, n, .inl x_w_board_entries)), (a_w_board_markBits, .inl (G.2 0, n, .inl x_w_board_markBits))]) (wn := (ws_PS_enter G a_t a_t_right a_t_joining a_t_units a_t_draft a_t_reader a_t_persons a_t_table a_t_table_place a_t_table_told a_t_table_before a_t_table_behind a_w a_w_clock a_w_board a_w_board_entries a_w_board_markBits n x_t_placeCount x_t_personCount x_t_unitCount x_t_persons x_t_table_count x_t_table_place x_t_table_told x_t_table_before x_t_table_behind x_w_number x_w_present x_w_helpCount x_w_board_entries x_w_board_markBits)) hP hD [] [0, 1, 2, 3, 4, 5, 6, 7, 8, 9, 10] [0, 1, 2, 3, 4, 5, 6, 7, 8, 9, 10] rfl rfl (by decide) (by decide) rfl (by decide) hk hFc hB.1 hB.2
    generalize H1 = H at hP hS ⊢
    replace hP : va_P G.1 vwCl (ws_PS_enter G a_t a_t_right a_t_joining a_t_units a_t_draft a_t_reader a_t_persons a_t_table a_t_table_place a_t_table_told a_t_table_before a_t_table_behind a_w a_w_clock a_w_board a_w_board_entries a_w_board_markBits n x_t_placeCount x_t_personCount x_t_unitCount x_t_persons x_t_table_count x_t_table_place x_t_table_told x_t_table_before x_t_table_behind x_w_number x_w_present x_w_helpCount x_w_board_entries x_w_board_markBits) H := hP
    replace hD : va_D A (ws_PS_enter G a_t a_t_right a_t_joining a_t_units a_t_draft a_t_reader a_t_persons a_t_table a_t_table_place a_t_table_told a_t_table_before a_t_table_behind a_w a_w_clock a_w_board a_w_board_entries a_w_board_markBits n x_t_placeCount x_t_personCount x_t_unitCount x_t_persons x_t_table_count x_t_table_place x_t_table_told x_t_table_before x_t_table_behind x_w_number x_w_present x_w_helpCount x_w_board_entries x_w_board_markBits) := hD
    refine lv_if_ne (tgt := 29) hx hb d_PS_enter_24 (by decide) (fun c4 => ?_) (fun c4 => ?_)
    · replace h := (if_neg c4).symm.trans h
      refine lv_aload_n hx hb d_PS_enter_29 rfl (lv_at hl 1 rfl) ?_
      refine lv_aload hx hb d_PS_enter_30 (lv_at hl 0 rfl) ?_
      refine lv_iload_n hx hb d_PS_enter_32 rfl (lv_at hl 3 rfl) ?_
      refine lv_iload_n hx hb d_PS_enter_33 rfl (lv_at hl 4 rfl) ?_
      obtain ⟨y5, hy5, h⟩ := o_bind h
      have hPc := hP.sub (ws' := (ws_PS_tell G a_t a_t_right a_t_persons a_t_joining a_t_units a_t_draft a_t_reader a_t_table a_t_table_place a_t_table_told a_t_table_before a_t_table_behind a_w a_w_clock a_w_board a_w_board_entries a_w_board_markBits n x_t_placeCount x_t_personCount x_t_unitCount x_t_table_count x_t_table_place x_t_table_told x_t_table_before x_t_table_behind x_w_number x_w_present x_w_helpCount x_w_board_entries x_w_board_markBits)) [0, 2, 3, 4, 5, 6, 7, 8, 9, 10] rfl
      have hDc := hD.sub (ws' := (ws_PS_tell G a_t a_t_right a_t_persons a_t_joining a_t_units a_t_draft a_t_reader a_t_table a_t_table_place a_t_table_told a_t_table_before a_t_table_behind a_w a_w_clock a_w_board a_w_board_entries a_w_board_markBits n x_t_placeCount x_t_personCount x_t_unitCount x_t_table_count x_t_table_place x_t_table_told x_t_table_before x_t_table_behind x_w_number x_w_present x_w_helpCount x_w_board_entries x_w_board_markBits)) [0, 2, 3, 4, 5, 6, 7, 8, 9, 10] (by decide) rfl
      have hFc := va_free (wc := (ws_PS_tell G a_t a_t_right a_t_persons a_t_joining a_t_units a_t_draft a_t_reader a_t_table a_t_table_place a_t_table_told a_t_table_before a_t_table_behind a_w a_w_clock a_w_board a_w_board_entries a_w_board_markBits n x_t_placeCount x_t_personCount x_t_unitCount x_t_table_count x_t_table_place x_t_table_told x_t_table_before x_t_table_behind x_w_number x_w_present x_w_helpCount x_w_board_entries x_w_board_markBits)) hD hS hA [0, 2, 3, 4, 5, 6, 7, 8, 9, 10] rfl
      refine q_call1 (va_runV (As := [.ref a_w, .int p1, .int p2]) (rest := []) ⟨hx, hb, hml, hown, hts⟩ (c_PS_tell l G H.size a_t a_t_right a_t_persons a_t_joining a_t_units a_t_draft a_t_reader a_t_table a_t_table_place a_t_table_told a_t_table_before a_t_table_behind a_w a_w_clock a_w_board a_w_board_entries a_w_board_markBits n p1 p2 x_t_placeCount x_t_personCount x_t_unitCount x_t_table_count x_t_table_place x_t_table_told x_t_table_before x_t_table_behind x_w_number x_w_present x_w_helpCount x_w_board_entries x_w_board_markBits _ _ _ _ _ _ _ _ _ hy5) (cwV 3 hts (gV gw_172 gw_173 gw_4 gw_31 gw_174) rfl rfl rfl (by decide +kernel) ⟨Nat.le_of_ble_eq_true rfl, Nat.le_of_ble_eq_true rfl⟩) (pV hK hN hPc hDc (ci := 5) (q0 := 0) rfl rfl) rfl rfl hl.1 rfl (lv_room (Nat.le_of_ble_eq_true rfl)) d_PS_enter_34 ⟨Nat.le_of_ble_eq_true rfl, Nat.le_of_ble_eq_true rfl⟩) hS (fun q _ h => hFc q h) hFc (fun H1 locs hB hz hk hS => ?_)
      obtain ⟨hP, hD⟩ := q_join (wr := [(a_t_persons, .inl (G.2 3, 8, .inr (.inr (.inr (.inr x_t_persons)))))]) (wn := (ws_PS_enter G a_t a_t_right a_t_joining a_t_units a_t_draft a_t_reader a_t_persons a_t_table a_t_table_place a_t_table_told a_t_table_before a_t_table_behind a_w a_w_clock a_w_board a_w_board_entries a_w_board_markBits n x_t_placeCount x_t_personCount x_t_unitCount x_t_persons y5.2.1 y5.2.2.1 y5.2.2.2.1 y5.2.2.2.2.1 y5.2.2.2.2.2.1 x_w_number y5.2.2.2.2.2.2.1 x_w_helpCount y5.2.2.2.2.2.2.2.1 y5.2.2.2.2.2.2.2.2)) hP hD [0, 2, 3, 4, 5, 6, 7, 8, 9, 10] [1] [1, 0, 2, 3, 4, 5, 6, 7, 8, 9, 10] rfl rfl (by decide) (by decide) rfl (by decide) hk hFc hB.1 hB.2
      generalize H1 = H at hP hS ⊢
      replace hP : va_P G.1 vwCl (ws_PS_enter G a_t a_t_right a_t_joining a_t_units a_t_draft a_t_reader a_t_persons a_t_table a_t_table_place a_t_table_told a_t_table_before a_t_table_behind a_w a_w_clock a_w_board a_w_board_entries a_w_board_markBits n x_t_placeCount x_t_personCount x_t_unitCount x_t_persons y5.2.1 y5.2.2.1 y5.2.2.2.1 y5.2.2.2.2.1 y5.2.2.2.2.2.1 x_w_number y5.2.2.2.2.2.2.1 x_w_helpCount y5.2.2.2.2.2.2.2.1 y5.2.2.2.2.2.2.2.2) H := hP
      replace hD : va_D A (ws_PS_enter G a_t a_t_right a_t_joining a_t_units a_t_draft a_t_reader a_t_persons a_t_table a_t_table_place a_t_table_told a_t_table_before a_t_table_behind a_w a_w_clock a_w_board a_w_board_entries a_w_board_markBits n x_t_placeCount x_t_personCount x_t_unitCount x_t_persons y5.2.1 y5.2.2.1 y5.2.2.2.1 y5.2.2.2.2.1 y5.2.2.2.2.2.1 x_w_number y5.2.2.2.2.2.2.1 x_w_helpCount y5.2.2.2.2.2.2.2.1 y5.2.2.2.2.2.2.2.2) := hD
      cases h
      exact q_iretW hx hb hr hlocks hP hD hS d_PS_enter_37
    · replace h := (if_pos c4).symm.trans h
      refine lv_iconst (v := (-1 : Int32)) hx hb d_PS_enter_27 (by decide) ?_
      cases h
      exact q_iretW hx hb hr hlocks hP hD hS d_PS_enter_28


-- PlayStates.enter(III)I 
def ws_PS_enter_no (G : gG) (a_t a_t_right a_t_table a_t_joining a_t_units a_t_draft a_t_reader a_t_persons : Nat)  (x_t_placeCount : Int32) (x_t_personCount : Int32) (x_t_unitCount : Int32) (x_t_persons : Nat → Option Nat) : va_W := [(a_t, .inr (5, [.int x_t_placeCount, .ref a_t_right, .ref a_t_persons, .int x_t_personCount, .ref a_t_table, .ref a_t_joining, .ref a_t_units, .int x_t_unitCount, .ref a_t_draft, .ref a_t_reader])), (a_t_persons, .inl (G.2 3, 8, .inr (.inr (.inr (.inr x_t_persons)))))]
def f_PS_enter_no  (p0 : Int32) (p1 : Int32) (p2 : Int32) (x_t_placeCount : Int32) (x_t_personCount : Int32) (x_t_unitCount : Int32) (x_t_persons : Nat → Option Nat) : Option (Int32) :=
  some (-1 : Int32)
set_option maxHeartbeats 4000000 in
set_option maxRecDepth 100000 in
theorem c_PS_enter_no (l : Launch) (G : gG) (sz : Nat) (a_t a_t_right a_t_table a_t_joining a_t_units a_t_draft a_t_reader a_t_persons : Nat)  (p0 : Int32) (p1 : Int32) (p2 : Int32) (x_t_placeCount : Int32) (x_t_personCount : Int32) (x_t_unitCount : Int32) (x_t_persons : Nat → Option Nat) (r : Int32) (h : f_PS_enter_no p0 p1 p2 x_t_placeCount x_t_personCount x_t_unitCount x_t_persons = some r)  (hw : f_PS_find p0 x_t_placeCount x_t_personCount x_t_unitCount x_t_persons = some none) : cN l y_PS_enter w_PS_enter { frames := 1, cells := 0, slots := 0, locals := 21 } G sz [.ref a_t, .int p0, .int p1, .int p2] (ws_PS_enter_no G a_t a_t_right a_t_table a_t_joining a_t_units a_t_draft a_t_reader a_t_persons x_t_placeCount x_t_personCount x_t_unitCount x_t_persons) (some (.int r)) (wB G (ws_PS_enter_no G a_t a_t_right a_t_table a_t_joining a_t_units a_t_draft a_t_reader a_t_persons x_t_placeCount x_t_personCount x_t_unitCount x_t_persons)) 0 0 := by
  refine cN_ofW (cc := prog_1_method_3_code) (maxL := 5) (ret := (some .int)) (by decide) rfl (Nat.le_of_ble_eq_true rfl) ?_
  intro p e s m args below meth c A H locs ls hx hb hr hts hown hlocks hin hml hK hN hP hD hA hS hl
  replace hl : lv_has ls 5 [(0, .ref a_t), (1, .int p0), (2, .int p1), (3, .int p2)] := hl
  replace hown : s.vm.findClass "PlayStates" = some m.cls := hown
  unfold f_PS_enter_no at h
  refine lv_aload_n hx hb d_PS_enter_0 rfl (lv_at hl 0 rfl) ?_
  refine lv_iload_n hx hb d_PS_enter_1 rfl (lv_at hl 1 rfl) ?_
  have hPc := hP.sub (ws' := (ws_PS_find G a_t a_t_right a_t_table a_t_joining a_t_units a_t_draft a_t_reader a_t_persons x_t_placeCount x_t_personCount x_t_unitCount x_t_persons)) [0, 1] rfl
  have hDc := hD.sub (ws' := (ws_PS_find G a_t a_t_right a_t_table a_t_joining a_t_units a_t_draft a_t_reader a_t_persons x_t_placeCount x_t_personCount x_t_unitCount x_t_persons)) [0, 1] (by decide) rfl
  have hFc := va_free (wc := (ws_PS_find G a_t a_t_right a_t_table a_t_joining a_t_units a_t_draft a_t_reader a_t_persons x_t_placeCount x_t_personCount x_t_unitCount x_t_persons)) hD hS hA [0, 1] rfl
  refine q_call1 (va_runV (As := [.int p0]) (rest := []) ⟨hx, hb, hml, hown, hts⟩ (c_PS_find l G H.size a_t a_t_right a_t_table a_t_joining a_t_units a_t_draft a_t_reader a_t_persons p0 x_t_placeCount x_t_personCount x_t_unitCount x_t_persons _ hw) (cwV 1 hts (gV gw_163 gw_164 gw_2 gw_31 gw_165) rfl rfl rfl (by decide +kernel) ⟨Nat.le_of_ble_eq_true rfl, Nat.le_of_ble_eq_true rfl⟩) (pV hK hN hPc hDc (ci := 5) (q0 := 0) rfl rfl) rfl rfl hl.1 rfl (lv_room (Nat.le_of_ble_eq_true rfl)) d_PS_enter_2 ⟨Nat.le_of_ble_eq_true rfl, Nat.le_of_ble_eq_true rfl⟩) hS (fun q _ h => hFc q h) hFc (fun H1 locs hB hz hk hS => ?_)
  obtain ⟨hP, hD⟩ := q_joinA hFc hB.1 hB.2
  generalize H1 = H at hP hS ⊢
  replace hP : va_P G.1 vwCl (ws_PS_enter_no G a_t a_t_right a_t_table a_t_joining a_t_units a_t_draft a_t_reader a_t_persons x_t_placeCount x_t_personCount x_t_unitCount x_t_persons) H := hP
  replace hD : va_D A (ws_PS_enter_no G a_t a_t_right a_t_table a_t_joining a_t_units a_t_draft a_t_reader a_t_persons x_t_placeCount x_t_personCount x_t_unitCount x_t_persons) := hD
  refine lv_astoreN (lv' := [(4, .null), (0, .ref a_t), (1, .int p0), (2, .int p1), (3, .int p2)]) hx hb d_PS_enter_5 hl (by decide) rfl (fun ls hl => ?_)
  refine lv_aloadN hx hb d_PS_enter_7 (lv_at hl 0 rfl) ?_
  refine lv_ifnullN (tgt := 27) hx hb d_PS_enter_9 (by decide) ?_
  refine lv_iconst (v := (-1 : Int32)) hx hb d_PS_enter_27 (by decide) ?_
  cases h
  exact q_iretW hx hb hr hlocks hP hD hS d_PS_enter_28

theorem gw_199 : (.methodLink "PlayStates" 90 ⟨"PlayStates", "isOneToNine", "(I)Z"⟩ : Cond) ∈ GW := gT 225 (by decide +kernel) (by decide +kernel)
theorem d_PS_mark_0 : decode prog_1_method_4_code 0 = .ok (.aload_n 0, 1) := by decide +kernel
theorem d_PS_mark_1 : decode prog_1_method_4_code 1 = .ok (.iload_n 1, 1) := by decide +kernel
theorem d_PS_mark_2 : decode prog_1_method_4_code 2 = .ok (.invokevirtual 75, 3) := by decide +kernel
theorem d_PS_mark_5 : decode prog_1_method_4_code 5 = .ok (.astore 5, 2) := by decide +kernel
theorem d_PS_mark_7 : decode prog_1_method_4_code 7 = .ok (.aload 5, 2) := by decide +kernel
theorem d_PS_mark_9 : decode prog_1_method_4_code 9 = .ok (.ifnull 18, 3) := by decide +kernel
theorem d_PS_mark_12 : decode prog_1_method_4_code 12 = .ok (.aload_n 0, 1) := by decide +kernel
theorem d_PS_mark_13 : decode prog_1_method_4_code 13 = .ok (.iload_n 2, 1) := by decide +kernel
theorem d_PS_mark_14 : decode prog_1_method_4_code 14 = .ok (.invokevirtual 79, 3) := by decide +kernel
theorem d_PS_mark_17 : decode prog_1_method_4_code 17 = .ok (.ifCond .eq 10, 3) := by decide +kernel
theorem d_PS_mark_20 : decode prog_1_method_4_code 20 = .ok (.iload_n 3, 1) := by decide +kernel
theorem d_PS_mark_21 : decode prog_1_method_4_code 21 = .ok (.invokestatic 90, 3) := by decide +kernel
theorem d_PS_mark_24 : decode prog_1_method_4_code 24 = .ok (.ifCond .ne 5, 3) := by decide +kernel
theorem d_PS_mark_27 : decode prog_1_method_4_code 27 = .ok (.iconst (-1), 1) := by decide +kernel
theorem d_PS_mark_28 : decode prog_1_method_4_code 28 = .ok (.ireturn, 1) := by decide +kernel
theorem d_PS_mark_29 : decode prog_1_method_4_code 29 = .ok (.aload_n 0, 1) := by decide +kernel
theorem d_PS_mark_30 : decode prog_1_method_4_code 30 = .ok (.aload 5, 2) := by decide +kernel
theorem d_PS_mark_32 : decode prog_1_method_4_code 32 = .ok (.iload_n 2, 1) := by decide +kernel
theorem d_PS_mark_33 : decode prog_1_method_4_code 33 = .ok (.iload 4, 2) := by decide +kernel
theorem d_PS_mark_35 : decode prog_1_method_4_code 35 = .ok (.ifCond .eq 10, 3) := by decide +kernel
theorem d_PS_mark_38 : decode prog_1_method_4_code 38 = .ok (.bipush 10, 2) := by decide +kernel
theorem d_PS_mark_40 : decode prog_1_method_4_code 40 = .ok (.iload_n 3, 1) := by decide +kernel
theorem d_PS_mark_41 : decode prog_1_method_4_code 41 = .ok (.iadd, 1) := by decide +kernel
theorem d_PS_mark_42 : decode prog_1_method_4_code 42 = .ok (.goto 7, 3) := by decide +kernel
theorem d_PS_mark_45 : decode prog_1_method_4_code 45 = .ok (.bipush 20, 2) := by decide +kernel
theorem d_PS_mark_47 : decode prog_1_method_4_code 47 = .ok (.iload_n 3, 1) := by decide +kernel
theorem d_PS_mark_48 : decode prog_1_method_4_code 48 = .ok (.iadd, 1) := by decide +kernel
theorem d_PS_mark_49 : decode prog_1_method_4_code 49 = .ok (.invokevirtual 86, 3) := by decide +kernel
theorem d_PS_mark_52 : decode prog_1_method_4_code 52 = .ok (.ireturn, 1) := by decide +kernel
-- PlayStates.mark(IIIZ)I 
def ws_PS_mark (G : gG) (a_t a_t_right a_t_joining a_t_units a_t_draft a_t_reader a_t_persons a_t_table a_t_table_place a_t_table_told a_t_table_before a_t_table_behind a_w a_w_clock a_w_board a_w_board_entries a_w_board_markBits : Nat) (n : Nat) (x_t_placeCount : Int32) (x_t_personCount : Int32) (x_t_unitCount : Int32) (x_t_persons : Nat → Option Nat) (x_t_table_count : Int32) (x_t_table_place : Nat → Int32) (x_t_table_told : Nat → Int32) (x_t_table_before : Nat → Int32) (x_t_table_behind : Nat → Int32) (x_w_number : Int32) (x_w_present : Int32) (x_w_helpCount : Int32) (x_w_board_entries : Nat → Int32) (x_w_board_markBits : Nat → Int32) : va_W := [(a_t, .inr (5, [.int x_t_placeCount, .ref a_t_right, .ref a_t_persons, .int x_t_personCount, .ref a_t_table, .ref a_t_joining, .ref a_t_units, .int x_t_unitCount, .ref a_t_draft, .ref a_t_reader])), (a_t_persons, .inl (G.2 3, 8, .inr (.inr (.inr (.inr x_t_persons))))), (a_t_table, .inr (3, [.ref a_t_table_place, .ref a_t_table_told, .ref a_t_table_before, .ref a_t_table_behind, .int x_t_table_count])), (a_t_table_place, .inl (G.2 0, 600, .inl x_t_table_place)), (a_t_table_told, .inl (G.2 0, 600, .inl x_t_table_told)), (a_t_table_before, .inl (G.2 0, 600, .inl x_t_table_before)), (a_t_table_behind, .inl (G.2 0, 600, .inl x_t_table_behind)), (a_w, .inr (2, [.int x_w_number, .ref a_w_board, .ref a_w_clock, .int x_w_present, .int x_w_helpCount])), (a_w_board, .inr (0, [.ref a_w_board_entries, .ref a_w_board_markBits])), (a_w_board_entries, .inl (G.2 0, n, .inl x_w_board_entries)), (a_w_board_markBits, .inl (G.2 0, n, .inl x_w_board_markBits))]
def f_PS_mark (n : Nat) (p0 : Int32) (p1 : Int32) (p2 : Int32) (p3 : Int32) (x_t_placeCount : Int32) (x_t_personCount : Int32) (x_t_unitCount : Int32) (x_t_persons : Nat → Option Nat) (x_t_table_count : Int32) (x_t_table_place : Nat → Int32) (x_t_table_told : Nat → Int32) (x_t_table_before : Nat → Int32) (x_t_table_behind : Nat → Int32) (x_w_number : Int32) (x_w_present : Int32) (x_w_helpCount : Int32) (x_w_board_entries : Nat → Int32) (x_w_board_markBits : Nat → Int32) : Option (Int32 × Int32 × (Nat → Int32) × (Nat → Int32) × (Nat → Int32) × (Nat → Int32) × Int32 × (Nat → Int32) × (Nat → Int32)) :=
  ((f_PS_isPlace p1 x_t_placeCount x_t_personCount x_t_unitCount).bind fun y1 => (if y1 = 0 then some ((-1 : Int32), x_t_table_count, x_t_table_place, x_t_table_told, x_t_table_before, x_t_table_behind, x_w_present, x_w_board_entries, x_w_board_markBits) else ((f_PS_isOneToNine p2).bind fun y3 => (if y3 = 0 then some ((-1 : Int32), x_t_table_count, x_t_table_place, x_t_table_told, x_t_table_before, x_t_table_behind, x_w_present, x_w_board_entries, x_w_board_markBits) else (if p3 = 0 then ((f_PS_tell n p1 ((20 : Int32) + p2) x_t_placeCount x_t_personCount x_t_unitCount x_t_table_count x_t_table_place x_t_table_told x_t_table_before x_t_table_behind x_w_number x_w_present x_w_helpCount x_w_board_entries x_w_board_markBits).bind fun y6 => some (y6.1, y6.2.1, y6.2.2.1, y6.2.2.2.1, y6.2.2.2.2.1, y6.2.2.2.2.2.1, y6.2.2.2.2.2.2.1, y6.2.2.2.2.2.2.2.1, y6.2.2.2.2.2.2.2.2)) else ((f_PS_tell n p1 ((10 : Int32) + p2) x_t_placeCount x_t_personCount x_t_unitCount x_t_table_count x_t_table_place x_t_table_told x_t_table_before x_t_table_behind x_w_number x_w_present x_w_helpCount x_w_board_entries x_w_board_markBits).bind fun y7 => some (y7.1, y7.2.1, y7.2.2.1, y7.2.2.2.1, y7.2.2.2.2.1, y7.2.2.2.2.2.1, y7.2.2.2.2.2.2.1, y7.2.2.2.2.2.2.2.1, y7.2.2.2.2.2.2.2.2)))))))
set_option maxHeartbeats 4000000 in
set_option maxRecDepth 100000 in
theorem c_PS_mark (l : Launch) (G : gG) (sz : Nat) (a_t a_t_right a_t_joining a_t_units a_t_draft a_t_reader a_t_persons a_t_table a_t_table_place a_t_table_told a_t_table_before a_t_table_behind a_w a_w_clock a_w_board a_w_board_entries a_w_board_markBits : Nat) (n : Nat) (p0 : Int32) (p1 : Int32) (p2 : Int32) (p3 : Int32) (x_t_placeCount : Int32) (x_t_personCount : Int32) (x_t_unitCount : Int32) (x_t_persons : Nat → Option Nat) (x_t_table_count : Int32) (x_t_table_place : Nat → Int32) (x_t_table_told : Nat → Int32) (x_t_table_before : Nat → Int32) (x_t_table_behind : Nat → Int32) (x_w_number : Int32) (x_w_present : Int32) (x_w_helpCount : Int32) (x_w_board_entries : Nat → Int32) (x_w_board_markBits : Nat → Int32) (r : Int32) (x_t_table_count' : Int32) (x_t_table_place' : Nat → Int32) (x_t_table_told' : Nat → Int32) (x_t_table_before' : Nat → Int32) (x_t_table_behind' : Nat → Int32) (x_w_present' : Int32) (x_w_board_entries' : Nat → Int32) (x_w_board_markBits' : Nat → Int32) (h : f_PS_mark n p0 p1 p2 p3 x_t_placeCount x_t_personCount x_t_unitCount x_t_persons x_t_table_count x_t_table_place x_t_table_told x_t_table_before x_t_table_behind x_w_number x_w_present x_w_helpCount x_w_board_entries x_w_board_markBits = some (r, x_t_table_count', x_t_table_place', x_t_table_told', x_t_table_before', x_t_table_behind', x_w_present', x_w_board_entries', x_w_board_markBits'))  (hw : f_PS_find p0 x_t_placeCount x_t_personCount x_t_unitCount x_t_persons = some (some a_w)) : cN l y_PS_mark w_PS_mark { frames := 3, cells := 0, slots := 0, locals := 69 } G sz [.ref a_t, .int p0, .int p1, .int p2, .int p3] (ws_PS_mark G a_t a_t_right a_t_joining a_t_units a_t_draft a_t_reader a_t_persons a_t_table a_t_table_place a_t_table_told a_t_table_before a_t_table_behind a_w a_w_clock a_w_board a_w_board_entries a_w_board_markBits n x_t_placeCount x_t_personCount x_t_unitCount x_t_persons x_t_table_count x_t_table_place x_t_table_told x_t_table_before x_t_table_behind x_w_number x_w_present x_w_helpCount x_w_board_entries x_w_board_markBits) (some (.int r)) (wB G (ws_PS_mark G a_t a_t_right a_t_joining a_t_units a_t_draft a_t_reader a_t_persons a_t_table a_t_table_place a_t_table_told a_t_table_before a_t_table_behind a_w a_w_clock a_w_board a_w_board_entries a_w_board_markBits n x_t_placeCount x_t_personCount x_t_unitCount x_t_persons x_t_table_count' x_t_table_place' x_t_table_told' x_t_table_before' x_t_table_behind' x_w_number x_w_present' x_w_helpCount x_w_board_entries' x_w_board_markBits')) 0 0 := by
  refine cN_ofW (cc := prog_1_method_4_code) (maxL := 6) (ret := (some .int)) (by decide) rfl (Nat.le_of_ble_eq_true rfl) ?_
  intro p e s m args below meth c A H locs ls hx hb hr hts hown hlocks hin hml hK hN hP hD hA hS hl
  replace hl : lv_has ls 6 [(0, .ref a_t), (1, .int p0), (2, .int p1), (3, .int p2), (4, .int p3)] := hl
  replace hown : s.vm.findClass "PlayStates" = some m.cls := hown
  unfold f_PS_mark at h
  refine lv_aload_n hx hb d_PS_mark_0 rfl (lv_at hl 0 rfl) ?_
  refine lv_iload_n hx hb d_PS_mark_1 rfl (lv_at hl 1 rfl) ?_
  have hPc := hP.sub (ws' := (ws_PS_find G a_t a_t_right a_t_table a_t_joining a_t_units a_t_draft a_t_reader a_t_persons x_t_placeCount x_t_personCount x_t_unitCount x_t_persons)) [0, 1] rfl
  have hDc := hD.sub (ws' := (ws_PS_find G a_t a_t_right a_t_table a_t_joining a_t_units a_t_draft a_t_reader a_t_persons x_t_placeCount x_t_personCount x_t_unitCount x_t_persons)) [0, 1] (by decide) rfl
  have hFc := va_free (wc := (ws_PS_find G a_t a_t_right a_t_table a_t_joining a_t_units a_t_draft a_t_reader a_t_persons x_t_placeCount x_t_personCount x_t_unitCount x_t_persons)) hD hS hA [0, 1] rfl
  refine q_call1 (va_runV (As := [.int p0]) (rest := []) ⟨hx, hb, hml, hown, hts⟩ (c_PS_find l G H.size a_t a_t_right a_t_table a_t_joining a_t_units a_t_draft a_t_reader a_t_persons p0 x_t_placeCount x_t_personCount x_t_unitCount x_t_persons _ hw) (cwV 1 hts (gV gw_163 gw_164 gw_2 gw_31 gw_165) rfl rfl rfl (by decide +kernel) ⟨Nat.le_of_ble_eq_true rfl, Nat.le_of_ble_eq_true rfl⟩) (pV hK hN hPc hDc (ci := 5) (q0 := 0) rfl rfl) rfl rfl hl.1 rfl (lv_room (Nat.le_of_ble_eq_true rfl)) d_PS_mark_2 ⟨Nat.le_of_ble_eq_true rfl, Nat.le_of_ble_eq_true rfl⟩) hS (fun q _ h => hFc q h) hFc (fun H1 locs hB hz hk hS => ?_)
  obtain ⟨hP, hD⟩ := q_join (wr := [(a_t_table, .inr (3, [.ref a_t_table_place, .ref a_t_table_told, .ref a_t_table_before, .ref a_t_table_behind, .int x_t_table_count])), (a_t_table_place, .inl (G.2 0, 600, .inl x_t_table_place)), (a_t_table_told, .inl (G.2 0, 600, .inl x_t_table_told)), (a_t_table_before, .inl (G.2 0, 600, .inl x_t_table_before)), (a_t_table_behind, .inl (G.2 0, 600, .inl x_t_table_behind)), (a_w, .inr (2, [.int x_w_number, .ref a_w_board, .ref a_w_clock, .int x_w_present, .int x_w_helpCount])), (a_w_board, .inr (0, [.ref a_w_board_entries, .ref a_w_board_markBits])), (a_w_board_entries, .inl (G.2 0, n, .inl x_w_board_entries)), (a_w_board_markBits, .inl (G.2 0, n, .inl x_w_board_markBits))]) (wn := (ws_PS_mark G a_t a_t_right a_t_joining a_t_units a_t_draft a_t_reader a_t_persons a_t_table a_t_table_place a_t_table_told a_t_table_before a_t_table_behind a_w a_w_clock a_w_board a_w_board_entries a_w_board_markBits n x_t_placeCount x_t_personCount x_t_unitCount x_t_persons x_t_table_count x_t_table_place x_t_table_told x_t_table_before x_t_table_behind x_w_number x_w_present x_w_helpCount x_w_board_entries x_w_board_markBits)) hP hD [0, 1] [2, 3, 4, 5, 6, 7, 8, 9, 10] [9, 10, 0, 1, 2, 3, 4, 5, 6, 7, 8] rfl rfl (by decide) (by decide) rfl (by decide) hk hFc hB.1 hB.2
  generalize H1 = H at hP hS ⊢
  replace hP : va_P G.1 vwCl (ws_PS_mark G a_t a_t_right a_t_joining a_t_units a_t_draft a_t_reader a_t_persons a_t_table a_t_table_place a_t_table_told a_t_table_before a_t_table_behind a_w a_w_clock a_w_board a_w_board_entries a_w_board_markBits n x_t_placeCount x_t_personCount x_t_unitCount x_t_persons x_t_table_count x_t_table_place x_t_table_told x_t_table_before x_t_table_behind x_w_number x_w_present x_w_helpCount x_w_board_entries x_w_board_markBits) H := hP
  replace hD : va_D A (ws_PS_mark G a_t a_t_right a_t_joining a_t_units a_t_draft a_t_reader a_t_persons a_t_table a_t_table_place a_t_table_told a_t_table_before a_t_table_behind a_w a_w_clock a_w_board a_w_board_entries a_w_board_markBits n x_t_placeCount x_t_personCount x_t_unitCount x_t_persons x_t_table_count x_t_table_place x_t_table_told x_t_table_before x_t_table_behind x_w_number x_w_present x_w_helpCount x_w_board_entries x_w_board_markBits) := hD
  refine lv_astore (lv' := [(5, .ref a_w), (0, .ref a_t), (1, .int p0), (2, .int p1), (3, .int p2), (4, .int p3)]) hx hb d_PS_mark_5 hl (by decide) rfl (fun ls hl => ?_)
  refine lv_aload hx hb d_PS_mark_7 (lv_at hl 0 rfl) ?_
  refine lv_ifnull hx hb d_PS_mark_9 ?_
  refine lv_aload_n hx hb d_PS_mark_12 rfl (lv_at hl 1 rfl) ?_
  refine lv_iload_n hx hb d_PS_mark_13 rfl (lv_at hl 3 rfl) ?_
  obtain ⟨y1, hy1, h⟩ := o_bind h
  have hPc := hP.sub (ws' := (ws_PS_isPlace G a_t a_t_right a_t_persons a_t_table a_t_joining a_t_units a_t_draft a_t_reader x_t_placeCount x_t_personCount x_t_unitCount)) [0] rfl
  have hDc := hD.sub (ws' := (ws_PS_isPlace G a_t a_t_right a_t_persons a_t_table a_t_joining a_t_units a_t_draft a_t_reader x_t_placeCount x_t_personCount x_t_unitCount)) [0] (by decide) rfl
  have hFc := va_free (wc := (ws_PS_isPlace G a_t a_t_right a_t_persons a_t_table a_t_joining a_t_units a_t_draft a_t_reader x_t_placeCount x_t_personCount x_t_unitCount)) hD hS hA [0] rfl
  refine q_call1 (va_runV (As := [.int p1]) (rest := []) ⟨hx, hb, hml, hown, hts⟩ (c_PS_isPlace l G H.size a_t a_t_right a_t_persons a_t_table a_t_joining a_t_units a_t_draft a_t_reader p1 x_t_placeCount x_t_personCount x_t_unitCount _ hy1) (cwV 1 hts (gV gw_166 gw_167 gw_3 gw_31 gw_168) rfl rfl rfl (by decide +kernel) ⟨Nat.le_of_ble_eq_true rfl, Nat.le_of_ble_eq_true rfl⟩) (pV hK hN hPc hDc (ci := 5) (q0 := 0) rfl rfl) rfl rfl hl.1 rfl (lv_room (Nat.le_of_ble_eq_true rfl)) d_PS_mark_14 ⟨Nat.le_of_ble_eq_true rfl, Nat.le_of_ble_eq_true rfl⟩) hS (fun q _ h => hFc q h) hFc (fun H1 locs hB hz hk hS => ?_)
  obtain ⟨hP, hD⟩ := q_join (wr := [(a_t_persons, .inl (G.2 3, 8, .inr (.inr (.inr (.inr x_t_persons))))), (a_t_table, .inr (3, [.ref a_t_table_place, .ref a_t_table_told, .ref a_t_table_before, .ref a_t_table_behind, .int x_t_table_count])), (a_t_table_place, .inl (G.2 0, 600, .inl x_t_table_place)), (a_t_table_told, .inl (G.2 0, 600, .inl x_t_table_told)), (a_t_table_before, .inl (G.2 0, 600, .inl x_t_table_before)), (a_t_table_behind, .inl (G.2 0, 600, .inl x_t_table_behind)), (a_w, .inr (2, [.int x_w_number, .ref a_w_board, .ref a_w_clock, .int x_w_present, .int x_w_helpCount])), (a_w_board, .inr (0, [.ref a_w_board_entries, .ref a_w_board_markBits])), (a_w_board_entries, .inl (G.2 0, n, .inl x_w_board_entries)), (a_w_board_markBits, .inl (G.2 0, n, .inl x_w_board_markBits))]) (wn := (ws_PS_mark G a_t a_t_right a_t_joining a_t_units a_t_draft a_t_reader a_t_persons a_t_table a_t_table_place a_t_table_told a_t_table_before a_t_table_behind a_w a_w_clock a_w_board a_w_board_entries a_w_board_markBits n x_t_placeCount x_t_personCount x_t_unitCount x_t_persons x_t_table_count x_t_table_place x_t_table_told x_t_table_before x_t_table_behind x_w_number x_w_present x_w_helpCount x_w_board_entries x_w_board_markBits)) hP hD [0] [1, 2, 3, 4, 5, 6, 7, 8, 9, 10] [10, 0, 1, 2, 3, 4, 5, 6, 7, 8, 9] rfl rfl (by decide) (by decide) rfl (by decide) hk hFc hB.1 hB.2
  generalize H1 = H at hP hS ⊢
  replace hP : va_P G.1 vwCl (ws_PS_mark G a_t a_t_right a_t_joining a_t_units a_t_draft a_t_reader a_t_persons a_t_table a_t_table_place a_t_table_told a_t_table_before a_t_table_behind a_w a_w_clock a_w_board a_w_board_entries a_w_board_markBits n x_t_placeCount x_t_personCount x_t_unitCount x_t_persons x_t_table_count x_t_table_place x_t_table_told x_t_table_before x_t_table_behind x_w_number x_w_present x_w_helpCount x_w_board_entries x_w_board_markBits) H := hP
  replace hD : va_D A (ws_PS_mark G a_t a_t_right a_t_joining a_t_units a_t_draft a_t_reader a_t_persons a_t_table a_t_table_place a_t_table_told a_t_table_before a_t_table_behind a_w a_w_clock a_w_board a_w_board_entries a_w_board_markBits n x_t_placeCount x_t_personCount x_t_unitCount x_t_persons x_t_table_count x_t_table_place x_t_table_told x_t_table_before x_t_table_behind x_w_number x_w_present x_w_helpCount x_w_board_entries x_w_board_markBits) := hD
  refine lv_if_eq (tgt := 27) hx hb d_PS_mark_17 (by decide) (fun c2 => ?_) (fun c2 => ?_)
  · replace h := (if_pos c2).symm.trans h
    refine lv_iconst (v := (-1 : Int32)) hx hb d_PS_mark_27 (by decide) ?_
    cases h
    exact q_iretW hx hb hr hlocks hP hD hS d_PS_mark_28
  · replace h := (if_neg c2).symm.trans h
    refine lv_iload_n hx hb d_PS_mark_20 rfl (lv_at hl 4 rfl) ?_
    obtain ⟨y3, hy3, h⟩ := o_bind h
    have hPc := hP.sub (ws' := (ws_PS_isOneToNine G)) [] rfl
    have hDc := hD.sub (ws' := (ws_PS_isOneToNine G)) [] (by decide) rfl
    have hFc := va_free (wc := (ws_PS_isOneToNine G)) hD hS hA [] rfl
    refine q_call1 (va_runS (As := [.int p2]) (rest := []) ⟨hx, hb, hml, hown, hts⟩ (c_PS_isOneToNine l G H.size p2 _ hy3) ⟨callB_of 1 hts (gC gw_201) rfl rfl rfl (hts _ gw_31) (hts _ gw_199) (by decide +kernel) ⟨Nat.le_of_ble_eq_true rfl, Nat.le_of_ble_eq_true rfl⟩, hts _ gw_200⟩ (pS hK hN hPc hDc) rfl rfl hl.1 rfl (lv_room (Nat.le_of_ble_eq_true rfl)) d_PS_mark_21 ⟨Nat.le_of_ble_eq_true rfl, Nat.le_of_ble_eq_true rfl⟩) hS (fun q _ h => hFc q h) hFc (fun H1 locs hB hz hk hS => ?_)
    obtain ⟨hP, hD⟩ := q_join (wr := [(a_t, .inr (5, [.int x_t_placeCount, .ref a_t_right, .ref a_t_persons, .int x_t_personCount, .ref a_t_table, .ref a_t_joining, .ref a_t_units, .int x_t_unitCount, .ref a_t_draft, .ref a_t_reader])), (a_t_persons, .inl (G.2 3, 8, .inr (.inr (.inr (.inr x_t_persons))))), (a_t_table, .inr (3, [.ref a_t_table_place, .ref a_t_table_told, .ref a_t_table_before, .ref a_t_table_behind, .int x_t_table_count])), (a_t_table_place, .inl (G.2 0, 600, .inl x_t_table_place)), (a_t_table_told, .inl (G.2 0, 600, .inl x_t_table_told)), (a_t_table_before, .inl (G.2 0, 600, .inl x_t_table_before)), (a_t_table_behind, .inl (G.2 0, 600, .inl x_t_table_behind)), (a_w, .inr (2, [.int x_w_number, .ref a_w_board, .ref a_w_clock, .int x_w_present, .int x_w_helpCount])), (a_w_board, .inr (0, [.ref a_w_board_entries, .ref a_w_board_markBits])), (a_w_board_entries, .inl (G.2 0, n, .inl x_w_board_entries)), (a_w_board_markBits, .inl (G.2 0, n, .inl x_w_board_markBits))]) (wn := (ws_PS_mark G a_t a_t_right a_t_joining a_t_units a_t_draft a_t_reader a_t_persons a_t_table a_t_table_place a_t_table_told a_t_table_before a_t_table_behind a_w a_w_clock a_w_board a_w_board_entries a_w_board_markBits n x_t_placeCount x_t_personCount x_t_unitCount x_t_persons x_t_table_count x_t_table_place x_t_table_told x_t_table_before x_t_table_behind x_w_number x_w_present x_w_helpCount x_w_board_entries x_w_board_markBits)) hP hD [] [0, 1, 2, 3, 4, 5, 6, 7, 8, 9, 10] [0, 1, 2, 3, 4, 5, 6, 7, 8, 9, 10] rfl rfl (by decide) (by decide) rfl (by decide) hk hFc hB.1 hB.2
    generalize H1 = H at hP hS ⊢
    replace hP : va_P G.1 vwCl (ws_PS_mark G a_t a_t_right a_t_joining a_t_units a_t_draft a_t_reader a_t_persons a_t_table a_t_table_place a_t_table_told a_t_table_before a_t_table_behind a_w a_w_clock a_w_board a_w_board_entries a_w_board_markBits n x_t_placeCount x_t_personCount x_t_unitCount x_t_persons x_t_table_count x_t_table_place x_t_table_told x_t_table_before x_t_table_behind x_w_number x_w_present x_w_helpCount x_w_board_entries x_w_board_markBits) H := hP
    replace hD : va_D A (ws_PS_mark G a_t a_t_right a_t_joining a_t_units a_t_draft a_t_reader a_t_persons a_t_table a_t_table_place a_t_table_told a_t_table_before a_t_table_behind a_w a_w_clock a_w_board a_w_board_entries a_w_board_markBits n x_t_placeCount x_t_personCount x_t_unitCount x_t_persons x_t_table_count x_t_table_place x_t_table_told x_t_table_before x_t_table_behind x_w_number x_w_present x_w_helpCount x_w_board_entries x_w_board_markBits) := hD
    refine lv_if_ne (tgt := 29) hx hb d_PS_mark_24 (by decide) (fun c4 => ?_) (fun c4 => ?_)
    · replace h := (if_neg c4).symm.trans h
      refine lv_aload_n hx hb d_PS_mark_29 rfl (lv_at hl 1 rfl) ?_
      refine lv_aload hx hb d_PS_mark_30 (lv_at hl 0 rfl) ?_
      refine lv_iload_n hx hb d_PS_mark_32 rfl (lv_at hl 3 rfl) ?_
      refine lv_iload hx hb d_PS_mark_33 (lv_at hl 5 rfl) ?_
      refine lv_if_eq (tgt := 45) hx hb d_PS_mark_35 (by decide) (fun c5 => ?_) (fun c5 => ?_)
      · replace h := (if_pos c5).symm.trans h
        refine lv_bipush (v := (20 : Int32)) hx hb d_PS_mark_45 (by decide) ?_
        refine lv_iload_n hx hb d_PS_mark_47 rfl (lv_at hl 4 rfl) ?_
        refine lv_iadd hx hb d_PS_mark_48 ?_
        obtain ⟨y6, hy6, h⟩ := o_bind h
        have hPc := hP.sub (ws' := (ws_PS_tell G a_t a_t_right a_t_persons a_t_joining a_t_units a_t_draft a_t_reader a_t_table a_t_table_place a_t_table_told a_t_table_before a_t_table_behind a_w a_w_clock a_w_board a_w_board_entries a_w_board_markBits n x_t_placeCount x_t_personCount x_t_unitCount x_t_table_count x_t_table_place x_t_table_told x_t_table_before x_t_table_behind x_w_number x_w_present x_w_helpCount x_w_board_entries x_w_board_markBits)) [0, 2, 3, 4, 5, 6, 7, 8, 9, 10] rfl
        have hDc := hD.sub (ws' := (ws_PS_tell G a_t a_t_right a_t_persons a_t_joining a_t_units a_t_draft a_t_reader a_t_table a_t_table_place a_t_table_told a_t_table_before a_t_table_behind a_w a_w_clock a_w_board a_w_board_entries a_w_board_markBits n x_t_placeCount x_t_personCount x_t_unitCount x_t_table_count x_t_table_place x_t_table_told x_t_table_before x_t_table_behind x_w_number x_w_present x_w_helpCount x_w_board_entries x_w_board_markBits)) [0, 2, 3, 4, 5, 6, 7, 8, 9, 10] (by decide) rfl
        have hFc := va_free (wc := (ws_PS_tell G a_t a_t_right a_t_persons a_t_joining a_t_units a_t_draft a_t_reader a_t_table a_t_table_place a_t_table_told a_t_table_before a_t_table_behind a_w a_w_clock a_w_board a_w_board_entries a_w_board_markBits n x_t_placeCount x_t_personCount x_t_unitCount x_t_table_count x_t_table_place x_t_table_told x_t_table_before x_t_table_behind x_w_number x_w_present x_w_helpCount x_w_board_entries x_w_board_markBits)) hD hS hA [0, 2, 3, 4, 5, 6, 7, 8, 9, 10] rfl
        refine q_call1 (va_runV (As := [.ref a_w, .int p1, .int ((20 : Int32) + p2)]) (rest := []) ⟨hx, hb, hml, hown, hts⟩ (c_PS_tell l G H.size a_t a_t_right a_t_persons a_t_joining a_t_units a_t_draft a_t_reader a_t_table a_t_table_place a_t_table_told a_t_table_before a_t_table_behind a_w a_w_clock a_w_board a_w_board_entries a_w_board_markBits n p1 ((20 : Int32) + p2) x_t_placeCount x_t_personCount x_t_unitCount x_t_table_count x_t_table_place x_t_table_told x_t_table_before x_t_table_behind x_w_number x_w_present x_w_helpCount x_w_board_entries x_w_board_markBits _ _ _ _ _ _ _ _ _ hy6) (cwV 3 hts (gV gw_172 gw_173 gw_4 gw_31 gw_174) rfl rfl rfl (by decide +kernel) ⟨Nat.le_of_ble_eq_true rfl, Nat.le_of_ble_eq_true rfl⟩) (pV hK hN hPc hDc (ci := 5) (q0 := 0) rfl rfl) rfl rfl hl.1 rfl (lv_room (Nat.le_of_ble_eq_true rfl)) d_PS_mark_49 ⟨Nat.le_of_ble_eq_true rfl, Nat.le_of_ble_eq_true rfl⟩) hS (fun q _ h => hFc q h) hFc (fun H1 locs hB hz hk hS => ?_)
        obtain ⟨hP, hD⟩ := q_join (wr := [(a_t_persons, .inl (G.2 3, 8, .inr (.inr (.inr (.inr x_t_persons)))))]) (wn := (ws_PS_mark G a_t a_t_right a_t_joining a_t_units a_t_draft a_t_reader a_t_persons a_t_table a_t_table_place a_t_table_told a_t_table_before a_t_table_behind a_w a_w_clock a_w_board a_w_board_entries a_w_board_markBits n x_t_placeCount x_t_personCount x_t_unitCount x_t_persons y6.2.1 y6.2.2.1 y6.2.2.2.1 y6.2.2.2.2.1 y6.2.2.2.2.2.1 x_w_number y6.2.2.2.2.2.2.1 x_w_helpCount y6.2.2.2.2.2.2.2.1 y6.2.2.2.2.2.2.2.2)) hP hD [0, 2, 3, 4, 5, 6, 7, 8, 9, 10] [1] [1, 0, 2, 3, 4, 5, 6, 7, 8, 9, 10] rfl rfl (by decide) (by decide) rfl (by decide) hk hFc hB.1 hB.2
        generalize H1 = H at hP hS ⊢
        replace hP : va_P G.1 vwCl (ws_PS_mark G a_t a_t_right a_t_joining a_t_units a_t_draft a_t_reader a_t_persons a_t_table a_t_table_place a_t_table_told a_t_table_before a_t_table_behind a_w a_w_clock a_w_board a_w_board_entries a_w_board_markBits n x_t_placeCount x_t_personCount x_t_unitCount x_t_persons y6.2.1 y6.2.2.1 y6.2.2.2.1 y6.2.2.2.2.1 y6.2.2.2.2.2.1 x_w_number y6.2.2.2.2.2.2.1 x_w_helpCount y6.2.2.2.2.2.2.2.1 y6.2.2.2.2.2.2.2.2) H := hP
        replace hD : va_D A (ws_PS_mark G a_t a_t_right a_t_joining a_t_units a_t_draft a_t_reader a_t_persons a_t_table a_t_table_place a_t_table_told a_t_table_before a_t_table_behind a_w a_w_clock a_w_board a_w_board_entries a_w_board_markBits n x_t_placeCount x_t_personCount x_t_unitCount x_t_persons y6.2.1 y6.2.2.1 y6.2.2.2.1 y6.2.2.2.2.1 y6.2.2.2.2.2.1 x_w_number y6.2.2.2.2.2.2.1 x_w_helpCount y6.2.2.2.2.2.2.2.1 y6.2.2.2.2.2.2.2.2) := hD
        cases h
        exact q_iretW hx hb hr hlocks hP hD hS d_PS_mark_52
      · replace h := (if_neg c5).symm.trans h
        refine lv_bipush (v := (10 : Int32)) hx hb d_PS_mark_38 (by decide) ?_
        refine lv_iload_n hx hb d_PS_mark_40 rfl (lv_at hl 4 rfl) ?_
        refine lv_iadd hx hb d_PS_mark_41 ?_
        refine lv_goto (tgt := 49) hx hb d_PS_mark_42 (by decide) ?_
        obtain ⟨y7, hy7, h⟩ := o_bind h
        have hPc := hP.sub (ws' := (ws_PS_tell G a_t a_t_right a_t_persons a_t_joining a_t_units a_t_draft a_t_reader a_t_table a_t_table_place a_t_table_told a_t_table_before a_t_table_behind a_w a_w_clock a_w_board a_w_board_entries a_w_board_markBits n x_t_placeCount x_t_personCount x_t_unitCount x_t_table_count x_t_table_place x_t_table_told x_t_table_before x_t_table_behind x_w_number x_w_present x_w_helpCount x_w_board_entries x_w_board_markBits)) [0, 2, 3, 4, 5, 6, 7, 8, 9, 10] rfl
        have hDc := hD.sub (ws' := (ws_PS_tell G a_t a_t_right a_t_persons a_t_joining a_t_units a_t_draft a_t_reader a_t_table a_t_table_place a_t_table_told a_t_table_before a_t_table_behind a_w a_w_clock a_w_board a_w_board_entries a_w_board_markBits n x_t_placeCount x_t_personCount x_t_unitCount x_t_table_count x_t_table_place x_t_table_told x_t_table_before x_t_table_behind x_w_number x_w_present x_w_helpCount x_w_board_entries x_w_board_markBits)) [0, 2, 3, 4, 5, 6, 7, 8, 9, 10] (by decide) rfl
        have hFc := va_free (wc := (ws_PS_tell G a_t a_t_right a_t_persons a_t_joining a_t_units a_t_draft a_t_reader a_t_table a_t_table_place a_t_table_told a_t_table_before a_t_table_behind a_w a_w_clock a_w_board a_w_board_entries a_w_board_markBits n x_t_placeCount x_t_personCount x_t_unitCount x_t_table_count x_t_table_place x_t_table_told x_t_table_before x_t_table_behind x_w_number x_w_present x_w_helpCount x_w_board_entries x_w_board_markBits)) hD hS hA [0, 2, 3, 4, 5, 6, 7, 8, 9, 10] rfl
        refine q_call1 (va_runV (As := [.ref a_w, .int p1, .int ((10 : Int32) + p2)]) (rest := []) ⟨hx, hb, hml, hown, hts⟩ (c_PS_tell l G H.size a_t a_t_right a_t_persons a_t_joining a_t_units a_t_draft a_t_reader a_t_table a_t_table_place a_t_table_told a_t_table_before a_t_table_behind a_w a_w_clock a_w_board a_w_board_entries a_w_board_markBits n p1 ((10 : Int32) + p2) x_t_placeCount x_t_personCount x_t_unitCount x_t_table_count x_t_table_place x_t_table_told x_t_table_before x_t_table_behind x_w_number x_w_present x_w_helpCount x_w_board_entries x_w_board_markBits _ _ _ _ _ _ _ _ _ hy7) (cwV 3 hts (gV gw_172 gw_173 gw_4 gw_31 gw_174) rfl rfl rfl (by decide +kernel) ⟨Nat.le_of_ble_eq_true rfl, Nat.le_of_ble_eq_true rfl⟩) (pV hK hN hPc hDc (ci := 5) (q0 := 0) rfl rfl) rfl rfl hl.1 rfl (lv_room (Nat.le_of_ble_eq_true rfl)) d_PS_mark_49 ⟨Nat.le_of_ble_eq_true rfl, Nat.le_of_ble_eq_true rfl⟩) hS (fun q _ h => hFc q h) hFc (fun H1 locs hB hz hk hS => ?_)
        obtain ⟨hP, hD⟩ := q_join (wr := [(a_t_persons, .inl (G.2 3, 8, .inr (.inr (.inr (.inr x_t_persons)))))]) (wn := (ws_PS_mark G a_t a_t_right a_t_joining a_t_units a_t_draft a_t_reader a_t_persons a_t_table a_t_table_place a_t_table_told a_t_table_before a_t_table_behind a_w a_w_clock a_w_board a_w_board_entries a_w_board_markBits n x_t_placeCount x_t_personCount x_t_unitCount x_t_persons y7.2.1 y7.2.2.1 y7.2.2.2.1 y7.2.2.2.2.1 y7.2.2.2.2.2.1 x_w_number y7.2.2.2.2.2.2.1 x_w_helpCount y7.2.2.2.2.2.2.2.1 y7.2.2.2.2.2.2.2.2)) hP hD [0, 2, 3, 4, 5, 6, 7, 8, 9, 10] [1] [1, 0, 2, 3, 4, 5, 6, 7, 8, 9, 10] rfl rfl (by decide) (by decide) rfl (by decide) hk hFc hB.1 hB.2
        generalize H1 = H at hP hS ⊢
        replace hP : va_P G.1 vwCl (ws_PS_mark G a_t a_t_right a_t_joining a_t_units a_t_draft a_t_reader a_t_persons a_t_table a_t_table_place a_t_table_told a_t_table_before a_t_table_behind a_w a_w_clock a_w_board a_w_board_entries a_w_board_markBits n x_t_placeCount x_t_personCount x_t_unitCount x_t_persons y7.2.1 y7.2.2.1 y7.2.2.2.1 y7.2.2.2.2.1 y7.2.2.2.2.2.1 x_w_number y7.2.2.2.2.2.2.1 x_w_helpCount y7.2.2.2.2.2.2.2.1 y7.2.2.2.2.2.2.2.2) H := hP
        replace hD : va_D A (ws_PS_mark G a_t a_t_right a_t_joining a_t_units a_t_draft a_t_reader a_t_persons a_t_table a_t_table_place a_t_table_told a_t_table_before a_t_table_behind a_w a_w_clock a_w_board a_w_board_entries a_w_board_markBits n x_t_placeCount x_t_personCount x_t_unitCount x_t_persons y7.2.1 y7.2.2.1 y7.2.2.2.1 y7.2.2.2.2.1 y7.2.2.2.2.2.1 x_w_number y7.2.2.2.2.2.2.1 x_w_helpCount y7.2.2.2.2.2.2.2.1 y7.2.2.2.2.2.2.2.2) := hD
        cases h
        exact q_iretW hx hb hr hlocks hP hD hS d_PS_mark_52
    · replace h := (if_pos c4).symm.trans h
      refine lv_iconst (v := (-1 : Int32)) hx hb d_PS_mark_27 (by decide) ?_
      cases h
      exact q_iretW hx hb hr hlocks hP hD hS d_PS_mark_28


-- PlayStates.mark(IIIZ)I 
def ws_PS_mark_no (G : gG) (a_t a_t_right a_t_table a_t_joining a_t_units a_t_draft a_t_reader a_t_persons : Nat)  (x_t_placeCount : Int32) (x_t_personCount : Int32) (x_t_unitCount : Int32) (x_t_persons : Nat → Option Nat) : va_W := [(a_t, .inr (5, [.int x_t_placeCount, .ref a_t_right, .ref a_t_persons, .int x_t_personCount, .ref a_t_table, .ref a_t_joining, .ref a_t_units, .int x_t_unitCount, .ref a_t_draft, .ref a_t_reader])), (a_t_persons, .inl (G.2 3, 8, .inr (.inr (.inr (.inr x_t_persons)))))]
def f_PS_mark_no  (p0 : Int32) (p1 : Int32) (p2 : Int32) (p3 : Int32) (x_t_placeCount : Int32) (x_t_personCount : Int32) (x_t_unitCount : Int32) (x_t_persons : Nat → Option Nat) : Option (Int32) :=
  some (-1 : Int32)
set_option maxHeartbeats 4000000 in
set_option maxRecDepth 100000 in
theorem c_PS_mark_no (l : Launch) (G : gG) (sz : Nat) (a_t a_t_right a_t_table a_t_joining a_t_units a_t_draft a_t_reader a_t_persons : Nat)  (p0 : Int32) (p1 : Int32) (p2 : Int32) (p3 : Int32) (x_t_placeCount : Int32) (x_t_personCount : Int32) (x_t_unitCount : Int32) (x_t_persons : Nat → Option Nat) (r : Int32) (h : f_PS_mark_no p0 p1 p2 p3 x_t_placeCount x_t_personCount x_t_unitCount x_t_persons = some r)  (hw : f_PS_find p0 x_t_placeCount x_t_personCount x_t_unitCount x_t_persons = some none) : cN l y_PS_mark w_PS_mark { frames := 1, cells := 0, slots := 0, locals := 21 } G sz [.ref a_t, .int p0, .int p1, .int p2, .int p3] (ws_PS_mark_no G a_t a_t_right a_t_table a_t_joining a_t_units a_t_draft a_t_reader a_t_persons x_t_placeCount x_t_personCount x_t_unitCount x_t_persons) (some (.int r)) (wB G (ws_PS_mark_no G a_t a_t_right a_t_table a_t_joining a_t_units a_t_draft a_t_reader a_t_persons x_t_placeCount x_t_personCount x_t_unitCount x_t_persons)) 0 0 := by
  refine cN_ofW (cc := prog_1_method_4_code) (maxL := 6) (ret := (some .int)) (by decide) rfl (Nat.le_of_ble_eq_true rfl) ?_
  intro p e s m args below meth c A H locs ls hx hb hr hts hown hlocks hin hml hK hN hP hD hA hS hl
  replace hl : lv_has ls 6 [(0, .ref a_t), (1, .int p0), (2, .int p1), (3, .int p2), (4, .int p3)] := hl
  replace hown : s.vm.findClass "PlayStates" = some m.cls := hown
  unfold f_PS_mark_no at h
  refine lv_aload_n hx hb d_PS_mark_0 rfl (lv_at hl 0 rfl) ?_
  refine lv_iload_n hx hb d_PS_mark_1 rfl (lv_at hl 1 rfl) ?_
  have hPc := hP.sub (ws' := (ws_PS_find G a_t a_t_right a_t_table a_t_joining a_t_units a_t_draft a_t_reader a_t_persons x_t_placeCount x_t_personCount x_t_unitCount x_t_persons)) [0, 1] rfl
  have hDc := hD.sub (ws' := (ws_PS_find G a_t a_t_right a_t_table a_t_joining a_t_units a_t_draft a_t_reader a_t_persons x_t_placeCount x_t_personCount x_t_unitCount x_t_persons)) [0, 1] (by decide) rfl
  have hFc := va_free (wc := (ws_PS_find G a_t a_t_right a_t_table a_t_joining a_t_units a_t_draft a_t_reader a_t_persons x_t_placeCount x_t_personCount x_t_unitCount x_t_persons)) hD hS hA [0, 1] rfl
  refine q_call1 (va_runV (As := [.int p0]) (rest := []) ⟨hx, hb, hml, hown, hts⟩ (c_PS_find l G H.size a_t a_t_right a_t_table a_t_joining a_t_units a_t_draft a_t_reader a_t_persons p0 x_t_placeCount x_t_personCount x_t_unitCount x_t_persons _ hw) (cwV 1 hts (gV gw_163 gw_164 gw_2 gw_31 gw_165) rfl rfl rfl (by decide +kernel) ⟨Nat.le_of_ble_eq_true rfl, Nat.le_of_ble_eq_true rfl⟩) (pV hK hN hPc hDc (ci := 5) (q0 := 0) rfl rfl) rfl rfl hl.1 rfl (lv_room (Nat.le_of_ble_eq_true rfl)) d_PS_mark_2 ⟨Nat.le_of_ble_eq_true rfl, Nat.le_of_ble_eq_true rfl⟩) hS (fun q _ h => hFc q h) hFc (fun H1 locs hB hz hk hS => ?_)
  obtain ⟨hP, hD⟩ := q_joinA hFc hB.1 hB.2
  generalize H1 = H at hP hS ⊢
  replace hP : va_P G.1 vwCl (ws_PS_mark_no G a_t a_t_right a_t_table a_t_joining a_t_units a_t_draft a_t_reader a_t_persons x_t_placeCount x_t_personCount x_t_unitCount x_t_persons) H := hP
  replace hD : va_D A (ws_PS_mark_no G a_t a_t_right a_t_table a_t_joining a_t_units a_t_draft a_t_reader a_t_persons x_t_placeCount x_t_personCount x_t_unitCount x_t_persons) := hD
  refine lv_astoreN (lv' := [(5, .null), (0, .ref a_t), (1, .int p0), (2, .int p1), (3, .int p2), (4, .int p3)]) hx hb d_PS_mark_5 hl (by decide) rfl (fun ls hl => ?_)
  refine lv_aloadN hx hb d_PS_mark_7 (lv_at hl 0 rfl) ?_
  refine lv_ifnullN (tgt := 27) hx hb d_PS_mark_9 (by decide) ?_
  refine lv_iconst (v := (-1 : Int32)) hx hb d_PS_mark_27 (by decide) ?_
  cases h
  exact q_iretW hx hb hr hlocks hP hD hS d_PS_mark_28

theorem d_PS_at_0 : decode prog_1_method_8_code 0 = .ok (.aload_n 0, 1) := by decide +kernel
theorem d_PS_at_1 : decode prog_1_method_8_code 1 = .ok (.iload_n 1, 1) := by decide +kernel
theorem d_PS_at_2 : decode prog_1_method_8_code 2 = .ok (.invokevirtual 75, 3) := by decide +kernel
theorem d_PS_at_5 : decode prog_1_method_8_code 5 = .ok (.astore_n 3, 1) := by decide +kernel
theorem d_PS_at_6 : decode prog_1_method_8_code 6 = .ok (.aload_n 3, 1) := by decide +kernel
theorem d_PS_at_7 : decode prog_1_method_8_code 7 = .ok (.ifnull 11, 3) := by decide +kernel
theorem d_PS_at_10 : decode prog_1_method_8_code 10 = .ok (.aload_n 0, 1) := by decide +kernel
theorem d_PS_at_11 : decode prog_1_method_8_code 11 = .ok (.iload_n 2, 1) := by decide +kernel
theorem d_PS_at_12 : decode prog_1_method_8_code 12 = .ok (.invokevirtual 79, 3) := by decide +kernel
theorem d_PS_at_15 : decode prog_1_method_8_code 15 = .ok (.ifCond .ne 7, 3) := by decide +kernel
theorem d_PS_at_18 : decode prog_1_method_8_code 18 = .ok (.iconst (-1), 1) := by decide +kernel
theorem d_PS_at_19 : decode prog_1_method_8_code 19 = .ok (.goto 12, 3) := by decide +kernel
theorem d_PS_at_22 : decode prog_1_method_8_code 22 = .ok (.aload_n 3, 1) := by decide +kernel
theorem d_PS_at_23 : decode prog_1_method_8_code 23 = .ok (.getfield 99, 3) := by decide +kernel
theorem d_PS_at_26 : decode prog_1_method_8_code 26 = .ok (.getfield 125, 3) := by decide +kernel
theorem d_PS_at_29 : decode prog_1_method_8_code 29 = .ok (.iload_n 2, 1) := by decide +kernel
theorem d_PS_at_30 : decode prog_1_method_8_code 30 = .ok (.iaload, 1) := by decide +kernel
theorem d_PS_at_31 : decode prog_1_method_8_code 31 = .ok (.ireturn, 1) := by decide +kernel
-- PlayStates.at(II)I 
def ws_PS_at (G : gG) (a_t a_t_right a_t_table a_t_joining a_t_units a_t_draft a_t_reader a_t_persons a_w a_w_clock a_w_board a_w_board_markBits a_w_board_entries : Nat) (n : Nat) (x_t_placeCount : Int32) (x_t_personCount : Int32) (x_t_unitCount : Int32) (x_t_persons : Nat → Option Nat) (x_w_number : Int32) (x_w_present : Int32) (x_w_helpCount : Int32) (x_w_board_entries : Nat → Int32) : va_W := [(a_t, .inr (5, [.int x_t_placeCount, .ref a_t_right, .ref a_t_persons, .int x_t_personCount, .ref a_t_table, .ref a_t_joining, .ref a_t_units, .int x_t_unitCount, .ref a_t_draft, .ref a_t_reader])), (a_t_persons, .inl (G.2 3, 8, .inr (.inr (.inr (.inr x_t_persons))))), (a_w, .inr (2, [.int x_w_number, .ref a_w_board, .ref a_w_clock, .int x_w_present, .int x_w_helpCount])), (a_w_board, .inr (0, [.ref a_w_board_entries, .ref a_w_board_markBits])), (a_w_board_entries, .inl (G.2 0, n, .inl x_w_board_entries))]
def f_PS_at (n : Nat) (p0 : Int32) (p1 : Int32) (x_t_placeCount : Int32) (x_t_personCount : Int32) (x_t_unitCount : Int32) (x_t_persons : Nat → Option Nat) (x_w_number : Int32) (x_w_present : Int32) (x_w_helpCount : Int32) (x_w_board_entries : Nat → Int32) : Option (Int32) :=
  ((f_PS_isPlace p1 x_t_placeCount x_t_personCount x_t_unitCount).bind fun y1 => (if y1 = 0 then some (-1 : Int32) else (if inB p1 n then some (x_w_board_entries p1.toNatClampNeg) else none)))
set_option maxHeartbeats 4000000 in
set_option maxRecDepth 100000 in
theorem c_PS_at (l : Launch) (G : gG) (sz : Nat) (a_t a_t_right a_t_table a_t_joining a_t_units a_t_draft a_t_reader a_t_persons a_w a_w_clock a_w_board a_w_board_markBits a_w_board_entries : Nat) (n : Nat) (p0 : Int32) (p1 : Int32) (x_t_placeCount : Int32) (x_t_personCount : Int32) (x_t_unitCount : Int32) (x_t_persons : Nat → Option Nat) (x_w_number : Int32) (x_w_present : Int32) (x_w_helpCount : Int32) (x_w_board_entries : Nat → Int32) (r : Int32) (h : f_PS_at n p0 p1 x_t_placeCount x_t_personCount x_t_unitCount x_t_persons x_w_number x_w_present x_w_helpCount x_w_board_entries = some r)  (hw : f_PS_find p0 x_t_placeCount x_t_personCount x_t_unitCount x_t_persons = some (some a_w)) : cN l y_PS_at w_PS_at { frames := 1, cells := 0, slots := 0, locals := 21 } G sz [.ref a_t, .int p0, .int p1] (ws_PS_at G a_t a_t_right a_t_table a_t_joining a_t_units a_t_draft a_t_reader a_t_persons a_w a_w_clock a_w_board a_w_board_markBits a_w_board_entries n x_t_placeCount x_t_personCount x_t_unitCount x_t_persons x_w_number x_w_present x_w_helpCount x_w_board_entries) (some (.int r)) (wB G (ws_PS_at G a_t a_t_right a_t_table a_t_joining a_t_units a_t_draft a_t_reader a_t_persons a_w a_w_clock a_w_board a_w_board_markBits a_w_board_entries n x_t_placeCount x_t_personCount x_t_unitCount x_t_persons x_w_number x_w_present x_w_helpCount x_w_board_entries)) 0 0 := by
  refine cN_ofW (cc := prog_1_method_8_code) (maxL := 4) (ret := (some .int)) (by decide) rfl (Nat.le_of_ble_eq_true rfl) ?_
  intro p e s m args below meth c A H locs ls hx hb hr hts hown hlocks hin hml hK hN hP hD hA hS hl
  replace hl : lv_has ls 4 [(0, .ref a_t), (1, .int p0), (2, .int p1)] := hl
  replace hown : s.vm.findClass "PlayStates" = some m.cls := hown
  unfold f_PS_at at h
  refine lv_aload_n hx hb d_PS_at_0 rfl (lv_at hl 0 rfl) ?_
  refine lv_iload_n hx hb d_PS_at_1 rfl (lv_at hl 1 rfl) ?_
  have hPc := hP.sub (ws' := (ws_PS_find G a_t a_t_right a_t_table a_t_joining a_t_units a_t_draft a_t_reader a_t_persons x_t_placeCount x_t_personCount x_t_unitCount x_t_persons)) [0, 1] rfl
  have hDc := hD.sub (ws' := (ws_PS_find G a_t a_t_right a_t_table a_t_joining a_t_units a_t_draft a_t_reader a_t_persons x_t_placeCount x_t_personCount x_t_unitCount x_t_persons)) [0, 1] (by decide) rfl
  have hFc := va_free (wc := (ws_PS_find G a_t a_t_right a_t_table a_t_joining a_t_units a_t_draft a_t_reader a_t_persons x_t_placeCount x_t_personCount x_t_unitCount x_t_persons)) hD hS hA [0, 1] rfl
  refine q_call1 (va_runV (As := [.int p0]) (rest := []) ⟨hx, hb, hml, hown, hts⟩ (c_PS_find l G H.size a_t a_t_right a_t_table a_t_joining a_t_units a_t_draft a_t_reader a_t_persons p0 x_t_placeCount x_t_personCount x_t_unitCount x_t_persons _ hw) (cwV 1 hts (gV gw_163 gw_164 gw_2 gw_31 gw_165) rfl rfl rfl (by decide +kernel) ⟨Nat.le_of_ble_eq_true rfl, Nat.le_of_ble_eq_true rfl⟩) (pV hK hN hPc hDc (ci := 5) (q0 := 0) rfl rfl) rfl rfl hl.1 rfl (lv_room (Nat.le_of_ble_eq_true rfl)) d_PS_at_2 ⟨Nat.le_of_ble_eq_true rfl, Nat.le_of_ble_eq_true rfl⟩) hS (fun q _ h => hFc q h) hFc (fun H1 locs hB hz hk hS => ?_)
  obtain ⟨hP, hD⟩ := q_join (wr := [(a_w, .inr (2, [.int x_w_number, .ref a_w_board, .ref a_w_clock, .int x_w_present, .int x_w_helpCount])), (a_w_board, .inr (0, [.ref a_w_board_entries, .ref a_w_board_markBits])), (a_w_board_entries, .inl (G.2 0, n, .inl x_w_board_entries))]) (wn := (ws_PS_at G a_t a_t_right a_t_table a_t_joining a_t_units a_t_draft a_t_reader a_t_persons a_w a_w_clock a_w_board a_w_board_markBits a_w_board_entries n x_t_placeCount x_t_personCount x_t_unitCount x_t_persons x_w_number x_w_present x_w_helpCount x_w_board_entries)) hP hD [0, 1] [2, 3, 4] [3, 4, 0, 1, 2] rfl rfl (by decide) (by decide) rfl (by decide) hk hFc hB.1 hB.2
  generalize H1 = H at hP hS ⊢
  replace hP : va_P G.1 vwCl (ws_PS_at G a_t a_t_right a_t_table a_t_joining a_t_units a_t_draft a_t_reader a_t_persons a_w a_w_clock a_w_board a_w_board_markBits a_w_board_entries n x_t_placeCount x_t_personCount x_t_unitCount x_t_persons x_w_number x_w_present x_w_helpCount x_w_board_entries) H := hP
  replace hD : va_D A (ws_PS_at G a_t a_t_right a_t_table a_t_joining a_t_units a_t_draft a_t_reader a_t_persons a_w a_w_clock a_w_board a_w_board_markBits a_w_board_entries n x_t_placeCount x_t_personCount x_t_unitCount x_t_persons x_w_number x_w_present x_w_helpCount x_w_board_entries) := hD
  refine lv_astore_n (lv' := [(3, .ref a_w), (0, .ref a_t), (1, .int p0), (2, .int p1)]) hx hb d_PS_at_5 rfl hl (by decide) rfl (fun ls hl => ?_)
  refine lv_aload_n hx hb d_PS_at_6 rfl (lv_at hl 0 rfl) ?_
  refine lv_ifnull hx hb d_PS_at_7 ?_
  refine lv_aload_n hx hb d_PS_at_10 rfl (lv_at hl 1 rfl) ?_
  refine lv_iload_n hx hb d_PS_at_11 rfl (lv_at hl 3 rfl) ?_
  obtain ⟨y1, hy1, h⟩ := o_bind h
  have hPc := hP.sub (ws' := (ws_PS_isPlace G a_t a_t_right a_t_persons a_t_table a_t_joining a_t_units a_t_draft a_t_reader x_t_placeCount x_t_personCount x_t_unitCount)) [0] rfl
  have hDc := hD.sub (ws' := (ws_PS_isPlace G a_t a_t_right a_t_persons a_t_table a_t_joining a_t_units a_t_draft a_t_reader x_t_placeCount x_t_personCount x_t_unitCount)) [0] (by decide) rfl
  have hFc := va_free (wc := (ws_PS_isPlace G a_t a_t_right a_t_persons a_t_table a_t_joining a_t_units a_t_draft a_t_reader x_t_placeCount x_t_personCount x_t_unitCount)) hD hS hA [0] rfl
  refine q_call1 (va_runV (As := [.int p1]) (rest := []) ⟨hx, hb, hml, hown, hts⟩ (c_PS_isPlace l G H.size a_t a_t_right a_t_persons a_t_table a_t_joining a_t_units a_t_draft a_t_reader p1 x_t_placeCount x_t_personCount x_t_unitCount _ hy1) (cwV 1 hts (gV gw_166 gw_167 gw_3 gw_31 gw_168) rfl rfl rfl (by decide +kernel) ⟨Nat.le_of_ble_eq_true rfl, Nat.le_of_ble_eq_true rfl⟩) (pV hK hN hPc hDc (ci := 5) (q0 := 0) rfl rfl) rfl rfl hl.1 rfl (lv_room (Nat.le_of_ble_eq_true rfl)) d_PS_at_12 ⟨Nat.le_of_ble_eq_true rfl, Nat.le_of_ble_eq_true rfl⟩) hS (fun q _ h => hFc q h) hFc (fun H1 locs hB hz hk hS => ?_)
  obtain ⟨hP, hD⟩ := q_join (wr := [(a_t_persons, .inl (G.2 3, 8, .inr (.inr (.inr (.inr x_t_persons))))), (a_w, .inr (2, [.int x_w_number, .ref a_w_board, .ref a_w_clock, .int x_w_present, .int x_w_helpCount])), (a_w_board, .inr (0, [.ref a_w_board_entries, .ref a_w_board_markBits])), (a_w_board_entries, .inl (G.2 0, n, .inl x_w_board_entries))]) (wn := (ws_PS_at G a_t a_t_right a_t_table a_t_joining a_t_units a_t_draft a_t_reader a_t_persons a_w a_w_clock a_w_board a_w_board_markBits a_w_board_entries n x_t_placeCount x_t_personCount x_t_unitCount x_t_persons x_w_number x_w_present x_w_helpCount x_w_board_entries)) hP hD [0] [1, 2, 3, 4] [4, 0, 1, 2, 3] rfl rfl (by decide) (by decide) rfl (by decide) hk hFc hB.1 hB.2
  generalize H1 = H at hP hS ⊢
  replace hP : va_P G.1 vwCl (ws_PS_at G a_t a_t_right a_t_table a_t_joining a_t_units a_t_draft a_t_reader a_t_persons a_w a_w_clock a_w_board a_w_board_markBits a_w_board_entries n x_t_placeCount x_t_personCount x_t_unitCount x_t_persons x_w_number x_w_present x_w_helpCount x_w_board_entries) H := hP
  replace hD : va_D A (ws_PS_at G a_t a_t_right a_t_table a_t_joining a_t_units a_t_draft a_t_reader a_t_persons a_w a_w_clock a_w_board a_w_board_markBits a_w_board_entries n x_t_placeCount x_t_personCount x_t_unitCount x_t_persons x_w_number x_w_present x_w_helpCount x_w_board_entries) := hD
  refine lv_if_ne (tgt := 22) hx hb d_PS_at_15 (by decide) (fun c2 => ?_) (fun c2 => ?_)
  · replace h := (if_neg c2).symm.trans h
    refine lv_aload_n hx hb d_PS_at_22 rfl (lv_at hl 0 rfl) ?_
    refine va_getN (D := G.1) (ci := 2) (v := .ref a_w_board) (C := "PlayStates$Person") (T := TPn) (N := 5) hx hb hts iw_2 hown hK hP 2 rfl rfl 1 (by decide) (va_Nw.use rfl (hN.1 ("PlayStates", 99, "PlayStates$Person", "board", "LPlayStates$Board;", "PlayStates") (by decide +kernel))) (fun _ h9 => h9) rfl d_PS_at_23 ?_
    refine va_getN (D := G.1) (ci := 0) (v := .ref a_w_board_entries) (C := "PlayStates$Board") (T := TBd) (N := 2) hx hb hts iw_0 hown hK hP 3 rfl rfl 0 (by decide) (va_Nw.use rfl (hN.1 ("PlayStates", 125, "PlayStates$Board", "entries", "[I", "PlayStates") (by decide +kernel))) (fun _ h9 => h9) rfl d_PS_at_26 ?_
    refine lv_iload_n hx hb d_PS_at_29 rfl (lv_at hl 3 rfl) ?_
    obtain ⟨i3, h⟩ := o_if h
    refine va_iald (n := n) (f := x_w_board_entries) hx hb hK hP 4 0 rfl rfl i3 d_PS_at_30 ?_
    cases h
    exact q_iretW hx hb hr hlocks hP hD hS d_PS_at_31
  · replace h := (if_pos c2).symm.trans h
    refine lv_iconst (v := (-1 : Int32)) hx hb d_PS_at_18 (by decide) ?_
    refine lv_goto (tgt := 31) hx hb d_PS_at_19 (by decide) ?_
    cases h
    exact q_iretW hx hb hr hlocks hP hD hS d_PS_at_31


-- PlayStates.at(II)I 
def ws_PS_at_no (G : gG) (a_t a_t_right a_t_table a_t_joining a_t_units a_t_draft a_t_reader a_t_persons : Nat)  (x_t_placeCount : Int32) (x_t_personCount : Int32) (x_t_unitCount : Int32) (x_t_persons : Nat → Option Nat) : va_W := [(a_t, .inr (5, [.int x_t_placeCount, .ref a_t_right, .ref a_t_persons, .int x_t_personCount, .ref a_t_table, .ref a_t_joining, .ref a_t_units, .int x_t_unitCount, .ref a_t_draft, .ref a_t_reader])), (a_t_persons, .inl (G.2 3, 8, .inr (.inr (.inr (.inr x_t_persons)))))]
def f_PS_at_no  (p0 : Int32) (p1 : Int32) (x_t_placeCount : Int32) (x_t_personCount : Int32) (x_t_unitCount : Int32) (x_t_persons : Nat → Option Nat) : Option (Int32) :=
  some (-1 : Int32)
set_option maxHeartbeats 4000000 in
set_option maxRecDepth 100000 in
theorem c_PS_at_no (l : Launch) (G : gG) (sz : Nat) (a_t a_t_right a_t_table a_t_joining a_t_units a_t_draft a_t_reader a_t_persons : Nat)  (p0 : Int32) (p1 : Int32) (x_t_placeCount : Int32) (x_t_personCount : Int32) (x_t_unitCount : Int32) (x_t_persons : Nat → Option Nat) (r : Int32) (h : f_PS_at_no p0 p1 x_t_placeCount x_t_personCount x_t_unitCount x_t_persons = some r)  (hw : f_PS_find p0 x_t_placeCount x_t_personCount x_t_unitCount x_t_persons = some none) : cN l y_PS_at w_PS_at { frames := 1, cells := 0, slots := 0, locals := 21 } G sz [.ref a_t, .int p0, .int p1] (ws_PS_at_no G a_t a_t_right a_t_table a_t_joining a_t_units a_t_draft a_t_reader a_t_persons x_t_placeCount x_t_personCount x_t_unitCount x_t_persons) (some (.int r)) (wB G (ws_PS_at_no G a_t a_t_right a_t_table a_t_joining a_t_units a_t_draft a_t_reader a_t_persons x_t_placeCount x_t_personCount x_t_unitCount x_t_persons)) 0 0 := by
  refine cN_ofW (cc := prog_1_method_8_code) (maxL := 4) (ret := (some .int)) (by decide) rfl (Nat.le_of_ble_eq_true rfl) ?_
  intro p e s m args below meth c A H locs ls hx hb hr hts hown hlocks hin hml hK hN hP hD hA hS hl
  replace hl : lv_has ls 4 [(0, .ref a_t), (1, .int p0), (2, .int p1)] := hl
  replace hown : s.vm.findClass "PlayStates" = some m.cls := hown
  unfold f_PS_at_no at h
  refine lv_aload_n hx hb d_PS_at_0 rfl (lv_at hl 0 rfl) ?_
  refine lv_iload_n hx hb d_PS_at_1 rfl (lv_at hl 1 rfl) ?_
  have hPc := hP.sub (ws' := (ws_PS_find G a_t a_t_right a_t_table a_t_joining a_t_units a_t_draft a_t_reader a_t_persons x_t_placeCount x_t_personCount x_t_unitCount x_t_persons)) [0, 1] rfl
  have hDc := hD.sub (ws' := (ws_PS_find G a_t a_t_right a_t_table a_t_joining a_t_units a_t_draft a_t_reader a_t_persons x_t_placeCount x_t_personCount x_t_unitCount x_t_persons)) [0, 1] (by decide) rfl
  have hFc := va_free (wc := (ws_PS_find G a_t a_t_right a_t_table a_t_joining a_t_units a_t_draft a_t_reader a_t_persons x_t_placeCount x_t_personCount x_t_unitCount x_t_persons)) hD hS hA [0, 1] rfl
  refine q_call1 (va_runV (As := [.int p0]) (rest := []) ⟨hx, hb, hml, hown, hts⟩ (c_PS_find l G H.size a_t a_t_right a_t_table a_t_joining a_t_units a_t_draft a_t_reader a_t_persons p0 x_t_placeCount x_t_personCount x_t_unitCount x_t_persons _ hw) (cwV 1 hts (gV gw_163 gw_164 gw_2 gw_31 gw_165) rfl rfl rfl (by decide +kernel) ⟨Nat.le_of_ble_eq_true rfl, Nat.le_of_ble_eq_true rfl⟩) (pV hK hN hPc hDc (ci := 5) (q0 := 0) rfl rfl) rfl rfl hl.1 rfl (lv_room (Nat.le_of_ble_eq_true rfl)) d_PS_at_2 ⟨Nat.le_of_ble_eq_true rfl, Nat.le_of_ble_eq_true rfl⟩) hS (fun q _ h => hFc q h) hFc (fun H1 locs hB hz hk hS => ?_)
  obtain ⟨hP, hD⟩ := q_joinA hFc hB.1 hB.2
  generalize H1 = H at hP hS ⊢
  replace hP : va_P G.1 vwCl (ws_PS_at_no G a_t a_t_right a_t_table a_t_joining a_t_units a_t_draft a_t_reader a_t_persons x_t_placeCount x_t_personCount x_t_unitCount x_t_persons) H := hP
  replace hD : va_D A (ws_PS_at_no G a_t a_t_right a_t_table a_t_joining a_t_units a_t_draft a_t_reader a_t_persons x_t_placeCount x_t_personCount x_t_unitCount x_t_persons) := hD
  refine lv_astore_nN (lv' := [(3, .null), (0, .ref a_t), (1, .int p0), (2, .int p1)]) hx hb d_PS_at_5 rfl hl (by decide) rfl (fun ls hl => ?_)
  refine lv_aload_nN hx hb d_PS_at_6 rfl (lv_at hl 0 rfl) ?_
  refine lv_ifnullN (tgt := 18) hx hb d_PS_at_7 (by decide) ?_
  refine lv_iconst (v := (-1 : Int32)) hx hb d_PS_at_18 (by decide) ?_
  refine lv_goto (tgt := 31) hx hb d_PS_at_19 (by decide) ?_
  cases h
  exact q_iretW hx hb hr hlocks hP hD hS d_PS_at_31

theorem d_PS_marks_0 : decode prog_1_method_9_code 0 = .ok (.aload_n 0, 1) := by decide +kernel
theorem d_PS_marks_1 : decode prog_1_method_9_code 1 = .ok (.iload_n 1, 1) := by decide +kernel
theorem d_PS_marks_2 : decode prog_1_method_9_code 2 = .ok (.invokevirtual 75, 3) := by decide +kernel
theorem d_PS_marks_5 : decode prog_1_method_9_code 5 = .ok (.astore_n 3, 1) := by decide +kernel
theorem d_PS_marks_6 : decode prog_1_method_9_code 6 = .ok (.aload_n 3, 1) := by decide +kernel
theorem d_PS_marks_7 : decode prog_1_method_9_code 7 = .ok (.ifnull 11, 3) := by decide +kernel
theorem d_PS_marks_10 : decode prog_1_method_9_code 10 = .ok (.aload_n 0, 1) := by decide +kernel
theorem d_PS_marks_11 : decode prog_1_method_9_code 11 = .ok (.iload_n 2, 1) := by decide +kernel
theorem d_PS_marks_12 : decode prog_1_method_9_code 12 = .ok (.invokevirtual 79, 3) := by decide +kernel
theorem d_PS_marks_15 : decode prog_1_method_9_code 15 = .ok (.ifCond .ne 7, 3) := by decide +kernel
theorem d_PS_marks_18 : decode prog_1_method_9_code 18 = .ok (.iconst (-1), 1) := by decide +kernel
theorem d_PS_marks_19 : decode prog_1_method_9_code 19 = .ok (.goto 12, 3) := by decide +kernel
theorem d_PS_marks_22 : decode prog_1_method_9_code 22 = .ok (.aload_n 3, 1) := by decide +kernel
theorem d_PS_marks_23 : decode prog_1_method_9_code 23 = .ok (.getfield 99, 3) := by decide +kernel
theorem d_PS_marks_26 : decode prog_1_method_9_code 26 = .ok (.getfield 128, 3) := by decide +kernel
theorem d_PS_marks_29 : decode prog_1_method_9_code 29 = .ok (.iload_n 2, 1) := by decide +kernel
theorem d_PS_marks_30 : decode prog_1_method_9_code 30 = .ok (.iaload, 1) := by decide +kernel
theorem d_PS_marks_31 : decode prog_1_method_9_code 31 = .ok (.ireturn, 1) := by decide +kernel
-- PlayStates.marks(II)I 
def ws_PS_marks (G : gG) (a_t a_t_right a_t_table a_t_joining a_t_units a_t_draft a_t_reader a_t_persons a_w a_w_clock a_w_board a_w_board_entries a_w_board_markBits : Nat) (n : Nat) (x_t_placeCount : Int32) (x_t_personCount : Int32) (x_t_unitCount : Int32) (x_t_persons : Nat → Option Nat) (x_w_number : Int32) (x_w_present : Int32) (x_w_helpCount : Int32) (x_w_board_markBits : Nat → Int32) : va_W := [(a_t, .inr (5, [.int x_t_placeCount, .ref a_t_right, .ref a_t_persons, .int x_t_personCount, .ref a_t_table, .ref a_t_joining, .ref a_t_units, .int x_t_unitCount, .ref a_t_draft, .ref a_t_reader])), (a_t_persons, .inl (G.2 3, 8, .inr (.inr (.inr (.inr x_t_persons))))), (a_w, .inr (2, [.int x_w_number, .ref a_w_board, .ref a_w_clock, .int x_w_present, .int x_w_helpCount])), (a_w_board, .inr (0, [.ref a_w_board_entries, .ref a_w_board_markBits])), (a_w_board_markBits, .inl (G.2 0, n, .inl x_w_board_markBits))]
def f_PS_marks (n : Nat) (p0 : Int32) (p1 : Int32) (x_t_placeCount : Int32) (x_t_personCount : Int32) (x_t_unitCount : Int32) (x_t_persons : Nat → Option Nat) (x_w_number : Int32) (x_w_present : Int32) (x_w_helpCount : Int32) (x_w_board_markBits : Nat → Int32) : Option (Int32) :=
  ((f_PS_isPlace p1 x_t_placeCount x_t_personCount x_t_unitCount).bind fun y1 => (if y1 = 0 then some (-1 : Int32) else (if inB p1 n then some (x_w_board_markBits p1.toNatClampNeg) else none)))
set_option maxHeartbeats 4000000 in
set_option maxRecDepth 100000 in
theorem c_PS_marks (l : Launch) (G : gG) (sz : Nat) (a_t a_t_right a_t_table a_t_joining a_t_units a_t_draft a_t_reader a_t_persons a_w a_w_clock a_w_board a_w_board_entries a_w_board_markBits : Nat) (n : Nat) (p0 : Int32) (p1 : Int32) (x_t_placeCount : Int32) (x_t_personCount : Int32) (x_t_unitCount : Int32) (x_t_persons : Nat → Option Nat) (x_w_number : Int32) (x_w_present : Int32) (x_w_helpCount : Int32) (x_w_board_markBits : Nat → Int32) (r : Int32) (h : f_PS_marks n p0 p1 x_t_placeCount x_t_personCount x_t_unitCount x_t_persons x_w_number x_w_present x_w_helpCount x_w_board_markBits = some r)  (hw : f_PS_find p0 x_t_placeCount x_t_personCount x_t_unitCount x_t_persons = some (some a_w)) : cN l y_PS_marks w_PS_marks { frames := 1, cells := 0, slots := 0, locals := 21 } G sz [.ref a_t, .int p0, .int p1] (ws_PS_marks G a_t a_t_right a_t_table a_t_joining a_t_units a_t_draft a_t_reader a_t_persons a_w a_w_clock a_w_board a_w_board_entries a_w_board_markBits n x_t_placeCount x_t_personCount x_t_unitCount x_t_persons x_w_number x_w_present x_w_helpCount x_w_board_markBits) (some (.int r)) (wB G (ws_PS_marks G a_t a_t_right a_t_table a_t_joining a_t_units a_t_draft a_t_reader a_t_persons a_w a_w_clock a_w_board a_w_board_entries a_w_board_markBits n x_t_placeCount x_t_personCount x_t_unitCount x_t_persons x_w_number x_w_present x_w_helpCount x_w_board_markBits)) 0 0 := by
  refine cN_ofW (cc := prog_1_method_9_code) (maxL := 4) (ret := (some .int)) (by decide) rfl (Nat.le_of_ble_eq_true rfl) ?_
  intro p e s m args below meth c A H locs ls hx hb hr hts hown hlocks hin hml hK hN hP hD hA hS hl
  replace hl : lv_has ls 4 [(0, .ref a_t), (1, .int p0), (2, .int p1)] := hl
  replace hown : s.vm.findClass "PlayStates" = some m.cls := hown
  unfold f_PS_marks at h
  refine lv_aload_n hx hb d_PS_marks_0 rfl (lv_at hl 0 rfl) ?_
  refine lv_iload_n hx hb d_PS_marks_1 rfl (lv_at hl 1 rfl) ?_
  have hPc := hP.sub (ws' := (ws_PS_find G a_t a_t_right a_t_table a_t_joining a_t_units a_t_draft a_t_reader a_t_persons x_t_placeCount x_t_personCount x_t_unitCount x_t_persons)) [0, 1] rfl
  have hDc := hD.sub (ws' := (ws_PS_find G a_t a_t_right a_t_table a_t_joining a_t_units a_t_draft a_t_reader a_t_persons x_t_placeCount x_t_personCount x_t_unitCount x_t_persons)) [0, 1] (by decide) rfl
  have hFc := va_free (wc := (ws_PS_find G a_t a_t_right a_t_table a_t_joining a_t_units a_t_draft a_t_reader a_t_persons x_t_placeCount x_t_personCount x_t_unitCount x_t_persons)) hD hS hA [0, 1] rfl
  refine q_call1 (va_runV (As := [.int p0]) (rest := []) ⟨hx, hb, hml, hown, hts⟩ (c_PS_find l G H.size a_t a_t_right a_t_table a_t_joining a_t_units a_t_draft a_t_reader a_t_persons p0 x_t_placeCount x_t_personCount x_t_unitCount x_t_persons _ hw) (cwV 1 hts (gV gw_163 gw_164 gw_2 gw_31 gw_165) rfl rfl rfl (by decide +kernel) ⟨Nat.le_of_ble_eq_true rfl, Nat.le_of_ble_eq_true rfl⟩) (pV hK hN hPc hDc (ci := 5) (q0 := 0) rfl rfl) rfl rfl hl.1 rfl (lv_room (Nat.le_of_ble_eq_true rfl)) d_PS_marks_2 ⟨Nat.le_of_ble_eq_true rfl, Nat.le_of_ble_eq_true rfl⟩) hS (fun q _ h => hFc q h) hFc (fun H1 locs hB hz hk hS => ?_)
  obtain ⟨hP, hD⟩ := q_join (wr := [(a_w, .inr (2, [.int x_w_number, .ref a_w_board, .ref a_w_clock, .int x_w_present, .int x_w_helpCount])), (a_w_board, .inr (0, [.ref a_w_board_entries, .ref a_w_board_markBits])), (a_w_board_markBits, .inl (G.2 0, n, .inl x_w_board_markBits))]) (wn := (ws_PS_marks G a_t a_t_right a_t_table a_t_joining a_t_units a_t_draft a_t_reader a_t_persons a_w a_w_clock a_w_board a_w_board_entries a_w_board_markBits n x_t_placeCount x_t_personCount x_t_unitCount x_t_persons x_w_number x_w_present x_w_helpCount x_w_board_markBits)) hP hD [0, 1] [2, 3, 4] [3, 4, 0, 1, 2] rfl rfl (by decide) (by decide) rfl (by decide) hk hFc hB.1 hB.2
  generalize H1 = H at hP hS ⊢
  replace hP : va_P G.1 vwCl (ws_PS_marks G a_t a_t_right a_t_table a_t_joining a_t_units a_t_draft a_t_reader a_t_persons a_w a_w_clock a_w_board a_w_board_entries a_w_board_markBits n x_t_placeCount x_t_personCount x_t_unitCount x_t_persons x_w_number x_w_present x_w_helpCount x_w_board_markBits) H := hP
  replace hD : va_D A (ws_PS_marks G a_t a_t_right a_t_table a_t_joining a_t_units a_t_draft a_t_reader a_t_persons a_w a_w_clock a_w_board a_w_board_entries a_w_board_markBits n x_t_placeCount x_t_personCount x_t_unitCount x_t_persons x_w_number x_w_present x_w_helpCount x_w_board_markBits) := hD
  refine lv_astore_n (lv' := [(3, .ref a_w), (0, .ref a_t), (1, .int p0), (2, .int p1)]) hx hb d_PS_marks_5 rfl hl (by decide) rfl (fun ls hl => ?_)
  refine lv_aload_n hx hb d_PS_marks_6 rfl (lv_at hl 0 rfl) ?_
  refine lv_ifnull hx hb d_PS_marks_7 ?_
  refine lv_aload_n hx hb d_PS_marks_10 rfl (lv_at hl 1 rfl) ?_
  refine lv_iload_n hx hb d_PS_marks_11 rfl (lv_at hl 3 rfl) ?_
  obtain ⟨y1, hy1, h⟩ := o_bind h
  have hPc := hP.sub (ws' := (ws_PS_isPlace G a_t a_t_right a_t_persons a_t_table a_t_joining a_t_units a_t_draft a_t_reader x_t_placeCount x_t_personCount x_t_unitCount)) [0] rfl
  have hDc := hD.sub (ws' := (ws_PS_isPlace G a_t a_t_right a_t_persons a_t_table a_t_joining a_t_units a_t_draft a_t_reader x_t_placeCount x_t_personCount x_t_unitCount)) [0] (by decide) rfl
  have hFc := va_free (wc := (ws_PS_isPlace G a_t a_t_right a_t_persons a_t_table a_t_joining a_t_units a_t_draft a_t_reader x_t_placeCount x_t_personCount x_t_unitCount)) hD hS hA [0] rfl
  refine q_call1 (va_runV (As := [.int p1]) (rest := []) ⟨hx, hb, hml, hown, hts⟩ (c_PS_isPlace l G H.size a_t a_t_right a_t_persons a_t_table a_t_joining a_t_units a_t_draft a_t_reader p1 x_t_placeCount x_t_personCount x_t_unitCount _ hy1) (cwV 1 hts (gV gw_166 gw_167 gw_3 gw_31 gw_168) rfl rfl rfl (by decide +kernel) ⟨Nat.le_of_ble_eq_true rfl, Nat.le_of_ble_eq_true rfl⟩) (pV hK hN hPc hDc (ci := 5) (q0 := 0) rfl rfl) rfl rfl hl.1 rfl (lv_room (Nat.le_of_ble_eq_true rfl)) d_PS_marks_12 ⟨Nat.le_of_ble_eq_true rfl, Nat.le_of_ble_eq_true rfl⟩) hS (fun q _ h => hFc q h) hFc (fun H1 locs hB hz hk hS => ?_)
  obtain ⟨hP, hD⟩ := q_join (wr := [(a_t_persons, .inl (G.2 3, 8, .inr (.inr (.inr (.inr x_t_persons))))), (a_w, .inr (2, [.int x_w_number, .ref a_w_board, .ref a_w_clock, .int x_w_present, .int x_w_helpCount])), (a_w_board, .inr (0, [.ref a_w_board_entries, .ref a_w_board_markBits])), (a_w_board_markBits, .inl (G.2 0, n, .inl x_w_board_markBits))]) (wn := (ws_PS_marks G a_t a_t_right a_t_table a_t_joining a_t_units a_t_draft a_t_reader a_t_persons a_w a_w_clock a_w_board a_w_board_entries a_w_board_markBits n x_t_placeCount x_t_personCount x_t_unitCount x_t_persons x_w_number x_w_present x_w_helpCount x_w_board_markBits)) hP hD [0] [1, 2, 3, 4] [4, 0, 1, 2, 3] rfl rfl (by decide) (by decide) rfl (by decide) hk hFc hB.1 hB.2
  generalize H1 = H at hP hS ⊢
  replace hP : va_P G.1 vwCl (ws_PS_marks G a_t a_t_right a_t_table a_t_joining a_t_units a_t_draft a_t_reader a_t_persons a_w a_w_clock a_w_board a_w_board_entries a_w_board_markBits n x_t_placeCount x_t_personCount x_t_unitCount x_t_persons x_w_number x_w_present x_w_helpCount x_w_board_markBits) H := hP
  replace hD : va_D A (ws_PS_marks G a_t a_t_right a_t_table a_t_joining a_t_units a_t_draft a_t_reader a_t_persons a_w a_w_clock a_w_board a_w_board_entries a_w_board_markBits n x_t_placeCount x_t_personCount x_t_unitCount x_t_persons x_w_number x_w_present x_w_helpCount x_w_board_markBits) := hD
  refine lv_if_ne (tgt := 22) hx hb d_PS_marks_15 (by decide) (fun c2 => ?_) (fun c2 => ?_)
  · replace h := (if_neg c2).symm.trans h
    refine lv_aload_n hx hb d_PS_marks_22 rfl (lv_at hl 0 rfl) ?_
    refine va_getN (D := G.1) (ci := 2) (v := .ref a_w_board) (C := "PlayStates$Person") (T := TPn) (N := 5) hx hb hts iw_2 hown hK hP 2 rfl rfl 1 (by decide) (va_Nw.use rfl (hN.1 ("PlayStates", 99, "PlayStates$Person", "board", "LPlayStates$Board;", "PlayStates") (by decide +kernel))) (fun _ h9 => h9) rfl d_PS_marks_23 ?_
    refine va_getN (D := G.1) (ci := 0) (v := .ref a_w_board_markBits) (C := "PlayStates$Board") (T := TBd) (N := 2) hx hb hts iw_0 hown hK hP 3 rfl rfl 1 (by decide) (va_Nw.use rfl (hN.1 ("PlayStates", 128, "PlayStates$Board", "markBits", "[I", "PlayStates") (by decide +kernel))) (fun _ h9 => h9) rfl d_PS_marks_26 ?_
    refine lv_iload_n hx hb d_PS_marks_29 rfl (lv_at hl 3 rfl) ?_
    obtain ⟨i3, h⟩ := o_if h
    refine va_iald (n := n) (f := x_w_board_markBits) hx hb hK hP 4 0 rfl rfl i3 d_PS_marks_30 ?_
    cases h
    exact q_iretW hx hb hr hlocks hP hD hS d_PS_marks_31
  · replace h := (if_pos c2).symm.trans h
    refine lv_iconst (v := (-1 : Int32)) hx hb d_PS_marks_18 (by decide) ?_
    refine lv_goto (tgt := 31) hx hb d_PS_marks_19 (by decide) ?_
    cases h
    exact q_iretW hx hb hr hlocks hP hD hS d_PS_marks_31


-- PlayStates.marks(II)I 
def ws_PS_marks_no (G : gG) (a_t a_t_right a_t_table a_t_joining a_t_units a_t_draft a_t_reader a_t_persons : Nat)  (x_t_placeCount : Int32) (x_t_personCount : Int32) (x_t_unitCount : Int32) (x_t_persons : Nat → Option Nat) : va_W := [(a_t, .inr (5, [.int x_t_placeCount, .ref a_t_right, .ref a_t_persons, .int x_t_personCount, .ref a_t_table, .ref a_t_joining, .ref a_t_units, .int x_t_unitCount, .ref a_t_draft, .ref a_t_reader])), (a_t_persons, .inl (G.2 3, 8, .inr (.inr (.inr (.inr x_t_persons)))))]
def f_PS_marks_no  (p0 : Int32) (p1 : Int32) (x_t_placeCount : Int32) (x_t_personCount : Int32) (x_t_unitCount : Int32) (x_t_persons : Nat → Option Nat) : Option (Int32) :=
  some (-1 : Int32)
set_option maxHeartbeats 4000000 in
set_option maxRecDepth 100000 in
theorem c_PS_marks_no (l : Launch) (G : gG) (sz : Nat) (a_t a_t_right a_t_table a_t_joining a_t_units a_t_draft a_t_reader a_t_persons : Nat)  (p0 : Int32) (p1 : Int32) (x_t_placeCount : Int32) (x_t_personCount : Int32) (x_t_unitCount : Int32) (x_t_persons : Nat → Option Nat) (r : Int32) (h : f_PS_marks_no p0 p1 x_t_placeCount x_t_personCount x_t_unitCount x_t_persons = some r)  (hw : f_PS_find p0 x_t_placeCount x_t_personCount x_t_unitCount x_t_persons = some none) : cN l y_PS_marks w_PS_marks { frames := 1, cells := 0, slots := 0, locals := 21 } G sz [.ref a_t, .int p0, .int p1] (ws_PS_marks_no G a_t a_t_right a_t_table a_t_joining a_t_units a_t_draft a_t_reader a_t_persons x_t_placeCount x_t_personCount x_t_unitCount x_t_persons) (some (.int r)) (wB G (ws_PS_marks_no G a_t a_t_right a_t_table a_t_joining a_t_units a_t_draft a_t_reader a_t_persons x_t_placeCount x_t_personCount x_t_unitCount x_t_persons)) 0 0 := by
  refine cN_ofW (cc := prog_1_method_9_code) (maxL := 4) (ret := (some .int)) (by decide) rfl (Nat.le_of_ble_eq_true rfl) ?_
  intro p e s m args below meth c A H locs ls hx hb hr hts hown hlocks hin hml hK hN hP hD hA hS hl
  replace hl : lv_has ls 4 [(0, .ref a_t), (1, .int p0), (2, .int p1)] := hl
  replace hown : s.vm.findClass "PlayStates" = some m.cls := hown
  unfold f_PS_marks_no at h
  refine lv_aload_n hx hb d_PS_marks_0 rfl (lv_at hl 0 rfl) ?_
  refine lv_iload_n hx hb d_PS_marks_1 rfl (lv_at hl 1 rfl) ?_
  have hPc := hP.sub (ws' := (ws_PS_find G a_t a_t_right a_t_table a_t_joining a_t_units a_t_draft a_t_reader a_t_persons x_t_placeCount x_t_personCount x_t_unitCount x_t_persons)) [0, 1] rfl
  have hDc := hD.sub (ws' := (ws_PS_find G a_t a_t_right a_t_table a_t_joining a_t_units a_t_draft a_t_reader a_t_persons x_t_placeCount x_t_personCount x_t_unitCount x_t_persons)) [0, 1] (by decide) rfl
  have hFc := va_free (wc := (ws_PS_find G a_t a_t_right a_t_table a_t_joining a_t_units a_t_draft a_t_reader a_t_persons x_t_placeCount x_t_personCount x_t_unitCount x_t_persons)) hD hS hA [0, 1] rfl
  refine q_call1 (va_runV (As := [.int p0]) (rest := []) ⟨hx, hb, hml, hown, hts⟩ (c_PS_find l G H.size a_t a_t_right a_t_table a_t_joining a_t_units a_t_draft a_t_reader a_t_persons p0 x_t_placeCount x_t_personCount x_t_unitCount x_t_persons _ hw) (cwV 1 hts (gV gw_163 gw_164 gw_2 gw_31 gw_165) rfl rfl rfl (by decide +kernel) ⟨Nat.le_of_ble_eq_true rfl, Nat.le_of_ble_eq_true rfl⟩) (pV hK hN hPc hDc (ci := 5) (q0 := 0) rfl rfl) rfl rfl hl.1 rfl (lv_room (Nat.le_of_ble_eq_true rfl)) d_PS_marks_2 ⟨Nat.le_of_ble_eq_true rfl, Nat.le_of_ble_eq_true rfl⟩) hS (fun q _ h => hFc q h) hFc (fun H1 locs hB hz hk hS => ?_)
  obtain ⟨hP, hD⟩ := q_joinA hFc hB.1 hB.2
  generalize H1 = H at hP hS ⊢
  replace hP : va_P G.1 vwCl (ws_PS_marks_no G a_t a_t_right a_t_table a_t_joining a_t_units a_t_draft a_t_reader a_t_persons x_t_placeCount x_t_personCount x_t_unitCount x_t_persons) H := hP
  replace hD : va_D A (ws_PS_marks_no G a_t a_t_right a_t_table a_t_joining a_t_units a_t_draft a_t_reader a_t_persons x_t_placeCount x_t_personCount x_t_unitCount x_t_persons) := hD
  refine lv_astore_nN (lv' := [(3, .null), (0, .ref a_t), (1, .int p0), (2, .int p1)]) hx hb d_PS_marks_5 rfl hl (by decide) rfl (fun ls hl => ?_)
  refine lv_aload_nN hx hb d_PS_marks_6 rfl (lv_at hl 0 rfl) ?_
  refine lv_ifnullN (tgt := 18) hx hb d_PS_marks_7 (by decide) ?_
  refine lv_iconst (v := (-1 : Int32)) hx hb d_PS_marks_18 (by decide) ?_
  refine lv_goto (tgt := 31) hx hb d_PS_marks_19 (by decide) ?_
  cases h
  exact q_iretW hx hb hr hlocks hP hD hS d_PS_marks_31

theorem d_PS_helps_0 : decode prog_1_method_13_code 0 = .ok (.aload_n 0, 1) := by decide +kernel
theorem d_PS_helps_1 : decode prog_1_method_13_code 1 = .ok (.iload_n 1, 1) := by decide +kernel
theorem d_PS_helps_2 : decode prog_1_method_13_code 2 = .ok (.invokevirtual 75, 3) := by decide +kernel
theorem d_PS_helps_5 : decode prog_1_method_13_code 5 = .ok (.astore_n 2, 1) := by decide +kernel
theorem d_PS_helps_6 : decode prog_1_method_13_code 6 = .ok (.aload_n 2, 1) := by decide +kernel
theorem d_PS_helps_7 : decode prog_1_method_13_code 7 = .ok (.ifnonnull 7, 3) := by decide +kernel
theorem d_PS_helps_10 : decode prog_1_method_13_code 10 = .ok (.iconst (-1), 1) := by decide +kernel
theorem d_PS_helps_11 : decode prog_1_method_13_code 11 = .ok (.goto 7, 3) := by decide +kernel
theorem d_PS_helps_14 : decode prog_1_method_13_code 14 = .ok (.aload_n 2, 1) := by decide +kernel
theorem d_PS_helps_15 : decode prog_1_method_13_code 15 = .ok (.getfield 139, 3) := by decide +kernel
theorem d_PS_helps_18 : decode prog_1_method_13_code 18 = .ok (.ireturn, 1) := by decide +kernel
-- PlayStates.helps(I)I 
def ws_PS_helps (G : gG) (a_t a_t_right a_t_table a_t_joining a_t_units a_t_draft a_t_reader a_t_persons a_w a_w_board a_w_clock : Nat)  (x_t_placeCount : Int32) (x_t_personCount : Int32) (x_t_unitCount : Int32) (x_t_persons : Nat → Option Nat) (x_w_number : Int32) (x_w_present : Int32) (x_w_helpCount : Int32) : va_W := [(a_t, .inr (5, [.int x_t_placeCount, .ref a_t_right, .ref a_t_persons, .int x_t_personCount, .ref a_t_table, .ref a_t_joining, .ref a_t_units, .int x_t_unitCount, .ref a_t_draft, .ref a_t_reader])), (a_t_persons, .inl (G.2 3, 8, .inr (.inr (.inr (.inr x_t_persons))))), (a_w, .inr (2, [.int x_w_number, .ref a_w_board, .ref a_w_clock, .int x_w_present, .int x_w_helpCount]))]
def f_PS_helps  (p0 : Int32) (x_t_placeCount : Int32) (x_t_personCount : Int32) (x_t_unitCount : Int32) (x_t_persons : Nat → Option Nat) (x_w_number : Int32) (x_w_present : Int32) (x_w_helpCount : Int32) : Option (Int32) :=
  some x_w_helpCount
set_option maxHeartbeats 4000000 in
set_option maxRecDepth 100000 in
theorem c_PS_helps (l : Launch) (G : gG) (sz : Nat) (a_t a_t_right a_t_table a_t_joining a_t_units a_t_draft a_t_reader a_t_persons a_w a_w_board a_w_clock : Nat)  (p0 : Int32) (x_t_placeCount : Int32) (x_t_personCount : Int32) (x_t_unitCount : Int32) (x_t_persons : Nat → Option Nat) (x_w_number : Int32) (x_w_present : Int32) (x_w_helpCount : Int32) (r : Int32) (h : f_PS_helps p0 x_t_placeCount x_t_personCount x_t_unitCount x_t_persons x_w_number x_w_present x_w_helpCount = some r)  (hw : f_PS_find p0 x_t_placeCount x_t_personCount x_t_unitCount x_t_persons = some (some a_w)) : cN l y_PS_helps w_PS_helps { frames := 1, cells := 0, slots := 0, locals := 21 } G sz [.ref a_t, .int p0] (ws_PS_helps G a_t a_t_right a_t_table a_t_joining a_t_units a_t_draft a_t_reader a_t_persons a_w a_w_board a_w_clock x_t_placeCount x_t_personCount x_t_unitCount x_t_persons x_w_number x_w_present x_w_helpCount) (some (.int r)) (wB G (ws_PS_helps G a_t a_t_right a_t_table a_t_joining a_t_units a_t_draft a_t_reader a_t_persons a_w a_w_board a_w_clock x_t_placeCount x_t_personCount x_t_unitCount x_t_persons x_w_number x_w_present x_w_helpCount)) 0 0 := by
  refine cN_ofW (cc := prog_1_method_13_code) (maxL := 3) (ret := (some .int)) (by decide) rfl (Nat.le_of_ble_eq_true rfl) ?_
  intro p e s m args below meth c A H locs ls hx hb hr hts hown hlocks hin hml hK hN hP hD hA hS hl
  replace hl : lv_has ls 3 [(0, .ref a_t), (1, .int p0)] := hl
  replace hown : s.vm.findClass "PlayStates" = some m.cls := hown
  unfold f_PS_helps at h
  refine lv_aload_n hx hb d_PS_helps_0 rfl (lv_at hl 0 rfl) ?_
  refine lv_iload_n hx hb d_PS_helps_1 rfl (lv_at hl 1 rfl) ?_
  have hPc := hP.sub (ws' := (ws_PS_find G a_t a_t_right a_t_table a_t_joining a_t_units a_t_draft a_t_reader a_t_persons x_t_placeCount x_t_personCount x_t_unitCount x_t_persons)) [0, 1] rfl
  have hDc := hD.sub (ws' := (ws_PS_find G a_t a_t_right a_t_table a_t_joining a_t_units a_t_draft a_t_reader a_t_persons x_t_placeCount x_t_personCount x_t_unitCount x_t_persons)) [0, 1] (by decide) rfl
  have hFc := va_free (wc := (ws_PS_find G a_t a_t_right a_t_table a_t_joining a_t_units a_t_draft a_t_reader a_t_persons x_t_placeCount x_t_personCount x_t_unitCount x_t_persons)) hD hS hA [0, 1] rfl
  refine q_call1 (va_runV (As := [.int p0]) (rest := []) ⟨hx, hb, hml, hown, hts⟩ (c_PS_find l G H.size a_t a_t_right a_t_table a_t_joining a_t_units a_t_draft a_t_reader a_t_persons p0 x_t_placeCount x_t_personCount x_t_unitCount x_t_persons _ hw) (cwV 1 hts (gV gw_163 gw_164 gw_2 gw_31 gw_165) rfl rfl rfl (by decide +kernel) ⟨Nat.le_of_ble_eq_true rfl, Nat.le_of_ble_eq_true rfl⟩) (pV hK hN hPc hDc (ci := 5) (q0 := 0) rfl rfl) rfl rfl hl.1 rfl (lv_room (Nat.le_of_ble_eq_true rfl)) d_PS_helps_2 ⟨Nat.le_of_ble_eq_true rfl, Nat.le_of_ble_eq_true rfl⟩) hS (fun q _ h => hFc q h) hFc (fun H1 locs hB hz hk hS => ?_)
  obtain ⟨hP, hD⟩ := q_join (wr := [(a_w, .inr (2, [.int x_w_number, .ref a_w_board, .ref a_w_clock, .int x_w_present, .int x_w_helpCount]))]) (wn := (ws_PS_helps G a_t a_t_right a_t_table a_t_joining a_t_units a_t_draft a_t_reader a_t_persons a_w a_w_board a_w_clock x_t_placeCount x_t_personCount x_t_unitCount x_t_persons x_w_number x_w_present x_w_helpCount)) hP hD [0, 1] [2] [1, 2, 0] rfl rfl (by decide) (by decide) rfl (by decide) hk hFc hB.1 hB.2
  generalize H1 = H at hP hS ⊢
  replace hP : va_P G.1 vwCl (ws_PS_helps G a_t a_t_right a_t_table a_t_joining a_t_units a_t_draft a_t_reader a_t_persons a_w a_w_board a_w_clock x_t_placeCount x_t_personCount x_t_unitCount x_t_persons x_w_number x_w_present x_w_helpCount) H := hP
  replace hD : va_D A (ws_PS_helps G a_t a_t_right a_t_table a_t_joining a_t_units a_t_draft a_t_reader a_t_persons a_w a_w_board a_w_clock x_t_placeCount x_t_personCount x_t_unitCount x_t_persons x_w_number x_w_present x_w_helpCount) := hD
  refine lv_astore_n (lv' := [(2, .ref a_w), (0, .ref a_t), (1, .int p0)]) hx hb d_PS_helps_5 rfl hl (by decide) rfl (fun ls hl => ?_)
  refine lv_aload_n hx hb d_PS_helps_6 rfl (lv_at hl 0 rfl) ?_
  refine lv_ifnonnull (tgt := 14) hx hb d_PS_helps_7 (by decide) ?_
  refine lv_aload_n hx hb d_PS_helps_14 rfl (lv_at hl 0 rfl) ?_
  refine va_getN (D := G.1) (ci := 2) (v := .int x_w_helpCount) (C := "PlayStates$Person") (T := TPn) (N := 5) hx hb hts iw_2 hown hK hP 2 rfl rfl 4 (by decide) (va_Nw.use rfl (hN.1 ("PlayStates", 139, "PlayStates$Person", "helpCount", "I", "PlayStates") (by decide +kernel))) (fun _ h9 => h9) rfl d_PS_helps_15 ?_
  cases h
  exact q_iretW hx hb hr hlocks hP hD hS d_PS_helps_18


-- PlayStates.helps(I)I 
def ws_PS_helps_no (G : gG) (a_t a_t_right a_t_table a_t_joining a_t_units a_t_draft a_t_reader a_t_persons : Nat)  (x_t_placeCount : Int32) (x_t_personCount : Int32) (x_t_unitCount : Int32) (x_t_persons : Nat → Option Nat) : va_W := [(a_t, .inr (5, [.int x_t_placeCount, .ref a_t_right, .ref a_t_persons, .int x_t_personCount, .ref a_t_table, .ref a_t_joining, .ref a_t_units, .int x_t_unitCount, .ref a_t_draft, .ref a_t_reader])), (a_t_persons, .inl (G.2 3, 8, .inr (.inr (.inr (.inr x_t_persons)))))]
def f_PS_helps_no  (p0 : Int32) (x_t_placeCount : Int32) (x_t_personCount : Int32) (x_t_unitCount : Int32) (x_t_persons : Nat → Option Nat) : Option (Int32) :=
  some (-1 : Int32)
set_option maxHeartbeats 4000000 in
set_option maxRecDepth 100000 in
theorem c_PS_helps_no (l : Launch) (G : gG) (sz : Nat) (a_t a_t_right a_t_table a_t_joining a_t_units a_t_draft a_t_reader a_t_persons : Nat)  (p0 : Int32) (x_t_placeCount : Int32) (x_t_personCount : Int32) (x_t_unitCount : Int32) (x_t_persons : Nat → Option Nat) (r : Int32) (h : f_PS_helps_no p0 x_t_placeCount x_t_personCount x_t_unitCount x_t_persons = some r)  (hw : f_PS_find p0 x_t_placeCount x_t_personCount x_t_unitCount x_t_persons = some none) : cN l y_PS_helps w_PS_helps { frames := 1, cells := 0, slots := 0, locals := 21 } G sz [.ref a_t, .int p0] (ws_PS_helps_no G a_t a_t_right a_t_table a_t_joining a_t_units a_t_draft a_t_reader a_t_persons x_t_placeCount x_t_personCount x_t_unitCount x_t_persons) (some (.int r)) (wB G (ws_PS_helps_no G a_t a_t_right a_t_table a_t_joining a_t_units a_t_draft a_t_reader a_t_persons x_t_placeCount x_t_personCount x_t_unitCount x_t_persons)) 0 0 := by
  refine cN_ofW (cc := prog_1_method_13_code) (maxL := 3) (ret := (some .int)) (by decide) rfl (Nat.le_of_ble_eq_true rfl) ?_
  intro p e s m args below meth c A H locs ls hx hb hr hts hown hlocks hin hml hK hN hP hD hA hS hl
  replace hl : lv_has ls 3 [(0, .ref a_t), (1, .int p0)] := hl
  replace hown : s.vm.findClass "PlayStates" = some m.cls := hown
  unfold f_PS_helps_no at h
  refine lv_aload_n hx hb d_PS_helps_0 rfl (lv_at hl 0 rfl) ?_
  refine lv_iload_n hx hb d_PS_helps_1 rfl (lv_at hl 1 rfl) ?_
  have hPc := hP.sub (ws' := (ws_PS_find G a_t a_t_right a_t_table a_t_joining a_t_units a_t_draft a_t_reader a_t_persons x_t_placeCount x_t_personCount x_t_unitCount x_t_persons)) [0, 1] rfl
  have hDc := hD.sub (ws' := (ws_PS_find G a_t a_t_right a_t_table a_t_joining a_t_units a_t_draft a_t_reader a_t_persons x_t_placeCount x_t_personCount x_t_unitCount x_t_persons)) [0, 1] (by decide) rfl
  have hFc := va_free (wc := (ws_PS_find G a_t a_t_right a_t_table a_t_joining a_t_units a_t_draft a_t_reader a_t_persons x_t_placeCount x_t_personCount x_t_unitCount x_t_persons)) hD hS hA [0, 1] rfl
  refine q_call1 (va_runV (As := [.int p0]) (rest := []) ⟨hx, hb, hml, hown, hts⟩ (c_PS_find l G H.size a_t a_t_right a_t_table a_t_joining a_t_units a_t_draft a_t_reader a_t_persons p0 x_t_placeCount x_t_personCount x_t_unitCount x_t_persons _ hw) (cwV 1 hts (gV gw_163 gw_164 gw_2 gw_31 gw_165) rfl rfl rfl (by decide +kernel) ⟨Nat.le_of_ble_eq_true rfl, Nat.le_of_ble_eq_true rfl⟩) (pV hK hN hPc hDc (ci := 5) (q0 := 0) rfl rfl) rfl rfl hl.1 rfl (lv_room (Nat.le_of_ble_eq_true rfl)) d_PS_helps_2 ⟨Nat.le_of_ble_eq_true rfl, Nat.le_of_ble_eq_true rfl⟩) hS (fun q _ h => hFc q h) hFc (fun H1 locs hB hz hk hS => ?_)
  obtain ⟨hP, hD⟩ := q_joinA hFc hB.1 hB.2
  generalize H1 = H at hP hS ⊢
  replace hP : va_P G.1 vwCl (ws_PS_helps_no G a_t a_t_right a_t_table a_t_joining a_t_units a_t_draft a_t_reader a_t_persons x_t_placeCount x_t_personCount x_t_unitCount x_t_persons) H := hP
  replace hD : va_D A (ws_PS_helps_no G a_t a_t_right a_t_table a_t_joining a_t_units a_t_draft a_t_reader a_t_persons x_t_placeCount x_t_personCount x_t_unitCount x_t_persons) := hD
  refine lv_astore_nN (lv' := [(2, .null), (0, .ref a_t), (1, .int p0)]) hx hb d_PS_helps_5 rfl hl (by decide) rfl (fun ls hl => ?_)
  refine lv_aload_nN hx hb d_PS_helps_6 rfl (lv_at hl 0 rfl) ?_
  refine lv_ifnonnullN hx hb d_PS_helps_7 ?_
  refine lv_iconst (v := (-1 : Int32)) hx hb d_PS_helps_10 (by decide) ?_
  refine lv_goto (tgt := 18) hx hb d_PS_helps_11 (by decide) ?_
  cases h
  exact q_iretW hx hb hr hlocks hP hD hS d_PS_helps_18

theorem gw_225 : (.code ⟨"PlayStates$RowTable", "countBranches", "(I)I"⟩ prog_5_method_5_code 4 (some .int) : Cond) ∈ GW := gT 251 (by decide +kernel) (by decide +kernel)
theorem gw_222 : (.methodLink "PlayStates" 121 ⟨"PlayStates$RowTable", "countBranches", "(I)I"⟩ : Cond) ∈ GW := gT 248 (by decide +kernel) (by decide +kernel)
theorem gw_223 : (.instanceMethod ⟨"PlayStates$RowTable", "countBranches", "(I)I"⟩ : Cond) ∈ GW := gT 249 (by decide +kernel) (by decide +kernel)
theorem gw_224 : (.selects "PlayStates$RowTable" ⟨"PlayStates$RowTable", "countBranches", "(I)I"⟩ ⟨"PlayStates$RowTable", "countBranches", "(I)I"⟩ : Cond) ∈ GW := gT 250 (by decide +kernel) (by decide +kernel)
theorem d_PS_branches_0 : decode prog_1_method_7_code 0 = .ok (.aload_n 0, 1) := by decide +kernel
theorem d_PS_branches_1 : decode prog_1_method_7_code 1 = .ok (.iload_n 1, 1) := by decide +kernel
theorem d_PS_branches_2 : decode prog_1_method_7_code 2 = .ok (.invokevirtual 75, 3) := by decide +kernel
theorem d_PS_branches_5 : decode prog_1_method_7_code 5 = .ok (.astore_n 2, 1) := by decide +kernel
theorem d_PS_branches_6 : decode prog_1_method_7_code 6 = .ok (.aload_n 2, 1) := by decide +kernel
theorem d_PS_branches_7 : decode prog_1_method_7_code 7 = .ok (.ifnonnull 7, 3) := by decide +kernel
theorem d_PS_branches_10 : decode prog_1_method_7_code 10 = .ok (.iconst (-1), 1) := by decide +kernel
theorem d_PS_branches_11 : decode prog_1_method_7_code 11 = .ok (.goto 14, 3) := by decide +kernel
theorem d_PS_branches_14 : decode prog_1_method_7_code 14 = .ok (.aload_n 0, 1) := by decide +kernel
theorem d_PS_branches_15 : decode prog_1_method_7_code 15 = .ok (.getfield 35, 3) := by decide +kernel
theorem d_PS_branches_18 : decode prog_1_method_7_code 18 = .ok (.aload_n 2, 1) := by decide +kernel
theorem d_PS_branches_19 : decode prog_1_method_7_code 19 = .ok (.getfield 93, 3) := by decide +kernel
theorem d_PS_branches_22 : decode prog_1_method_7_code 22 = .ok (.invokevirtual 121, 3) := by decide +kernel
theorem d_PS_branches_25 : decode prog_1_method_7_code 25 = .ok (.ireturn, 1) := by decide +kernel
-- PlayStates.branches(I)I 
def ws_PS_branches (G : gG) (a_t a_t_right a_t_joining a_t_units a_t_draft a_t_reader a_t_persons a_t_table a_t_table_place a_t_table_told a_t_table_before a_t_table_behind a_w a_w_board a_w_clock : Nat)  (x_t_placeCount : Int32) (x_t_personCount : Int32) (x_t_unitCount : Int32) (x_t_persons : Nat → Option Nat) (x_t_table_count : Int32) (x_t_table_behind : Nat → Int32) (x_w_number : Int32) (x_w_present : Int32) (x_w_helpCount : Int32) : va_W := [(a_t, .inr (5, [.int x_t_placeCount, .ref a_t_right, .ref a_t_persons, .int x_t_personCount, .ref a_t_table, .ref a_t_joining, .ref a_t_units, .int x_t_unitCount, .ref a_t_draft, .ref a_t_reader])), (a_t_persons, .inl (G.2 3, 8, .inr (.inr (.inr (.inr x_t_persons))))), (a_t_table, .inr (3, [.ref a_t_table_place, .ref a_t_table_told, .ref a_t_table_before, .ref a_t_table_behind, .int x_t_table_count])), (a_t_table_behind, .inl (G.2 0, 600, .inl x_t_table_behind)), (a_w, .inr (2, [.int x_w_number, .ref a_w_board, .ref a_w_clock, .int x_w_present, .int x_w_helpCount]))]
def f_PS_branches (fu : Nat)  (p0 : Int32) (x_t_placeCount : Int32) (x_t_personCount : Int32) (x_t_unitCount : Int32) (x_t_persons : Nat → Option Nat) (x_t_table_count : Int32) (x_t_table_behind : Nat → Int32) (x_w_number : Int32) (x_w_present : Int32) (x_w_helpCount : Int32) : Option (Int32) :=
  ((f_Rt_countBranches fu x_w_present x_t_table_count x_t_table_behind).bind fun y1 => some y1)
set_option maxHeartbeats 4000000 in
set_option maxRecDepth 100000 in
theorem c_PS_branches (l : Launch) (G : gG) (sz : Nat) (a_t a_t_right a_t_joining a_t_units a_t_draft a_t_reader a_t_persons a_t_table a_t_table_place a_t_table_told a_t_table_before a_t_table_behind a_w a_w_board a_w_clock : Nat) (fu : Nat)  (p0 : Int32) (x_t_placeCount : Int32) (x_t_personCount : Int32) (x_t_unitCount : Int32) (x_t_persons : Nat → Option Nat) (x_t_table_count : Int32) (x_t_table_behind : Nat → Int32) (x_w_number : Int32) (x_w_present : Int32) (x_w_helpCount : Int32) (r : Int32) (h : f_PS_branches fu p0 x_t_placeCount x_t_personCount x_t_unitCount x_t_persons x_t_table_count x_t_table_behind x_w_number x_w_present x_w_helpCount = some r)  (hw : f_PS_find p0 x_t_placeCount x_t_personCount x_t_unitCount x_t_persons = some (some a_w)) : cN l y_PS_branches w_PS_branches { frames := 1, cells := 0, slots := 0, locals := 23 } G sz [.ref a_t, .int p0] (ws_PS_branches G a_t a_t_right a_t_joining a_t_units a_t_draft a_t_reader a_t_persons a_t_table a_t_table_place a_t_table_told a_t_table_before a_t_table_behind a_w a_w_board a_w_clock x_t_placeCount x_t_personCount x_t_unitCount x_t_persons x_t_table_count x_t_table_behind x_w_number x_w_present x_w_helpCount) (some (.int r)) (wB G (ws_PS_branches G a_t a_t_right a_t_joining a_t_units a_t_draft a_t_reader a_t_persons a_t_table a_t_table_place a_t_table_told a_t_table_before a_t_table_behind a_w a_w_board a_w_clock x_t_placeCount x_t_personCount x_t_unitCount x_t_persons x_t_table_count x_t_table_behind x_w_number x_w_present x_w_helpCount)) 0 0 := by
  refine cN_ofW (cc := prog_1_method_7_code) (maxL := 3) (ret := (some .int)) (by decide) rfl (Nat.le_of_ble_eq_true rfl) ?_
  intro p e s m args below meth c A H locs ls hx hb hr hts hown hlocks hin hml hK hN hP hD hA hS hl
  replace hl : lv_has ls 3 [(0, .ref a_t), (1, .int p0)] := hl
  replace hown : s.vm.findClass "PlayStates" = some m.cls := hown
  unfold f_PS_branches at h
  refine lv_aload_n hx hb d_PS_branches_0 rfl (lv_at hl 0 rfl) ?_
  refine lv_iload_n hx hb d_PS_branches_1 rfl (lv_at hl 1 rfl) ?_
  have hPc := hP.sub (ws' := (ws_PS_find G a_t a_t_right a_t_table a_t_joining a_t_units a_t_draft a_t_reader a_t_persons x_t_placeCount x_t_personCount x_t_unitCount x_t_persons)) [0, 1] rfl
  have hDc := hD.sub (ws' := (ws_PS_find G a_t a_t_right a_t_table a_t_joining a_t_units a_t_draft a_t_reader a_t_persons x_t_placeCount x_t_personCount x_t_unitCount x_t_persons)) [0, 1] (by decide) rfl
  have hFc := va_free (wc := (ws_PS_find G a_t a_t_right a_t_table a_t_joining a_t_units a_t_draft a_t_reader a_t_persons x_t_placeCount x_t_personCount x_t_unitCount x_t_persons)) hD hS hA [0, 1] rfl
  refine q_call1 (va_runV (As := [.int p0]) (rest := []) ⟨hx, hb, hml, hown, hts⟩ (c_PS_find l G H.size a_t a_t_right a_t_table a_t_joining a_t_units a_t_draft a_t_reader a_t_persons p0 x_t_placeCount x_t_personCount x_t_unitCount x_t_persons _ hw) (cwV 1 hts (gV gw_163 gw_164 gw_2 gw_31 gw_165) rfl rfl rfl (by decide +kernel) ⟨Nat.le_of_ble_eq_true rfl, Nat.le_of_ble_eq_true rfl⟩) (pV hK hN hPc hDc (ci := 5) (q0 := 0) rfl rfl) rfl rfl hl.1 rfl (lv_room (Nat.le_of_ble_eq_true rfl)) d_PS_branches_2 ⟨Nat.le_of_ble_eq_true rfl, Nat.le_of_ble_eq_true rfl⟩) hS (fun q _ h => hFc q h) hFc (fun H1 locs hB hz hk hS => ?_)
  obtain ⟨hP, hD⟩ := q_join (wr := [(a_t_table, .inr (3, [.ref a_t_table_place, .ref a_t_table_told, .ref a_t_table_before, .ref a_t_table_behind, .int x_t_table_count])), (a_t_table_behind, .inl (G.2 0, 600, .inl x_t_table_behind)), (a_w, .inr (2, [.int x_w_number, .ref a_w_board, .ref a_w_clock, .int x_w_present, .int x_w_helpCount]))]) (wn := (ws_PS_branches G a_t a_t_right a_t_joining a_t_units a_t_draft a_t_reader a_t_persons a_t_table a_t_table_place a_t_table_told a_t_table_before a_t_table_behind a_w a_w_board a_w_clock x_t_placeCount x_t_personCount x_t_unitCount x_t_persons x_t_table_count x_t_table_behind x_w_number x_w_present x_w_helpCount)) hP hD [0, 1] [2, 3, 4] [3, 4, 0, 1, 2] rfl rfl (by decide) (by decide) rfl (by decide) hk hFc hB.1 hB.2
  generalize H1 = H at hP hS ⊢
  replace hP : va_P G.1 vwCl (ws_PS_branches G a_t a_t_right a_t_joining a_t_units a_t_draft a_t_reader a_t_persons a_t_table a_t_table_place a_t_table_told a_t_table_before a_t_table_behind a_w a_w_board a_w_clock x_t_placeCount x_t_personCount x_t_unitCount x_t_persons x_t_table_count x_t_table_behind x_w_number x_w_present x_w_helpCount) H := hP
  replace hD : va_D A (ws_PS_branches G a_t a_t_right a_t_joining a_t_units a_t_draft a_t_reader a_t_persons a_t_table a_t_table_place a_t_table_told a_t_table_before a_t_table_behind a_w a_w_board a_w_clock x_t_placeCount x_t_personCount x_t_unitCount x_t_persons x_t_table_count x_t_table_behind x_w_number x_w_present x_w_helpCount) := hD
  refine lv_astore_n (lv' := [(2, .ref a_w), (0, .ref a_t), (1, .int p0)]) hx hb d_PS_branches_5 rfl hl (by decide) rfl (fun ls hl => ?_)
  refine lv_aload_n hx hb d_PS_branches_6 rfl (lv_at hl 0 rfl) ?_
  refine lv_ifnonnull (tgt := 14) hx hb d_PS_branches_7 (by decide) ?_
  refine lv_aload_n hx hb d_PS_branches_14 rfl (lv_at hl 1 rfl) ?_
  refine va_get (D := G.1) (ci := 5) (v := .ref a_t_table) (C := "PlayStates") (T := TPS) (N := 10) hx hb hts iw_5 hown hK hP 0 rfl rfl 4 (by decide) (hts _ gw_106) (fun _ h9 => h9) rfl d_PS_branches_15 ?_
  refine lv_aload_n hx hb d_PS_branches_18 rfl (lv_at hl 0 rfl) ?_
  refine va_getN (D := G.1) (ci := 2) (v := .int x_w_present) (C := "PlayStates$Person") (T := TPn) (N := 5) hx hb hts iw_2 hown hK hP 4 rfl rfl 3 (by decide) (va_Nw.use rfl (hN.1 ("PlayStates", 93, "PlayStates$Person", "present", "I", "PlayStates") (by decide +kernel))) (fun _ h9 => h9) rfl d_PS_branches_19 ?_
  obtain ⟨y1, hy1, h⟩ := o_bind h
  have hPc := hP.sub (ws' := (ws_Rt_countBranches G a_t_table a_t_table_place a_t_table_told a_t_table_before a_t_table_behind x_t_table_count x_t_table_behind)) [2, 3] rfl
  have hDc := hD.sub (ws' := (ws_Rt_countBranches G a_t_table a_t_table_place a_t_table_told a_t_table_before a_t_table_behind x_t_table_count x_t_table_behind)) [2, 3] (by decide) rfl
  have hFc := va_free (wc := (ws_Rt_countBranches G a_t_table a_t_table_place a_t_table_told a_t_table_before a_t_table_behind x_t_table_count x_t_table_behind)) hD hS hA [2, 3] rfl
  refine q_call1 (va_runV (As := [.int x_w_present]) (rest := []) ⟨hx, hb, hml, hown, hts⟩ (c_Rt_countBranches l G H.size a_t_table a_t_table_place a_t_table_told a_t_table_before a_t_table_behind fu x_w_present x_t_table_count x_t_table_behind _ hy1) (cwV 1 hts (gV gw_222 gw_223 gw_224 gw_33 gw_225) rfl rfl rfl (by decide +kernel) ⟨Nat.le_of_ble_eq_true rfl, Nat.le_of_ble_eq_true rfl⟩) (pV hK hN hPc hDc (ci := 3) (q0 := 0) rfl rfl) rfl rfl hl.1 rfl (lv_room (Nat.le_of_ble_eq_true rfl)) d_PS_branches_22 ⟨Nat.le_of_ble_eq_true rfl, Nat.le_of_ble_eq_true rfl⟩) hS (fun q _ h => hFc q h) hFc (fun H1 locs hB hz hk hS => ?_)
  obtain ⟨hP, hD⟩ := q_join (wr := [(a_t, .inr (5, [.int x_t_placeCount, .ref a_t_right, .ref a_t_persons, .int x_t_personCount, .ref a_t_table, .ref a_t_joining, .ref a_t_units, .int x_t_unitCount, .ref a_t_draft, .ref a_t_reader])), (a_t_persons, .inl (G.2 3, 8, .inr (.inr (.inr (.inr x_t_persons))))), (a_w, .inr (2, [.int x_w_number, .ref a_w_board, .ref a_w_clock, .int x_w_present, .int x_w_helpCount]))]) (wn := (ws_PS_branches G a_t a_t_right a_t_joining a_t_units a_t_draft a_t_reader a_t_persons a_t_table a_t_table_place a_t_table_told a_t_table_before a_t_table_behind a_w a_w_board a_w_clock x_t_placeCount x_t_personCount x_t_unitCount x_t_persons x_t_table_count x_t_table_behind x_w_number x_w_present x_w_helpCount)) hP hD [2, 3] [0, 1, 4] [0, 1, 3, 4, 2] rfl rfl (by decide) (by decide) rfl (by decide) hk hFc hB.1 hB.2
  generalize H1 = H at hP hS ⊢
  replace hP : va_P G.1 vwCl (ws_PS_branches G a_t a_t_right a_t_joining a_t_units a_t_draft a_t_reader a_t_persons a_t_table a_t_table_place a_t_table_told a_t_table_before a_t_table_behind a_w a_w_board a_w_clock x_t_placeCount x_t_personCount x_t_unitCount x_t_persons x_t_table_count x_t_table_behind x_w_number x_w_present x_w_helpCount) H := hP
  replace hD : va_D A (ws_PS_branches G a_t a_t_right a_t_joining a_t_units a_t_draft a_t_reader a_t_persons a_t_table a_t_table_place a_t_table_told a_t_table_before a_t_table_behind a_w a_w_board a_w_clock x_t_placeCount x_t_personCount x_t_unitCount x_t_persons x_t_table_count x_t_table_behind x_w_number x_w_present x_w_helpCount) := hD
  cases h
  exact q_iretW hx hb hr hlocks hP hD hS d_PS_branches_25


-- PlayStates.branches(I)I 
def ws_PS_branches_no (G : gG) (a_t a_t_right a_t_table a_t_joining a_t_units a_t_draft a_t_reader a_t_persons : Nat)  (x_t_placeCount : Int32) (x_t_personCount : Int32) (x_t_unitCount : Int32) (x_t_persons : Nat → Option Nat) : va_W := [(a_t, .inr (5, [.int x_t_placeCount, .ref a_t_right, .ref a_t_persons, .int x_t_personCount, .ref a_t_table, .ref a_t_joining, .ref a_t_units, .int x_t_unitCount, .ref a_t_draft, .ref a_t_reader])), (a_t_persons, .inl (G.2 3, 8, .inr (.inr (.inr (.inr x_t_persons)))))]
def f_PS_branches_no  (p0 : Int32) (x_t_placeCount : Int32) (x_t_personCount : Int32) (x_t_unitCount : Int32) (x_t_persons : Nat → Option Nat) : Option (Int32) :=
  some (-1 : Int32)
set_option maxHeartbeats 4000000 in
set_option maxRecDepth 100000 in
theorem c_PS_branches_no (l : Launch) (G : gG) (sz : Nat) (a_t a_t_right a_t_table a_t_joining a_t_units a_t_draft a_t_reader a_t_persons : Nat)  (p0 : Int32) (x_t_placeCount : Int32) (x_t_personCount : Int32) (x_t_unitCount : Int32) (x_t_persons : Nat → Option Nat) (r : Int32) (h : f_PS_branches_no p0 x_t_placeCount x_t_personCount x_t_unitCount x_t_persons = some r)  (hw : f_PS_find p0 x_t_placeCount x_t_personCount x_t_unitCount x_t_persons = some none) : cN l y_PS_branches w_PS_branches { frames := 1, cells := 0, slots := 0, locals := 21 } G sz [.ref a_t, .int p0] (ws_PS_branches_no G a_t a_t_right a_t_table a_t_joining a_t_units a_t_draft a_t_reader a_t_persons x_t_placeCount x_t_personCount x_t_unitCount x_t_persons) (some (.int r)) (wB G (ws_PS_branches_no G a_t a_t_right a_t_table a_t_joining a_t_units a_t_draft a_t_reader a_t_persons x_t_placeCount x_t_personCount x_t_unitCount x_t_persons)) 0 0 := by
  refine cN_ofW (cc := prog_1_method_7_code) (maxL := 3) (ret := (some .int)) (by decide) rfl (Nat.le_of_ble_eq_true rfl) ?_
  intro p e s m args below meth c A H locs ls hx hb hr hts hown hlocks hin hml hK hN hP hD hA hS hl
  replace hl : lv_has ls 3 [(0, .ref a_t), (1, .int p0)] := hl
  replace hown : s.vm.findClass "PlayStates" = some m.cls := hown
  unfold f_PS_branches_no at h
  refine lv_aload_n hx hb d_PS_branches_0 rfl (lv_at hl 0 rfl) ?_
  refine lv_iload_n hx hb d_PS_branches_1 rfl (lv_at hl 1 rfl) ?_
  have hPc := hP.sub (ws' := (ws_PS_find G a_t a_t_right a_t_table a_t_joining a_t_units a_t_draft a_t_reader a_t_persons x_t_placeCount x_t_personCount x_t_unitCount x_t_persons)) [0, 1] rfl
  have hDc := hD.sub (ws' := (ws_PS_find G a_t a_t_right a_t_table a_t_joining a_t_units a_t_draft a_t_reader a_t_persons x_t_placeCount x_t_personCount x_t_unitCount x_t_persons)) [0, 1] (by decide) rfl
  have hFc := va_free (wc := (ws_PS_find G a_t a_t_right a_t_table a_t_joining a_t_units a_t_draft a_t_reader a_t_persons x_t_placeCount x_t_personCount x_t_unitCount x_t_persons)) hD hS hA [0, 1] rfl
  refine q_call1 (va_runV (As := [.int p0]) (rest := []) ⟨hx, hb, hml, hown, hts⟩ (c_PS_find l G H.size a_t a_t_right a_t_table a_t_joining a_t_units a_t_draft a_t_reader a_t_persons p0 x_t_placeCount x_t_personCount x_t_unitCount x_t_persons _ hw) (cwV 1 hts (gV gw_163 gw_164 gw_2 gw_31 gw_165) rfl rfl rfl (by decide +kernel) ⟨Nat.le_of_ble_eq_true rfl, Nat.le_of_ble_eq_true rfl⟩) (pV hK hN hPc hDc (ci := 5) (q0 := 0) rfl rfl) rfl rfl hl.1 rfl (lv_room (Nat.le_of_ble_eq_true rfl)) d_PS_branches_2 ⟨Nat.le_of_ble_eq_true rfl, Nat.le_of_ble_eq_true rfl⟩) hS (fun q _ h => hFc q h) hFc (fun H1 locs hB hz hk hS => ?_)
  obtain ⟨hP, hD⟩ := q_joinA hFc hB.1 hB.2
  generalize H1 = H at hP hS ⊢
  replace hP : va_P G.1 vwCl (ws_PS_branches_no G a_t a_t_right a_t_table a_t_joining a_t_units a_t_draft a_t_reader a_t_persons x_t_placeCount x_t_personCount x_t_unitCount x_t_persons) H := hP
  replace hD : va_D A (ws_PS_branches_no G a_t a_t_right a_t_table a_t_joining a_t_units a_t_draft a_t_reader a_t_persons x_t_placeCount x_t_personCount x_t_unitCount x_t_persons) := hD
  refine lv_astore_nN (lv' := [(2, .null), (0, .ref a_t), (1, .int p0)]) hx hb d_PS_branches_5 rfl hl (by decide) rfl (fun ls hl => ?_)
  refine lv_aload_nN hx hb d_PS_branches_6 rfl (lv_at hl 0 rfl) ?_
  refine lv_ifnonnullN hx hb d_PS_branches_7 ?_
  refine lv_iconst (v := (-1 : Int32)) hx hb d_PS_branches_10 (by decide) ?_
  refine lv_goto (tgt := 25) hx hb d_PS_branches_11 (by decide) ?_
  cases h
  exact q_iretW hx hb hr hlocks hP hD hS d_PS_branches_25

theorem d_PS_truth_0 : decode prog_1_method_10_code 0 = .ok (.aload_n 0, 1) := by decide +kernel
theorem d_PS_truth_1 : decode prog_1_method_10_code 1 = .ok (.iload_n 1, 1) := by decide +kernel
theorem d_PS_truth_2 : decode prog_1_method_10_code 2 = .ok (.invokevirtual 79, 3) := by decide +kernel
theorem d_PS_truth_5 : decode prog_1_method_10_code 5 = .ok (.ifCond .eq 10, 3) := by decide +kernel
theorem d_PS_truth_8 : decode prog_1_method_10_code 8 = .ok (.iload_n 2, 1) := by decide +kernel
theorem d_PS_truth_9 : decode prog_1_method_10_code 9 = .ok (.invokestatic 83, 3) := by decide +kernel
theorem d_PS_truth_12 : decode prog_1_method_10_code 12 = .ok (.ifCond .ne 5, 3) := by decide +kernel
theorem d_PS_truth_15 : decode prog_1_method_10_code 15 = .ok (.iconst 0, 1) := by decide +kernel
theorem d_PS_truth_16 : decode prog_1_method_10_code 16 = .ok (.ireturn, 1) := by decide +kernel
theorem d_PS_truth_17 : decode prog_1_method_10_code 17 = .ok (.aload_n 0, 1) := by decide +kernel
theorem d_PS_truth_18 : decode prog_1_method_10_code 18 = .ok (.getfield 22, 3) := by decide +kernel
theorem d_PS_truth_21 : decode prog_1_method_10_code 21 = .ok (.iload_n 1, 1) := by decide +kernel
theorem d_PS_truth_22 : decode prog_1_method_10_code 22 = .ok (.iload_n 2, 1) := by decide +kernel
theorem d_PS_truth_23 : decode prog_1_method_10_code 23 = .ok (.iastore, 1) := by decide +kernel
theorem d_PS_truth_24 : decode prog_1_method_10_code 24 = .ok (.iconst 1, 1) := by decide +kernel
theorem d_PS_truth_25 : decode prog_1_method_10_code 25 = .ok (.ireturn, 1) := by decide +kernel
-- PlayStates.truth(II)Z 
def ws_PS_truth (G : gG) (a_t a_t_persons a_t_table a_t_joining a_t_units a_t_draft a_t_reader a_t_right : Nat) (n : Nat) (x_t_placeCount : Int32) (x_t_personCount : Int32) (x_t_unitCount : Int32) (x_t_right : Nat → Int32) : va_W := [(a_t, .inr (5, [.int x_t_placeCount, .ref a_t_right, .ref a_t_persons, .int x_t_personCount, .ref a_t_table, .ref a_t_joining, .ref a_t_units, .int x_t_unitCount, .ref a_t_draft, .ref a_t_reader])), (a_t_right, .inl (G.2 0, n, .inl x_t_right))]
def f_PS_truth (n : Nat) (p0 : Int32) (p1 : Int32) (x_t_placeCount : Int32) (x_t_personCount : Int32) (x_t_unitCount : Int32) (x_t_right : Nat → Int32) : Option (Int32 × (Nat → Int32)) :=
  ((f_PS_isPlace p0 x_t_placeCount x_t_personCount x_t_unitCount).bind fun y1 => (if y1 = 0 then some ((0 : Int32), x_t_right) else ((f_PS_isZeroToNine p1).bind fun y3 => (if y3 = 0 then some ((0 : Int32), x_t_right) else (if inB p0 n then some ((1 : Int32), (upd x_t_right p0.toNatClampNeg p1)) else none)))))
set_option maxHeartbeats 4000000 in
set_option maxRecDepth 100000 in
theorem c_PS_truth (l : Launch) (G : gG) (sz : Nat) (a_t a_t_persons a_t_table a_t_joining a_t_units a_t_draft a_t_reader a_t_right : Nat) (n : Nat) (p0 : Int32) (p1 : Int32) (x_t_placeCount : Int32) (x_t_personCount : Int32) (x_t_unitCount : Int32) (x_t_right : Nat → Int32) (r : Int32) (x_t_right' : Nat → Int32) (h : f_PS_truth n p0 p1 x_t_placeCount x_t_personCount x_t_unitCount x_t_right = some (r, x_t_right'))  : cN l y_PS_truth w_PS_truth { frames := 1, cells := 0, slots := 0, locals := 21 } G sz [.ref a_t, .int p0, .int p1] (ws_PS_truth G a_t a_t_persons a_t_table a_t_joining a_t_units a_t_draft a_t_reader a_t_right n x_t_placeCount x_t_personCount x_t_unitCount x_t_right) (some (.int r)) (wB G (ws_PS_truth G a_t a_t_persons a_t_table a_t_joining a_t_units a_t_draft a_t_reader a_t_right n x_t_placeCount x_t_personCount x_t_unitCount x_t_right')) 0 0 := by
  refine cN_ofW (cc := prog_1_method_10_code) (maxL := 3) (ret := (some .boolean)) (by decide) rfl (Nat.le_of_ble_eq_true rfl) ?_
  intro p e s m args below meth c A H locs ls hx hb hr hts hown hlocks hin hml hK hN hP hD hA hS hl
  replace hl : lv_has ls 3 [(0, .ref a_t), (1, .int p0), (2, .int p1)] := hl
  replace hown : s.vm.findClass "PlayStates" = some m.cls := hown
  unfold f_PS_truth at h
  refine lv_aload_n hx hb d_PS_truth_0 rfl (lv_at hl 0 rfl) ?_
  refine lv_iload_n hx hb d_PS_truth_1 rfl (lv_at hl 1 rfl) ?_
  obtain ⟨y1, hy1, h⟩ := o_bind h
  have hPc := hP.sub (ws' := (ws_PS_isPlace G a_t a_t_right a_t_persons a_t_table a_t_joining a_t_units a_t_draft a_t_reader x_t_placeCount x_t_personCount x_t_unitCount)) [0] rfl
  have hDc := hD.sub (ws' := (ws_PS_isPlace G a_t a_t_right a_t_persons a_t_table a_t_joining a_t_units a_t_draft a_t_reader x_t_placeCount x_t_personCount x_t_unitCount)) [0] (by decide) rfl
  have hFc := va_free (wc := (ws_PS_isPlace G a_t a_t_right a_t_persons a_t_table a_t_joining a_t_units a_t_draft a_t_reader x_t_placeCount x_t_personCount x_t_unitCount)) hD hS hA [0] rfl
  refine q_call1 (va_runV (As := [.int p0]) (rest := []) ⟨hx, hb, hml, hown, hts⟩ (c_PS_isPlace l G H.size a_t a_t_right a_t_persons a_t_table a_t_joining a_t_units a_t_draft a_t_reader p0 x_t_placeCount x_t_personCount x_t_unitCount _ hy1) (cwV 1 hts (gV gw_166 gw_167 gw_3 gw_31 gw_168) rfl rfl rfl (by decide +kernel) ⟨Nat.le_of_ble_eq_true rfl, Nat.le_of_ble_eq_true rfl⟩) (pV hK hN hPc hDc (ci := 5) (q0 := 0) rfl rfl) rfl rfl hl.1 rfl (lv_room (Nat.le_of_ble_eq_true rfl)) d_PS_truth_2 ⟨Nat.le_of_ble_eq_true rfl, Nat.le_of_ble_eq_true rfl⟩) hS (fun q _ h => hFc q h) hFc (fun H1 locs hB hz hk hS => ?_)
  obtain ⟨hP, hD⟩ := q_join (wr := [(a_t_right, .inl (G.2 0, n, .inl x_t_right))]) (wn := (ws_PS_truth G a_t a_t_persons a_t_table a_t_joining a_t_units a_t_draft a_t_reader a_t_right n x_t_placeCount x_t_personCount x_t_unitCount x_t_right)) hP hD [0] [1] [1, 0] rfl rfl (by decide) (by decide) rfl (by decide) hk hFc hB.1 hB.2
  generalize H1 = H at hP hS ⊢
  replace hP : va_P G.1 vwCl (ws_PS_truth G a_t a_t_persons a_t_table a_t_joining a_t_units a_t_draft a_t_reader a_t_right n x_t_placeCount x_t_personCount x_t_unitCount x_t_right) H := hP
  replace hD : va_D A (ws_PS_truth G a_t a_t_persons a_t_table a_t_joining a_t_units a_t_draft a_t_reader a_t_right n x_t_placeCount x_t_personCount x_t_unitCount x_t_right) := hD
  refine lv_if_eq (tgt := 15) hx hb d_PS_truth_5 (by decide) (fun c2 => ?_) (fun c2 => ?_)
  · replace h := (if_pos c2).symm.trans h
    refine lv_iconst (v := (0 : Int32)) hx hb d_PS_truth_15 (by decide) ?_
    cases h
    exact q_zretW hx hb hr hlocks (by decide) hP hD hS d_PS_truth_16
  · replace h := (if_neg c2).symm.trans h
    refine lv_iload_n hx hb d_PS_truth_8 rfl (lv_at hl 2 rfl) ?_
    obtain ⟨y3, hy3, h⟩ := o_bind h
    have hPc := hP.sub (ws' := (ws_PS_isZeroToNine G)) [] rfl
    have hDc := hD.sub (ws' := (ws_PS_isZeroToNine G)) [] (by decide) rfl
    have hFc := va_free (wc := (ws_PS_isZeroToNine G)) hD hS hA [] rfl
    refine q_call1 (va_runS (As := [.int p1]) (rest := []) ⟨hx, hb, hml, hown, hts⟩ (c_PS_isZeroToNine l G H.size p1 _ hy3) ⟨callB_of 1 hts (gC gw_171) rfl rfl rfl (hts _ gw_31) (hts _ gw_169) (by decide +kernel) ⟨Nat.le_of_ble_eq_true rfl, Nat.le_of_ble_eq_true rfl⟩, hts _ gw_170⟩ (pS hK hN hPc hDc) rfl rfl hl.1 rfl (lv_room (Nat.le_of_ble_eq_true rfl)) d_PS_truth_9 ⟨Nat.le_of_ble_eq_true rfl, Nat.le_of_ble_eq_true rfl⟩) hS (fun q _ h => hFc q h) hFc (fun H1 locs hB hz hk hS => ?_)
    obtain ⟨hP, hD⟩ := q_join (wr := [(a_t, .inr (5, [.int x_t_placeCount, .ref a_t_right, .ref a_t_persons, .int x_t_personCount, .ref a_t_table, .ref a_t_joining, .ref a_t_units, .int x_t_unitCount, .ref a_t_draft, .ref a_t_reader])), (a_t_right, .inl (G.2 0, n, .inl x_t_right))]) (wn := (ws_PS_truth G a_t a_t_persons a_t_table a_t_joining a_t_units a_t_draft a_t_reader a_t_right n x_t_placeCount x_t_personCount x_t_unitCount x_t_right)) hP hD [] [0, 1] [0, 1] rfl rfl (by decide) (by decide) rfl (by decide) hk hFc hB.1 hB.2
    generalize H1 = H at hP hS ⊢
    replace hP : va_P G.1 vwCl (ws_PS_truth G a_t a_t_persons a_t_table a_t_joining a_t_units a_t_draft a_t_reader a_t_right n x_t_placeCount x_t_personCount x_t_unitCount x_t_right) H := hP
    replace hD : va_D A (ws_PS_truth G a_t a_t_persons a_t_table a_t_joining a_t_units a_t_draft a_t_reader a_t_right n x_t_placeCount x_t_personCount x_t_unitCount x_t_right) := hD
    refine lv_if_ne (tgt := 17) hx hb d_PS_truth_12 (by decide) (fun c4 => ?_) (fun c4 => ?_)
    · replace h := (if_neg c4).symm.trans h
      refine lv_aload_n hx hb d_PS_truth_17 rfl (lv_at hl 0 rfl) ?_
      refine va_get (D := G.1) (ci := 5) (v := .ref a_t_right) (C := "PlayStates") (T := TPS) (N := 10) hx hb hts iw_5 hown hK hP 0 rfl rfl 1 (by decide) (hts _ gw_103) (fun _ h9 => h9) rfl d_PS_truth_18 ?_
      refine lv_iload_n hx hb d_PS_truth_21 rfl (lv_at hl 1 rfl) ?_
      refine lv_iload_n hx hb d_PS_truth_22 rfl (lv_at hl 2 rfl) ?_
      obtain ⟨i5, h⟩ := o_if h
      refine va_iast (n := n) (f := x_t_right) hx hb hK hP hD hS 1 0 rfl rfl i5 d_PS_truth_23 (fun H locs hP hD hS => ?_)
      replace hP : va_P G.1 vwCl (ws_PS_truth G a_t a_t_persons a_t_table a_t_joining a_t_units a_t_draft a_t_reader a_t_right n x_t_placeCount x_t_personCount x_t_unitCount (upd x_t_right p0.toNatClampNeg p1)) H := hP
      replace hD : va_D A (ws_PS_truth G a_t a_t_persons a_t_table a_t_joining a_t_units a_t_draft a_t_reader a_t_right n x_t_placeCount x_t_personCount x_t_unitCount (upd x_t_right p0.toNatClampNeg p1)) := hD
      refine lv_iconst (v := (1 : Int32)) hx hb d_PS_truth_24 (by decide) ?_
      cases h
      exact q_zretW hx hb hr hlocks (by decide) hP hD hS d_PS_truth_25
    · replace h := (if_pos c4).symm.trans h
      refine lv_iconst (v := (0 : Int32)) hx hb d_PS_truth_15 (by decide) ?_
      cases h
      exact q_zretW hx hb hr hlocks (by decide) hP hD hS d_PS_truth_16

theorem gw_109 : (.fieldLink "PlayStates" 182 "PlayStates" "unitCount" "I" : Cond) ∈ GW := gT 103 (by decide +kernel) (by decide +kernel)
theorem gw_108 : (.fieldLink "PlayStates" 43 "PlayStates" "units" "[I" : Cond) ∈ GW := gT 102 (by decide +kernel) (by decide +kernel)
theorem d_PS_unit_0 : decode prog_1_method_18_code 0 = .ok (.iload_n 1, 1) := by decide +kernel
theorem d_PS_unit_1 : decode prog_1_method_18_code 1 = .ok (.ifCond .lt 20, 3) := by decide +kernel
theorem d_PS_unit_4 : decode prog_1_method_18_code 4 = .ok (.iload_n 1, 1) := by decide +kernel
theorem d_PS_unit_5 : decode prog_1_method_18_code 5 = .ok (.sipush 255, 3) := by decide +kernel
theorem d_PS_unit_8 : decode prog_1_method_18_code 8 = .ok (.if_icmp .gt 13, 3) := by decide +kernel
theorem d_PS_unit_11 : decode prog_1_method_18_code 11 = .ok (.aload_n 0, 1) := by decide +kernel
theorem d_PS_unit_12 : decode prog_1_method_18_code 12 = .ok (.getfield 182, 3) := by decide +kernel
theorem d_PS_unit_15 : decode prog_1_method_18_code 15 = .ok (.sipush 1000, 3) := by decide +kernel
theorem d_PS_unit_18 : decode prog_1_method_18_code 18 = .ok (.if_icmp .lt 5, 3) := by decide +kernel
theorem d_PS_unit_21 : decode prog_1_method_18_code 21 = .ok (.iconst 0, 1) := by decide +kernel
theorem d_PS_unit_22 : decode prog_1_method_18_code 22 = .ok (.ireturn, 1) := by decide +kernel
theorem d_PS_unit_23 : decode prog_1_method_18_code 23 = .ok (.aload_n 0, 1) := by decide +kernel
theorem d_PS_unit_24 : decode prog_1_method_18_code 24 = .ok (.getfield 43, 3) := by decide +kernel
theorem d_PS_unit_27 : decode prog_1_method_18_code 27 = .ok (.aload_n 0, 1) := by decide +kernel
theorem d_PS_unit_28 : decode prog_1_method_18_code 28 = .ok (.getfield 182, 3) := by decide +kernel
theorem d_PS_unit_31 : decode prog_1_method_18_code 31 = .ok (.iload_n 1, 1) := by decide +kernel
theorem d_PS_unit_32 : decode prog_1_method_18_code 32 = .ok (.iastore, 1) := by decide +kernel
theorem d_PS_unit_33 : decode prog_1_method_18_code 33 = .ok (.aload_n 0, 1) := by decide +kernel
theorem d_PS_unit_34 : decode prog_1_method_18_code 34 = .ok (.dup, 1) := by decide +kernel
theorem d_PS_unit_35 : decode prog_1_method_18_code 35 = .ok (.getfield 182, 3) := by decide +kernel
theorem d_PS_unit_38 : decode prog_1_method_18_code 38 = .ok (.iconst 1, 1) := by decide +kernel
theorem d_PS_unit_39 : decode prog_1_method_18_code 39 = .ok (.iadd, 1) := by decide +kernel
theorem d_PS_unit_40 : decode prog_1_method_18_code 40 = .ok (.putfield 182, 3) := by decide +kernel
theorem d_PS_unit_43 : decode prog_1_method_18_code 43 = .ok (.iconst 1, 1) := by decide +kernel
theorem d_PS_unit_44 : decode prog_1_method_18_code 44 = .ok (.ireturn, 1) := by decide +kernel
-- PlayStates.unit(I)Z 
def ws_PS_unit (G : gG) (a_t a_t_right a_t_persons a_t_table a_t_joining a_t_draft a_t_reader a_t_units : Nat)  (x_t_placeCount : Int32) (x_t_personCount : Int32) (x_t_unitCount : Int32) (x_t_units : Nat → Int32) : va_W := [(a_t, .inr (5, [.int x_t_placeCount, .ref a_t_right, .ref a_t_persons, .int x_t_personCount, .ref a_t_table, .ref a_t_joining, .ref a_t_units, .int x_t_unitCount, .ref a_t_draft, .ref a_t_reader])), (a_t_units, .inl (G.2 0, 1000, .inl x_t_units))]
def f_PS_unit  (p0 : Int32) (x_t_placeCount : Int32) (x_t_personCount : Int32) (x_t_unitCount : Int32) (x_t_units : Nat → Int32) : Option (Int32 × Int32 × (Nat → Int32)) :=
  (if p0 < 0 then some ((0 : Int32), x_t_unitCount, x_t_units) else (if (255 : Int32) < p0 then some ((0 : Int32), x_t_unitCount, x_t_units) else (if x_t_unitCount < (1000 : Int32) then (if inB x_t_unitCount 1000 then some ((1 : Int32), (x_t_unitCount + (1 : Int32)), (upd x_t_units x_t_unitCount.toNatClampNeg p0)) else none) else some ((0 : Int32), x_t_unitCount, x_t_units))))
set_option maxHeartbeats 4000000 in
set_option maxRecDepth 100000 in
theorem c_PS_unit (l : Launch) (G : gG) (sz : Nat) (a_t a_t_right a_t_persons a_t_table a_t_joining a_t_draft a_t_reader a_t_units : Nat)  (p0 : Int32) (x_t_placeCount : Int32) (x_t_personCount : Int32) (x_t_unitCount : Int32) (x_t_units : Nat → Int32) (r : Int32) (x_t_unitCount' : Int32) (x_t_units' : Nat → Int32) (h : f_PS_unit p0 x_t_placeCount x_t_personCount x_t_unitCount x_t_units = some (r, x_t_unitCount', x_t_units'))  : cN l y_PS_unit w_PS_unit { frames := 0, cells := 0, slots := 0, locals := 0 } G sz [.ref a_t, .int p0] (ws_PS_unit G a_t a_t_right a_t_persons a_t_table a_t_joining a_t_draft a_t_reader a_t_units x_t_placeCount x_t_personCount x_t_unitCount x_t_units) (some (.int r)) (wB G (ws_PS_unit G a_t a_t_right a_t_persons a_t_table a_t_joining a_t_draft a_t_reader a_t_units x_t_placeCount x_t_personCount x_t_unitCount' x_t_units')) 0 0 := by
  refine cN_ofW (cc := prog_1_method_18_code) (maxL := 2) (ret := (some .boolean)) (by decide) rfl (Nat.le_of_ble_eq_true rfl) ?_
  intro p e s m args below meth c A H locs ls hx hb hr hts hown hlocks hin hml hK hN hP hD hA hS hl
  replace hl : lv_has ls 2 [(0, .ref a_t), (1, .int p0)] := hl
  replace hown : s.vm.findClass "PlayStates" = some m.cls := hown
  unfold f_PS_unit at h
  refine lv_iload_n hx hb d_PS_unit_0 rfl (lv_at hl 1 rfl) ?_
  refine lv_if_lt (tgt := 21) hx hb d_PS_unit_1 (by decide) (fun c1 => ?_) (fun c1 => ?_)
  · replace h := (if_pos c1).symm.trans h
    refine lv_iconst (v := (0 : Int32)) hx hb d_PS_unit_21 (by decide) ?_
    cases h
    exact q_zretW hx hb hr hlocks (by decide) hP hD hS d_PS_unit_22
  · replace h := (if_neg c1).symm.trans h
    refine lv_iload_n hx hb d_PS_unit_4 rfl (lv_at hl 1 rfl) ?_
    refine lv_sipush (v := (255 : Int32)) hx hb d_PS_unit_5 (by decide) ?_
    refine lv_icmp_gt (tgt := 21) hx hb d_PS_unit_8 (by decide) (fun c2 => ?_) (fun c2 => ?_)
    · replace h := (if_pos c2).symm.trans h
      refine lv_iconst (v := (0 : Int32)) hx hb d_PS_unit_21 (by decide) ?_
      cases h
      exact q_zretW hx hb hr hlocks (by decide) hP hD hS d_PS_unit_22
    · replace h := (if_neg c2).symm.trans h
      refine lv_aload_n hx hb d_PS_unit_11 rfl (lv_at hl 0 rfl) ?_
      refine va_get (D := G.1) (ci := 5) (v := .int x_t_unitCount) (C := "PlayStates") (T := TPS) (N := 10) hx hb hts iw_5 hown hK hP 0 rfl rfl 7 (by decide) (hts _ gw_109) (fun _ h9 => h9) rfl d_PS_unit_12 ?_
      refine lv_sipush (v := (1000 : Int32)) hx hb d_PS_unit_15 (by decide) ?_
      refine lv_icmp_lt (tgt := 23) hx hb d_PS_unit_18 (by decide) (fun c3 => ?_) (fun c3 => ?_)
      · replace h := (if_pos c3).symm.trans h
        refine lv_aload_n hx hb d_PS_unit_23 rfl (lv_at hl 0 rfl) ?_
        refine va_get (D := G.1) (ci := 5) (v := .ref a_t_units) (C := "PlayStates") (T := TPS) (N := 10) hx hb hts iw_5 hown hK hP 0 rfl rfl 6 (by decide) (hts _ gw_108) (fun _ h9 => h9) rfl d_PS_unit_24 ?_
        refine lv_aload_n hx hb d_PS_unit_27 rfl (lv_at hl 0 rfl) ?_
        refine va_get (D := G.1) (ci := 5) (v := .int x_t_unitCount) (C := "PlayStates") (T := TPS) (N := 10) hx hb hts iw_5 hown hK hP 0 rfl rfl 7 (by decide) (hts _ gw_109) (fun _ h9 => h9) rfl d_PS_unit_28 ?_
        refine lv_iload_n hx hb d_PS_unit_31 rfl (lv_at hl 1 rfl) ?_
        obtain ⟨i4, h⟩ := o_if h
        refine va_iast (n := 1000) (f := x_t_units) hx hb hK hP hD hS 1 0 rfl rfl i4 d_PS_unit_32 (fun H locs hP hD hS => ?_)
        replace hP : va_P G.1 vwCl (ws_PS_unit G a_t a_t_right a_t_persons a_t_table a_t_joining a_t_draft a_t_reader a_t_units x_t_placeCount x_t_personCount x_t_unitCount (upd x_t_units x_t_unitCount.toNatClampNeg p0)) H := hP
        replace hD : va_D A (ws_PS_unit G a_t a_t_right a_t_persons a_t_table a_t_joining a_t_draft a_t_reader a_t_units x_t_placeCount x_t_personCount x_t_unitCount (upd x_t_units x_t_unitCount.toNatClampNeg p0)) := hD
        refine lv_aload_n hx hb d_PS_unit_33 rfl (lv_at hl 0 rfl) ?_
        refine lv_dup hx hb d_PS_unit_34 rfl ?_
        refine va_get (D := G.1) (ci := 5) (v := .int x_t_unitCount) (C := "PlayStates") (T := TPS) (N := 10) hx hb hts iw_5 hown hK hP 0 rfl rfl 7 (by decide) (hts _ gw_109) (fun _ h9 => h9) rfl d_PS_unit_35 ?_
        refine lv_iconst (v := (1 : Int32)) hx hb d_PS_unit_38 (by decide) ?_
        refine lv_iadd hx hb d_PS_unit_39 ?_
        refine va_put (D := G.1) (ci := 5) (v := .int (x_t_unitCount + (1 : Int32))) (ty := .int) (C := "PlayStates") (T := TPS) (N := 10) hx hb hts iw_5 tyPS tyPS_ok nmPS hown hK hP hD hS 0 rfl rfl 7 (by decide) (hts _ gw_109) (fun _ h9 => h9) rfl (by decide +kernel) (by rfl) (by rfl) (Nat.le_of_ble_eq_true rfl) d_PS_unit_40 (fun H locs hP hD hS => ?_)
        replace hP : va_P G.1 vwCl (ws_PS_unit G a_t a_t_right a_t_persons a_t_table a_t_joining a_t_draft a_t_reader a_t_units x_t_placeCount x_t_personCount (x_t_unitCount + (1 : Int32)) (upd x_t_units x_t_unitCount.toNatClampNeg p0)) H := hP
        replace hD : va_D A (ws_PS_unit G a_t a_t_right a_t_persons a_t_table a_t_joining a_t_draft a_t_reader a_t_units x_t_placeCount x_t_personCount (x_t_unitCount + (1 : Int32)) (upd x_t_units x_t_unitCount.toNatClampNeg p0)) := hD
        refine lv_iconst (v := (1 : Int32)) hx hb d_PS_unit_43 (by decide) ?_
        cases h
        exact q_zretW hx hb hr hlocks (by decide) hP hD hS d_PS_unit_44
      · replace h := (if_neg c3).symm.trans h
        refine lv_iconst (v := (0 : Int32)) hx hb d_PS_unit_21 (by decide) ?_
        cases h
        exact q_zretW hx hb hr hlocks (by decide) hP hD hS d_PS_unit_22

theorem d_PS_rows_0 : decode prog_1_method_20_code 0 = .ok (.aload_n 0, 1) := by decide +kernel
theorem d_PS_rows_1 : decode prog_1_method_20_code 1 = .ok (.getfield 35, 3) := by decide +kernel
theorem d_PS_rows_4 : decode prog_1_method_20_code 4 = .ok (.getfield 197, 3) := by decide +kernel
theorem d_PS_rows_7 : decode prog_1_method_20_code 7 = .ok (.ireturn, 1) := by decide +kernel
-- PlayStates.rows()I 
def ws_PS_rows (G : gG) (a_t a_t_right a_t_persons a_t_joining a_t_units a_t_draft a_t_reader a_t_table a_t_table_place a_t_table_told a_t_table_before a_t_table_behind : Nat)  (x_t_placeCount : Int32) (x_t_personCount : Int32) (x_t_unitCount : Int32) (x_t_table_count : Int32) : va_W := [(a_t, .inr (5, [.int x_t_placeCount, .ref a_t_right, .ref a_t_persons, .int x_t_personCount, .ref a_t_table, .ref a_t_joining, .ref a_t_units, .int x_t_unitCount, .ref a_t_draft, .ref a_t_reader])), (a_t_table, .inr (3, [.ref a_t_table_place, .ref a_t_table_told, .ref a_t_table_before, .ref a_t_table_behind, .int x_t_table_count]))]
def f_PS_rows   (x_t_placeCount : Int32) (x_t_personCount : Int32) (x_t_unitCount : Int32) (x_t_table_count : Int32) : Option (Int32) :=
  some x_t_table_count
set_option maxHeartbeats 4000000 in
set_option maxRecDepth 100000 in
theorem c_PS_rows (l : Launch) (G : gG) (sz : Nat) (a_t a_t_right a_t_persons a_t_joining a_t_units a_t_draft a_t_reader a_t_table a_t_table_place a_t_table_told a_t_table_before a_t_table_behind : Nat)   (x_t_placeCount : Int32) (x_t_personCount : Int32) (x_t_unitCount : Int32) (x_t_table_count : Int32) (r : Int32) (h : f_PS_rows x_t_placeCount x_t_personCount x_t_unitCount x_t_table_count = some r)  : cN l y_PS_rows w_PS_rows { frames := 0, cells := 0, slots := 0, locals := 0 } G sz [.ref a_t] (ws_PS_rows G a_t a_t_right a_t_persons a_t_joining a_t_units a_t_draft a_t_reader a_t_table a_t_table_place a_t_table_told a_t_table_before a_t_table_behind x_t_placeCount x_t_personCount x_t_unitCount x_t_table_count) (some (.int r)) (wB G (ws_PS_rows G a_t a_t_right a_t_persons a_t_joining a_t_units a_t_draft a_t_reader a_t_table a_t_table_place a_t_table_told a_t_table_before a_t_table_behind x_t_placeCount x_t_personCount x_t_unitCount x_t_table_count)) 0 0 := by
  refine cN_ofW (cc := prog_1_method_20_code) (maxL := 1) (ret := (some .int)) (by decide) rfl (Nat.le_of_ble_eq_true rfl) ?_
  intro p e s m args below meth c A H locs ls hx hb hr hts hown hlocks hin hml hK hN hP hD hA hS hl
  replace hl : lv_has ls 1 [(0, .ref a_t)] := hl
  replace hown : s.vm.findClass "PlayStates" = some m.cls := hown
  unfold f_PS_rows at h
  refine lv_aload_n hx hb d_PS_rows_0 rfl (lv_at hl 0 rfl) ?_
  refine va_get (D := G.1) (ci := 5) (v := .ref a_t_table) (C := "PlayStates") (T := TPS) (N := 10) hx hb hts iw_5 hown hK hP 0 rfl rfl 4 (by decide) (hts _ gw_106) (fun _ h9 => h9) rfl d_PS_rows_1 ?_
  refine va_getN (D := G.1) (ci := 3) (v := .int x_t_table_count) (C := "PlayStates$RowTable") (T := TRt) (N := 5) hx hb hts iw_3 hown hK hP 1 rfl rfl 4 (by decide) (va_Nw.use rfl (hN.1 ("PlayStates", 197, "PlayStates$RowTable", "count", "I", "PlayStates") (by decide +kernel))) (fun _ h9 => h9) rfl d_PS_rows_4 ?_
  cases h
  exact q_iretW hx hb hr hlocks hP hD hS d_PS_rows_7
