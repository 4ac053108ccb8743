theorem gw_178 : (.code ⟨"PlayStates$Board", "asItIs", "(II)I"⟩ prog_2_method_4_code 4 (some .int) : Cond) ∈ GW := gT 204 (by decide +kernel) (by decide +kernel)
theorem gw_175 : (.methodLink "PlayStates" 205 ⟨"PlayStates$Board", "asItIs", "(II)I"⟩ : Cond) ∈ GW := gT 201 (by decide +kernel) (by decide +kernel)
theorem gw_176 : (.instanceMethod ⟨"PlayStates$Board", "asItIs", "(II)I"⟩ : Cond) ∈ GW := gT 202 (by decide +kernel) (by decide +kernel)
theorem gw_177 : (.selects "PlayStates$Board" ⟨"PlayStates$Board", "asItIs", "(II)I"⟩ ⟨"PlayStates$Board", "asItIs", "(II)I"⟩ : Cond) ∈ GW := gT 203 (by decide +kernel) (by decide +kernel)
theorem gw_106 : (.fieldLink "PlayStates" 35 "PlayStates" "table" "LPlayStates$RowTable;" : Cond) ∈ GW := gT 100 (by decide +kernel) (by decide +kernel)
theorem gw_186 : (.code ⟨"PlayStates$RowTable", "hasRoomFor", "(I)Z"⟩ prog_5_method_3_code 2 (some .boolean) : Cond) ∈ GW := gT 212 (by decide +kernel) (by decide +kernel)
theorem gw_183 : (.methodLink "PlayStates" 169 ⟨"PlayStates$RowTable", "hasRoomFor", "(I)Z"⟩ : Cond) ∈ GW := gT 209 (by decide +kernel) (by decide +kernel)
theorem gw_33 : (.initialized "PlayStates$RowTable" : Cond) ∈ GW := gT 3 (by decide +kernel) (by decide +kernel)
theorem gw_184 : (.instanceMethod ⟨"PlayStates$RowTable", "hasRoomFor", "(I)Z"⟩ : Cond) ∈ GW := gT 210 (by decide +kernel) (by decide +kernel)
theorem gw_185 : (.selects "PlayStates$RowTable" ⟨"PlayStates$RowTable", "hasRoomFor", "(I)Z"⟩ ⟨"PlayStates$RowTable", "hasRoomFor", "(I)Z"⟩ : Cond) ∈ GW := gT 211 (by decide +kernel) (by decide +kernel)
theorem gw_190 : (.code ⟨"PlayStates$RowTable", "add", "(IIII)I"⟩ prog_5_method_4_code 6 (some .int) : Cond) ∈ GW := gT 216 (by decide +kernel) (by decide +kernel)
theorem gw_187 : (.methodLink "PlayStates" 208 ⟨"PlayStates$RowTable", "add", "(IIII)I"⟩ : Cond) ∈ GW := gT 213 (by decide +kernel) (by decide +kernel)
theorem gw_188 : (.instanceMethod ⟨"PlayStates$RowTable", "add", "(IIII)I"⟩ : Cond) ∈ GW := gT 214 (by decide +kernel) (by decide +kernel)
theorem gw_189 : (.selects "PlayStates$RowTable" ⟨"PlayStates$RowTable", "add", "(IIII)I"⟩ ⟨"PlayStates$RowTable", "add", "(IIII)I"⟩ : Cond) ∈ GW := gT 215 (by decide +kernel) (by decide +kernel)
theorem gw_191 : (.methodLink "PlayStates" 108 ⟨"PlayStates$Board", "put", "(II)V"⟩ : Cond) ∈ GW := gT 217 (by decide +kernel) (by decide +kernel)
theorem d_PS_tell_0 : decode prog_1_method_28_code 0 = .ok (.aload_n 1, 1) := by decide +kernel
theorem d_PS_tell_1 : decode prog_1_method_28_code 1 = .ok (.getfield 99, 3) := by decide +kernel
theorem d_PS_tell_4 : decode prog_1_method_28_code 4 = .ok (.iload_n 2, 1) := by decide +kernel
theorem d_PS_tell_5 : decode prog_1_method_28_code 5 = .ok (.iload_n 3, 1) := by decide +kernel
theorem d_PS_tell_6 : decode prog_1_method_28_code 6 = .ok (.invokevirtual 205, 3) := by decide +kernel
theorem d_PS_tell_9 : decode prog_1_method_28_code 9 = .ok (.istore 4, 2) := by decide +kernel
theorem d_PS_tell_11 : decode prog_1_method_28_code 11 = .ok (.iload 4, 2) := by decide +kernel
theorem d_PS_tell_13 : decode prog_1_method_28_code 13 = .ok (.iload_n 3, 1) := by decide +kernel
theorem d_PS_tell_14 : decode prog_1_method_28_code 14 = .ok (.if_icmp .eq 14, 3) := by decide +kernel
theorem d_PS_tell_17 : decode prog_1_method_28_code 17 = .ok (.aload_n 0, 1) := by decide +kernel
theorem d_PS_tell_18 : decode prog_1_method_28_code 18 = .ok (.getfield 35, 3) := by decide +kernel
theorem d_PS_tell_21 : decode prog_1_method_28_code 21 = .ok (.iconst 1, 1) := by decide +kernel
theorem d_PS_tell_22 : decode prog_1_method_28_code 22 = .ok (.invokevirtual 169, 3) := by decide +kernel
theorem d_PS_tell_25 : decode prog_1_method_28_code 25 = .ok (.ifCond .ne 5, 3) := by decide +kernel
theorem d_PS_tell_28 : decode prog_1_method_28_code 28 = .ok (.iconst (-1), 1) := by decide +kernel
theorem d_PS_tell_29 : decode prog_1_method_28_code 29 = .ok (.ireturn, 1) := by decide +kernel
theorem d_PS_tell_30 : decode prog_1_method_28_code 30 = .ok (.aload_n 1, 1) := by decide +kernel
theorem d_PS_tell_31 : decode prog_1_method_28_code 31 = .ok (.aload_n 0, 1) := by decide +kernel
theorem d_PS_tell_32 : decode prog_1_method_28_code 32 = .ok (.getfield 35, 3) := by decide +kernel
theorem d_PS_tell_35 : decode prog_1_method_28_code 35 = .ok (.iload_n 2, 1) := by decide +kernel
theorem d_PS_tell_36 : decode prog_1_method_28_code 36 = .ok (.iload_n 3, 1) := by decide +kernel
theorem d_PS_tell_37 : decode prog_1_method_28_code 37 = .ok (.iload 4, 2) := by decide +kernel
theorem d_PS_tell_39 : decode prog_1_method_28_code 39 = .ok (.aload_n 1, 1) := by decide +kernel
theorem d_PS_tell_40 : decode prog_1_method_28_code 40 = .ok (.getfield 93, 3) := by decide +kernel
theorem d_PS_tell_43 : decode prog_1_method_28_code 43 = .ok (.invokevirtual 208, 3) := by decide +kernel
theorem d_PS_tell_46 : decode prog_1_method_28_code 46 = .ok (.putfield 93, 3) := by decide +kernel
theorem d_PS_tell_49 : decode prog_1_method_28_code 49 = .ok (.aload_n 1, 1) := by decide +kernel
theorem d_PS_tell_50 : decode prog_1_method_28_code 50 = .ok (.getfield 99, 3) := by decide +kernel
theorem d_PS_tell_53 : decode prog_1_method_28_code 53 = .ok (.iload_n 2, 1) := by decide +kernel
theorem d_PS_tell_54 : decode prog_1_method_28_code 54 = .ok (.iload_n 3, 1) := by decide +kernel
theorem d_PS_tell_55 : decode prog_1_method_28_code 55 = .ok (.invokevirtual 108, 3) := by decide +kernel
theorem d_PS_tell_58 : decode prog_1_method_28_code 58 = .ok (.aload_n 1, 1) := by decide +kernel
theorem d_PS_tell_59 : decode prog_1_method_28_code 59 = .ok (.getfield 93, 3) := by decide +kernel
theorem d_PS_tell_62 : decode prog_1_method_28_code 62 = .ok (.ireturn, 1) := by decide +kernel
-- PlayStates.tell(LPlayStates$Person;II)I 
def ws_PS_tell (G : gG) (a_t a_t_right a_t_persons a_t_joining a_t_units a_t_draft a_t_reader a_t_table a_t_table_place a_t_table_told a_t_table_before a_t_table_behind a_w a_w_clock a_w_board a_w_board_entries a_w_board_markBits : Nat) (n : Nat) (x_t_placeCount : Int32) (x_t_personCount : Int32) (x_t_unitCount : Int32) (x_t_table_count : Int32) (x_t_table_place : Nat → Int32) (x_t_table_told : Nat → Int32) (x_t_table_before : Nat → Int32) (x_t_table_behind : Nat → Int32) (x_w_number : Int32) (x_w_present : Int32) (x_w_helpCount : Int32) (x_w_board_entries : Nat → Int32) (x_w_board_markBits : Nat → Int32) : va_W := [(a_t, .inr (5, [.int x_t_placeCount, .ref a_t_right, .ref a_t_persons, .int x_t_personCount, .ref a_t_table, .ref a_t_joining, .ref a_t_units, .int x_t_unitCount, .ref a_t_draft, .ref a_t_reader])), (a_t_table, .inr (3, [.ref a_t_table_place, .ref a_t_table_told, .ref a_t_table_before, .ref a_t_table_behind, .int x_t_table_count])), (a_t_table_place, .inl (G.2 0, 600, .inl x_t_table_place)), (a_t_table_told, .inl (G.2 0, 600, .inl x_t_table_told)), (a_t_table_before, .inl (G.2 0, 600, .inl x_t_table_before)), (a_t_table_behind, .inl (G.2 0, 600, .inl x_t_table_behind)), (a_w, .inr (2, [.int x_w_number, .ref a_w_board, .ref a_w_clock, .int x_w_present, .int x_w_helpCount])), (a_w_board, .inr (0, [.ref a_w_board_entries, .ref a_w_board_markBits])), (a_w_board_entries, .inl (G.2 0, n, .inl x_w_board_entries)), (a_w_board_markBits, .inl (G.2 0, n, .inl x_w_board_markBits))]
def f_PS_tell (n : Nat) (p1 : Int32) (p2 : Int32) (x_t_placeCount : Int32) (x_t_personCount : Int32) (x_t_unitCount : Int32) (x_t_table_count : Int32) (x_t_table_place : Nat → Int32) (x_t_table_told : Nat → Int32) (x_t_table_before : Nat → Int32) (x_t_table_behind : Nat → Int32) (x_w_number : Int32) (x_w_present : Int32) (x_w_helpCount : Int32) (x_w_board_entries : Nat → Int32) (x_w_board_markBits : Nat → Int32) : Option (Int32 × Int32 × (Nat → Int32) × (Nat → Int32) × (Nat → Int32) × (Nat → Int32) × Int32 × (Nat → Int32) × (Nat → Int32)) :=
  ((f_Bd_asItIs n p1 p2 x_w_board_entries x_w_board_markBits).bind fun y1 => (if y1 = p2 then some ((-1 : Int32), x_t_table_count, x_t_table_place, x_t_table_told, x_t_table_before, x_t_table_behind, x_w_present, x_w_board_entries, x_w_board_markBits) else ((f_Rt_hasRoomFor (1 : Int32) x_t_table_count).bind fun y3 => (if y3 = 0 then some ((-1 : Int32), x_t_table_count, x_t_table_place, x_t_table_told, x_t_table_before, x_t_table_behind, x_w_present, x_w_board_entries, x_w_board_markBits) else ((f_Rt_add p1 p2 y1 x_w_present x_t_table_count x_t_table_place x_t_table_told x_t_table_before x_t_table_behind).bind fun y5 => ((f_Bd_put n p1 p2 x_w_board_entries x_w_board_markBits).bind fun y6 => some (y5.1, y5.2.1, y5.2.2.1, y5.2.2.2.1, y5.2.2.2.2.1, y5.2.2.2.2.2, y5.1, y6.1, y6.2)))))))
set_option maxHeartbeats 4000000 in
set_option maxRecDepth 100000 in
theorem c_PS_tell (l : Launch) (G : gG) (sz : Nat) (a_t a_t_right a_t_persons a_t_joining a_t_units a_t_draft a_t_reader a_t_table a_t_table_place a_t_table_told a_t_table_before a_t_table_behind a_w a_w_clock a_w_board a_w_board_entries a_w_board_markBits : Nat) (n : Nat) (p1 : Int32) (p2 : Int32) (x_t_placeCount : Int32) (x_t_personCount : Int32) (x_t_unitCount : Int32) (x_t_table_count : Int32) (x_t_table_place : Nat → Int32) (x_t_table_told : Nat → Int32) (x_t_table_before : Nat → Int32) (x_t_table_behind : Nat → Int32) (x_w_number : Int32) (x_w_present : Int32) (x_w_helpCount : Int32) (x_w_board_entries : Nat → Int32) (x_w_board_markBits : Nat → Int32) (r : Int32) (x_t_table_count' : Int32) (x_t_table_place' : Nat → Int32) (x_t_table_told' : Nat → Int32) (x_t_table_before' : Nat → Int32) (x_t_table_behind' : Nat → Int32) (x_w_present' : Int32) (x_w_board_entries' : Nat → Int32) (x_w_board_markBits' : Nat → Int32) (h : f_PS_tell n p1 p2 x_t_placeCount x_t_personCount x_t_unitCount x_t_table_count x_t_table_place x_t_table_told x_t_table_before x_t_table_behind x_w_number x_w_present x_w_helpCount x_w_board_entries x_w_board_markBits = some (r, x_t_table_count', x_t_table_place', x_t_table_told', x_t_table_before', x_t_table_behind', x_w_present', x_w_board_entries', x_w_board_markBits'))  : cN l y_PS_tell w_PS_tell { frames := 2, cells := 0, slots := 0, locals := 45 } G sz [.ref a_t, .ref a_w, .int p1, .int p2] (ws_PS_tell G a_t a_t_right a_t_persons a_t_joining a_t_units a_t_draft a_t_reader a_t_table a_t_table_place a_t_table_told a_t_table_before a_t_table_behind a_w a_w_clock a_w_board a_w_board_entries a_w_board_markBits n x_t_placeCount x_t_personCount x_t_unitCount x_t_table_count x_t_table_place x_t_table_told x_t_table_before x_t_table_behind x_w_number x_w_present x_w_helpCount x_w_board_entries x_w_board_markBits) (some (.int r)) (wB G (ws_PS_tell G a_t a_t_right a_t_persons a_t_joining a_t_units a_t_draft a_t_reader a_t_table a_t_table_place a_t_table_told a_t_table_before a_t_table_behind a_w a_w_clock a_w_board a_w_board_entries a_w_board_markBits n x_t_placeCount x_t_personCount x_t_unitCount x_t_table_count' x_t_table_place' x_t_table_told' x_t_table_before' x_t_table_behind' x_w_number x_w_present' x_w_helpCount x_w_board_entries' x_w_board_markBits')) 0 0 := by
  refine cN_ofW (cc := prog_1_method_28_code) (maxL := 5) (ret := (some .int)) (by decide) rfl (Nat.le_of_ble_eq_true rfl) ?_
  intro p e s m args below meth c A H locs ls hx hb hr hts hown hlocks hin hml hK hN hP hD hA hS hl
  replace hl : lv_has ls 5 [(0, .ref a_t), (1, .ref a_w), (2, .int p1), (3, .int p2)] := hl
  replace hown : s.vm.findClass "PlayStates" = some m.cls := hown
  unfold f_PS_tell at h
  refine lv_aload_n hx hb d_PS_tell_0 rfl (lv_at hl 1 rfl) ?_
  refine va_getN (D := G.1) (ci := 2) (v := .ref a_w_board) (C := "PlayStates$Person") (T := TPn) (N := 5) hx hb hts iw_2 hown hK hP 6 rfl rfl 1 (by decide) (va_Nw.use rfl (hN.1 ("PlayStates", 99, "PlayStates$Person", "board", "LPlayStates$Board;", "PlayStates") (by decide +kernel))) (fun _ h9 => h9) rfl d_PS_tell_1 ?_
  refine lv_iload_n hx hb d_PS_tell_4 rfl (lv_at hl 2 rfl) ?_
  refine lv_iload_n hx hb d_PS_tell_5 rfl (lv_at hl 3 rfl) ?_
  obtain ⟨y1, hy1, h⟩ := o_bind h
  have hPc := hP.sub (ws' := (ws_Bd_asItIs G a_w_board a_w_board_entries a_w_board_markBits n x_w_board_entries x_w_board_markBits)) [7, 8, 9] rfl
  have hDc := hD.sub (ws' := (ws_Bd_asItIs G a_w_board a_w_board_entries a_w_board_markBits n x_w_board_entries x_w_board_markBits)) [7, 8, 9] (by decide) rfl
  have hFc := va_free (wc := (ws_Bd_asItIs G a_w_board a_w_board_entries a_w_board_markBits n x_w_board_entries x_w_board_markBits)) hD hS hA [7, 8, 9] rfl
  refine q_call1 (va_runV (As := [.int p1, .int p2]) (rest := []) ⟨hx, hb, hml, hown, hts⟩ (c_Bd_asItIs l G H.size a_w_board a_w_board_entries a_w_board_markBits n p1 p2 x_w_board_entries x_w_board_markBits _ hy1) (cwV 2 hts (gV gw_175 gw_176 gw_177 gw_34 gw_178) rfl rfl rfl (by decide +kernel) ⟨Nat.le_of_ble_eq_true rfl, Nat.le_of_ble_eq_true rfl⟩) (pV hK hN hPc hDc (ci := 0) (q0 := 0) rfl rfl) rfl rfl hl.1 rfl (lv_room (Nat.le_of_ble_eq_true rfl)) d_PS_tell_6 ⟨Nat.le_of_ble_eq_true rfl, Nat.le_of_ble_eq_true rfl⟩) hS (fun q _ h => hFc q h) hFc (fun H1 locs hB hz hk hS => ?_)
  obtain ⟨hP, hD⟩ := q_join (wr := [(a_t, .inr (5, [.int x_t_placeCount, .ref a_t_right, .ref a_t_persons, .int x_t_personCount, .ref a_t_table, .ref a_t_joining, .ref a_t_units, .int x_t_unitCount, .ref a_t_draft, .ref a_t_reader])), (a_t_table, .inr (3, [.ref a_t_table_place, .ref a_t_table_told, .ref a_t_table_before, .ref a_t_table_behind, .int x_t_table_count])), (a_t_table_place, .inl (G.2 0, 600, .inl x_t_table_place)), (a_t_table_told, .inl (G.2 0, 600, .inl x_t_table_told)), (a_t_table_before, .inl (G.2 0, 600, .inl x_t_table_before)), (a_t_table_behind, .inl (G.2 0, 600, .inl x_t_table_behind)), (a_w, .inr (2, [.int x_w_number, .ref a_w_board, .ref a_w_clock, .int x_w_present, .int x_w_helpCount]))]) (wn := (ws_PS_tell G a_t a_t_right a_t_persons a_t_joining a_t_units a_t_draft a_t_reader a_t_table a_t_table_place a_t_table_told a_t_table_before a_t_table_behind a_w a_w_clock a_w_board a_w_board_entries a_w_board_markBits n x_t_placeCount x_t_personCount x_t_unitCount x_t_table_count x_t_table_place x_t_table_told x_t_table_before x_t_table_behind x_w_number x_w_present x_w_helpCount x_w_board_entries x_w_board_markBits)) hP hD [7, 8, 9] [0, 1, 2, 3, 4, 5, 6] [0, 1, 2, 3, 4, 5, 6, 7, 8, 9] rfl rfl (by decide) (by decide) rfl (by decide) hk hFc hB.1 hB.2
  generalize H1 = H at hP hS ⊢
  replace hP : va_P G.1 vwCl (ws_PS_tell G a_t a_t_right a_t_persons a_t_joining a_t_units a_t_draft a_t_reader a_t_table a_t_table_place a_t_table_told a_t_table_before a_t_table_behind a_w a_w_clock a_w_board a_w_board_entries a_w_board_markBits n x_t_placeCount x_t_personCount x_t_unitCount x_t_table_count x_t_table_place x_t_table_told x_t_table_before x_t_table_behind x_w_number x_w_present x_w_helpCount x_w_board_entries x_w_board_markBits) H := hP
  replace hD : va_D A (ws_PS_tell G a_t a_t_right a_t_persons a_t_joining a_t_units a_t_draft a_t_reader a_t_table a_t_table_place a_t_table_told a_t_table_before a_t_table_behind a_w a_w_clock a_w_board a_w_board_entries a_w_board_markBits n x_t_placeCount x_t_personCount x_t_unitCount x_t_table_count x_t_table_place x_t_table_told x_t_table_before x_t_table_behind x_w_number x_w_present x_w_helpCount x_w_board_entries x_w_board_markBits) := hD
  refine lv_istore (lv' := [(4, .int y1), (0, .ref a_t), (1, .ref a_w), (2, .int p1), (3, .int p2)]) hx hb d_PS_tell_9 hl (by decide) rfl (fun ls hl => ?_)
  refine lv_iload hx hb d_PS_tell_11 (lv_at hl 0 rfl) ?_
  refine lv_iload_n hx hb d_PS_tell_13 rfl (lv_at hl 4 rfl) ?_
  refine lv_icmp_eq (tgt := 28) hx hb d_PS_tell_14 (by decide) (fun c2 => ?_) (fun c2 => ?_)
  · replace h := (if_pos c2).symm.trans h
    refine lv_iconst (v := (-1 : Int32)) hx hb d_PS_tell_28 (by decide) ?_
    cases h
    exact q_iretW hx hb hr hlocks hP hD hS d_PS_tell_29
  · replace h := (if_neg c2).symm.trans h
    refine lv_aload_n hx hb d_PS_tell_17 rfl (lv_at hl 1 rfl) ?_
    refine va_get (D := G.1) (ci := 5) (v := .ref a_t_table) (C := "PlayStates") (T := TPS) (N := 10) hx hb hts iw_5 hown hK hP 0 rfl rfl 4 (by decide) (hts _ gw_106) (fun _ h9 => h9) rfl d_PS_tell_18 ?_
    refine lv_iconst (v := (1 : Int32)) hx hb d_PS_tell_21 (by decide) ?_
    obtain ⟨y3, hy3, h⟩ := o_bind h
    have hPc := hP.sub (ws' := (ws_Rt_hasRoomFor G a_t_table a_t_table_place a_t_table_told a_t_table_before a_t_table_behind x_t_table_count)) [1] rfl
    have hDc := hD.sub (ws' := (ws_Rt_hasRoomFor G a_t_table a_t_table_place a_t_table_told a_t_table_before a_t_table_behind x_t_table_count)) [1] (by decide) rfl
    have hFc := va_free (wc := (ws_Rt_hasRoomFor G a_t_table a_t_table_place a_t_table_told a_t_table_before a_t_table_behind x_t_table_count)) hD hS hA [1] rfl
    refine q_call1 (va_runV (As := [.int (1 : Int32)]) (rest := []) ⟨hx, hb, hml, hown, hts⟩ (c_Rt_hasRoomFor l G H.size a_t_table a_t_table_place a_t_table_told a_t_table_before a_t_table_behind (1 : Int32) x_t_table_count _ hy3) (cwV 1 hts (gV gw_183 gw_184 gw_185 gw_33 gw_186) rfl rfl rfl (by decide +kernel) ⟨Nat.le_of_ble_eq_true rfl, Nat.le_of_ble_eq_true rfl⟩) (pV hK hN hPc hDc (ci := 3) (q0 := 0) rfl rfl) rfl rfl hl.1 rfl (lv_room (Nat.le_of_ble_eq_true rfl)) d_PS_tell_22 ⟨Nat.le_of_ble_eq_true rfl, Nat.le_of_ble_eq_true rfl⟩) hS (fun q _ h => hFc q h) hFc (fun H1 locs hB hz hk hS => ?_)
    obtain ⟨hP, hD⟩ := q_join (wr := [(a_t, .inr (5, [.int x_t_placeCount, .ref a_t_right, .ref a_t_persons, .int x_t_personCount, .ref a_t_table, .ref a_t_joining, .ref a_t_units, .int x_t_unitCount, .ref a_t_draft, .ref a_t_reader])), (a_t_table_place, .inl (G.2 0, 600, .inl x_t_table_place)), (a_t_table_told, .inl (G.2 0, 600, .inl x_t_table_told)), (a_t_table_before, .inl (G.2 0, 600, .inl x_t_table_before)), (a_t_table_behind, .inl (G.2 0, 600, .inl x_t_table_behind)), (a_w, .inr (2, [.int x_w_number, .ref a_w_board, .ref a_w_clock, .int x_w_present, .int x_w_helpCount])), (a_w_board, .inr (0, [.ref a_w_board_entries, .ref a_w_board_markBits])), (a_w_board_entries, .inl (G.2 0, n, .inl x_w_board_entries)), (a_w_board_markBits, .inl (G.2 0, n, .inl x_w_board_markBits))]) (wn := (ws_PS_tell G a_t a_t_right a_t_persons a_t_joining a_t_units a_t_draft a_t_reader a_t_table a_t_table_place a_t_table_told a_t_table_before a_t_table_behind a_w a_w_clock a_w_board a_w_board_entries a_w_board_markBits n x_t_placeCount x_t_personCount x_t_unitCount x_t_table_count x_t_table_place x_t_table_told x_t_table_before x_t_table_behind x_w_number x_w_present x_w_helpCount x_w_board_entries x_w_board_markBits)) hP hD [1] [0, 2, 3, 4, 5, 6, 7, 8, 9] [0, 9, 1, 2, 3, 4, 5, 6, 7, 8] rfl rfl (by decide) (by decide) rfl (by decide) hk hFc hB.1 hB.2
    generalize H1 = H at hP hS ⊢
    replace hP : va_P G.1 vwCl (ws_PS_tell G a_t a_t_right a_t_persons a_t_joining a_t_units a_t_draft a_t_reader a_t_table a_t_table_place a_t_table_told a_t_table_before a_t_table_behind a_w a_w_clock a_w_board a_w_board_entries a_w_board_markBits n x_t_placeCount x_t_personCount x_t_unitCount x_t_table_count x_t_table_place x_t_table_told x_t_table_before x_t_table_behind x_w_number x_w_present x_w_helpCount x_w_board_entries x_w_board_markBits) H := hP
    replace hD : va_D A (ws_PS_tell G a_t a_t_right a_t_persons a_t_joining a_t_units a_t_draft a_t_reader a_t_table a_t_table_place a_t_table_told a_t_table_before a_t_table_behind a_w a_w_clock a_w_board a_w_board_entries a_w_board_markBits n x_t_placeCount x_t_personCount x_t_unitCount x_t_table_count x_t_table_place x_t_table_told x_t_table_before x_t_table_behind x_w_number x_w_present x_w_helpCount x_w_board_entries x_w_board_markBits) := hD
    refine lv_if_ne (tgt := 30) hx hb d_PS_tell_25 (by decide) (fun c4 => ?_) (fun c4 => ?_)
    · replace h := (if_neg c4).symm.trans h
      refine lv_aload_n hx hb d_PS_tell_30 rfl (lv_at hl 2 rfl) ?_
      refine lv_aload_n hx hb d_PS_tell_31 rfl (lv_at hl 1 rfl) ?_
      refine va_get (D := G.1) (ci := 5) (v := .ref a_t_table) (C := "PlayStates") (T := TPS) (N := 10) hx hb hts iw_5 hown hK hP 0 rfl rfl 4 (by decide) (hts _ gw_106) (fun _ h9 => h9) rfl d_PS_tell_32 ?_
      refine lv_iload_n hx hb d_PS_tell_35 rfl (lv_at hl 3 rfl) ?_
      refine lv_iload_n hx hb d_PS_tell_36 rfl (lv_at hl 4 rfl) ?_
      refine lv_iload hx hb d_PS_tell_37 (lv_at hl 0 rfl) ?_
      refine lv_aload_n hx hb d_PS_tell_39 rfl (lv_at hl 2 rfl) ?_
      refine va_getN (D := G.1) (ci := 2) (v := .int x_w_present) (C := "PlayStates$Person") (T := TPn) (N := 5) hx hb hts iw_2 hown hK hP 6 rfl rfl 3 (by decide) (va_Nw.use rfl (hN.1 ("PlayStates", 93, "PlayStates$Person", "present", "I", "PlayStates") (by decide +kernel))) (fun _ h9 => h9) rfl d_PS_tell_40 ?_
      obtain ⟨y5, hy5, h⟩ := o_bind h
      have hPc := hP.sub (ws' := (ws_Rt_add G a_t_table a_t_table_place a_t_table_told a_t_table_before a_t_table_behind x_t_table_count x_t_table_place x_t_table_told x_t_table_before x_t_table_behind)) [1, 2, 3, 4, 5] rfl
      have hDc := hD.sub (ws' := (ws_Rt_add G a_t_table a_t_table_place a_t_table_told a_t_table_before a_t_table_behind x_t_table_count x_t_table_place x_t_table_told x_t_table_before x_t_table_behind)) [1, 2, 3, 4, 5] (by decide) rfl
      have hFc := va_free (wc := (ws_Rt_add G a_t_table a_t_table_place a_t_table_told a_t_table_before a_t_table_behind x_t_table_count x_t_table_place x_t_table_told x_t_table_before x_t_table_behind)) hD hS hA [1, 2, 3, 4, 5] rfl
      refine q_call1 (va_runV (As := [.int p1, .int p2, .int y1, .int x_w_present]) (rest := [.ref a_w]) ⟨hx, hb, hml, hown, hts⟩ (c_Rt_add l G H.size a_t_table a_t_table_place a_t_table_told a_t_table_before a_t_table_behind p1 p2 y1 x_w_present x_t_table_count x_t_table_place x_t_table_told x_t_table_before x_t_table_behind _ _ _ _ _ _ hy5) (cwV 4 hts (gV gw_187 gw_188 gw_189 gw_33 gw_190) rfl rfl rfl (by decide +kernel) ⟨Nat.le_of_ble_eq_true rfl, Nat.le_of_ble_eq_true rfl⟩) (pV hK hN hPc hDc (ci := 3) (q0 := 0) rfl rfl) rfl rfl hl.1 rfl (lv_room (Nat.le_of_ble_eq_true rfl)) d_PS_tell_43 ⟨Nat.le_of_ble_eq_true rfl, Nat.le_of_ble_eq_true rfl⟩) hS (fun q _ h => hFc q h) hFc (fun H1 locs hB hz hk hS => ?_)
      obtain ⟨hP, hD⟩ := q_join (wr := [(a_t, .inr (5, [.int x_t_placeCount, .ref a_t_right, .ref a_t_persons, .int x_t_personCount, .ref a_t_table, .ref a_t_joining, .ref a_t_units, .int x_t_unitCount, .ref a_t_draft, .ref a_t_reader])), (a_w, .inr (2, [.int x_w_number, .ref a_w_board, .ref a_w_clock, .int x_w_present, .int x_w_helpCount])), (a_w_board, .inr (0, [.ref a_w_board_entries, .ref a_w_board_markBits])), (a_w_board_entries, .inl (G.2 0, n, .inl x_w_board_entries)), (a_w_board_markBits, .inl (G.2 0, n, .inl x_w_board_markBits))]) (wn := (ws_PS_tell G a_t a_t_right a_t_persons a_t_joining a_t_units a_t_draft a_t_reader a_t_table a_t_table_place a_t_table_told a_t_table_before a_t_table_behind a_w a_w_clock a_w_board a_w_board_entries a_w_board_markBits n x_t_placeCount x_t_personCount x_t_unitCount y5.2.1 y5.2.2.1 y5.2.2.2.1 y5.2.2.2.2.1 y5.2.2.2.2.2 x_w_number x_w_present x_w_helpCount x_w_board_entries x_w_board_markBits)) hP hD [1, 2, 3, 4, 5] [0, 6, 7, 8, 9] [0, 5, 6, 7, 8, 9, 1, 2, 3, 4] rfl rfl (by decide) (by decide) rfl (by decide) hk hFc hB.1 hB.2
      generalize H1 = H at hP hS ⊢
      replace hP : va_P G.1 vwCl (ws_PS_tell G a_t a_t_right a_t_persons a_t_joining a_t_units a_t_draft a_t_reader a_t_table a_t_table_place a_t_table_told a_t_table_before a_t_table_behind a_w a_w_clock a_w_board a_w_board_entries a_w_board_markBits n x_t_placeCount x_t_personCount x_t_unitCount y5.2.1 y5.2.2.1 y5.2.2.2.1 y5.2.2.2.2.1 y5.2.2.2.2.2 x_w_number x_w_present x_w_helpCount x_w_board_entries x_w_board_markBits) H := hP
      replace hD : va_D A (ws_PS_tell G a_t a_t_right a_t_persons a_t_joining a_t_units a_t_draft a_t_reader a_t_table a_t_table_place a_t_table_told a_t_table_before a_t_table_behind a_w a_w_clock a_w_board a_w_board_entries a_w_board_markBits n x_t_placeCount x_t_personCount x_t_unitCount y5.2.1 y5.2.2.1 y5.2.2.2.1 y5.2.2.2.2.1 y5.2.2.2.2.2 x_w_number x_w_present x_w_helpCount x_w_board_entries x_w_board_markBits) := hD
      refine va_putN (D := G.1) (ci := 2) (v := .int y5.1) (ty := .int) (C := "PlayStates$Person") (T := TPn) (N := 5) hx hb hts iw_2 tyPn tyPn_ok nmPn hown hK hP hD hS 6 rfl rfl 3 (by decide) (va_Nw.use rfl (hN.1 ("PlayStates", 93, "PlayStates$Person", "present", "I", "PlayStates") (by decide +kernel))) (fun _ h9 => h9) rfl (by decide +kernel) (by rfl) (by rfl) (Nat.le_of_ble_eq_true rfl) d_PS_tell_46 (fun H locs hP hD hS => ?_)
      replace hP : va_P G.1 vwCl (ws_PS_tell G a_t a_t_right a_t_persons a_t_joining a_t_units a_t_draft a_t_reader a_t_table a_t_table_place a_t_table_told a_t_table_before a_t_table_behind a_w a_w_clock a_w_board a_w_board_entries a_w_board_markBits n x_t_placeCount x_t_personCount x_t_unitCount y5.2.1 y5.2.2.1 y5.2.2.2.1 y5.2.2.2.2.1 y5.2.2.2.2.2 x_w_number y5.1 x_w_helpCount x_w_board_entries x_w_board_markBits) H := hP
      replace hD : va_D A (ws_PS_tell G a_t a_t_right a_t_persons a_t_joining a_t_units a_t_draft a_t_reader a_t_table a_t_table_place a_t_table_told a_t_table_before a_t_table_behind a_w a_w_clock a_w_board a_w_board_entries a_w_board_markBits n x_t_placeCount x_t_personCount x_t_unitCount y5.2.1 y5.2.2.1 y5.2.2.2.1 y5.2.2.2.2.1 y5.2.2.2.2.2 x_w_number y5.1 x_w_helpCount x_w_board_entries x_w_board_markBits) := hD
      refine lv_aload_n hx hb d_PS_tell_49 rfl (lv_at hl 2 rfl) ?_
      refine va_getN (D := G.1) (ci := 2) (v := .ref a_w_board) (C := "PlayStates$Person") (T := TPn) (N := 5) hx hb hts iw_2 hown hK hP 6 rfl rfl 1 (by decide) (va_Nw.use rfl (hN.1 ("PlayStates", 99, "PlayStates$Person", "board", "LPlayStates$Board;", "PlayStates") (by decide +kernel))) (fun _ h9 => h9) rfl d_PS_tell_50 ?_
      refine lv_iload_n hx hb d_PS_tell_53 rfl (lv_at hl 3 rfl) ?_
      refine lv_iload_n hx hb d_PS_tell_54 rfl (lv_at hl 4 rfl) ?_
      obtain ⟨y6, hy6, h⟩ := o_bind h
      have hPc := hP.sub (ws' := (ws_Bd_put G a_w_board a_w_board_entries a_w_board_markBits n x_w_board_entries x_w_board_markBits)) [7, 8, 9] rfl
      have hDc := hD.sub (ws' := (ws_Bd_put G a_w_board a_w_board_entries a_w_board_markBits n x_w_board_entries x_w_board_markBits)) [7, 8, 9] (by decide) rfl
      have hFc := va_free (wc := (ws_Bd_put G a_w_board a_w_board_entries a_w_board_markBits n x_w_board_entries x_w_board_markBits)) hD hS hA [7, 8, 9] rfl
      refine q_call0 (va_runV (As := [.int p1, .int p2]) (rest := []) ⟨hx, hb, hml, hown, hts⟩ (c_Bd_put l G H.size a_w_board a_w_board_entries a_w_board_markBits n p1 p2 x_w_board_entries x_w_board_markBits _ _ hy6) (cwV 2 hts (gV gw_191 gw_192 gw_193 gw_34 gw_194) rfl rfl rfl (by decide +kernel) ⟨Nat.le_of_ble_eq_true rfl, Nat.le_of_ble_eq_true rfl⟩) (pV hK hN hPc hDc (ci := 0) (q0 := 0) rfl rfl) rfl rfl hl.1 rfl (lv_room (Nat.le_of_ble_eq_true rfl)) d_PS_tell_55 ⟨Nat.le_of_ble_eq_true rfl, Nat.le_of_ble_eq_true rfl⟩) hS (fun q _ h => hFc q h) hFc (fun H1 locs hB hz hk hS => ?_)
      obtain ⟨hP, hD⟩ := q_join (wr := [(a_t, .inr (5, [.int x_t_placeCount, .ref a_t_right, .ref a_t_persons, .int x_t_personCount, .ref a_t_table, .ref a_t_joining, .ref a_t_units, .int x_t_unitCount, .ref a_t_draft, .ref a_t_reader])), (a_t_table, .inr (3, [.ref a_t_table_place, .ref a_t_table_told, .ref a_t_table_before, .ref a_t_table_behind, .int y5.2.1])), (a_t_table_place, .inl (G.2 0, 600, .inl y5.2.2.1)), (a_t_table_told, .inl (G.2 0, 600, .inl y5.2.2.2.1)), (a_t_table_before, .inl (G.2 0, 600, .inl y5.2.2.2.2.1)), (a_t_table_behind, .inl (G.2 0, 600, .inl y5.2.2.2.2.2)), (a_w, .inr (2, [.int x_w_number, .ref a_w_board, .ref a_w_clock, .int y5.1, .int x_w_helpCount]))]) (wn := (ws_PS_tell G a_t a_t_right a_t_persons a_t_joining a_t_units a_t_draft a_t_reader a_t_table a_t_table_place a_t_table_told a_t_table_before a_t_table_behind a_w a_w_clock a_w_board a_w_board_entries a_w_board_markBits n x_t_placeCount x_t_personCount x_t_unitCount y5.2.1 y5.2.2.1 y5.2.2.2.1 y5.2.2.2.2.1 y5.2.2.2.2.2 x_w_number y5.1 x_w_helpCount y6.1 y6.2)) hP hD [7, 8, 9] [0, 1, 2, 3, 4, 5, 6] [0, 1, 2, 3, 4, 5, 6, 7, 8, 9] rfl rfl (by decide) (by decide) rfl (by decide) hk hFc hB.1 hB.2
      generalize H1 = H at hP hS ⊢
      replace hP : va_P G.1 vwCl (ws_PS_tell G a_t a_t_right a_t_persons a_t_joining a_t_units a_t_draft a_t_reader a_t_table a_t_table_place a_t_table_told a_t_table_before a_t_table_behind a_w a_w_clock a_w_board a_w_board_entries a_w_board_markBits n x_t_placeCount x_t_personCount x_t_unitCount y5.2.1 y5.2.2.1 y5.2.2.2.1 y5.2.2.2.2.1 y5.2.2.2.2.2 x_w_number y5.1 x_w_helpCount y6.1 y6.2) H := hP
      replace hD : va_D A (ws_PS_tell G a_t a_t_right a_t_persons a_t_joining a_t_units a_t_draft a_t_reader a_t_table a_t_table_place a_t_table_told a_t_table_before a_t_table_behind a_w a_w_clock a_w_board a_w_board_entries a_w_board_markBits n x_t_placeCount x_t_personCount x_t_unitCount y5.2.1 y5.2.2.1 y5.2.2.2.1 y5.2.2.2.2.1 y5.2.2.2.2.2 x_w_number y5.1 x_w_helpCount y6.1 y6.2) := hD
      refine lv_aload_n hx hb d_PS_tell_58 rfl (lv_at hl 2 rfl) ?_
      refine va_getN (D := G.1) (ci := 2) (v := .int y5.1) (C := "PlayStates$Person") (T := TPn) (N := 5) hx hb hts iw_2 hown hK hP 6 rfl rfl 3 (by decide) (va_Nw.use rfl (hN.1 ("PlayStates", 93, "PlayStates$Person", "present", "I", "PlayStates") (by decide +kernel))) (fun _ h9 => h9) rfl d_PS_tell_59 ?_
      cases h
      exact q_iretW hx hb hr hlocks hP hD hS d_PS_tell_62
    · replace h := (if_pos c4).symm.trans h
      refine lv_iconst (v := (-1 : Int32)) hx hb d_PS_tell_28 (by decide) ?_
      cases h
      exact q_iretW hx hb hr hlocks hP hD hS d_PS_tell_29

theorem gw_103 : (.fieldLink "PlayStates" 22 "PlayStates" "right" "[I" : Cond) ∈ GW := gT 97 (by decide +kernel) (by decide +kernel)
theorem d_PS_findPlaceToHelp_0 : decode prog_1_method_29_code 0 = .ok (.iconst 0, 1) := by decide +kernel
theorem d_PS_findPlaceToHelp_1 : decode prog_1_method_29_code 1 = .ok (.istore_n 2, 1) := by decide +kernel
theorem d_PS_findPlaceToHelp_2 : decode prog_1_method_29_code 2 = .ok (.iload_n 2, 1) := by decide +kernel
theorem d_PS_findPlaceToHelp_3 : decode prog_1_method_29_code 3 = .ok (.aload_n 0, 1) := by decide +kernel
theorem d_PS_findPlaceToHelp_4 : decode prog_1_method_29_code 4 = .ok (.getfield 18, 3) := by decide +kernel
theorem d_PS_findPlaceToHelp_7 : decode prog_1_method_29_code 7 = .ok (.if_icmp .ge 29, 3) := by decide +kernel
theorem d_PS_findPlaceToHelp_10 : decode prog_1_method_29_code 10 = .ok (.aload_n 1, 1) := by decide +kernel
theorem d_PS_findPlaceToHelp_11 : decode prog_1_method_29_code 11 = .ok (.getfield 125, 3) := by decide +kernel
theorem d_PS_findPlaceToHelp_14 : decode prog_1_method_29_code 14 = .ok (.iload_n 2, 1) := by decide +kernel
theorem d_PS_findPlaceToHelp_15 : decode prog_1_method_29_code 15 = .ok (.iaload, 1) := by decide +kernel
theorem d_PS_findPlaceToHelp_16 : decode prog_1_method_29_code 16 = .ok (.ifCond .ne 14, 3) := by decide +kernel
theorem d_PS_findPlaceToHelp_19 : decode prog_1_method_29_code 19 = .ok (.aload_n 0, 1) := by decide +kernel
theorem d_PS_findPlaceToHelp_20 : decode prog_1_method_29_code 20 = .ok (.getfield 22, 3) := by decide +kernel
theorem d_PS_findPlaceToHelp_23 : decode prog_1_method_29_code 23 = .ok (.iload_n 2, 1) := by decide +kernel
theorem d_PS_findPlaceToHelp_24 : decode prog_1_method_29_code 24 = .ok (.iaload, 1) := by decide +kernel
theorem d_PS_findPlaceToHelp_25 : decode prog_1_method_29_code 25 = .ok (.ifCond .eq 5, 3) := by decide +kernel
theorem d_PS_findPlaceToHelp_28 : decode prog_1_method_29_code 28 = .ok (.iload_n 2, 1) := by decide +kernel
theorem d_PS_findPlaceToHelp_29 : decode prog_1_method_29_code 29 = .ok (.ireturn, 1) := by decide +kernel
theorem d_PS_findPlaceToHelp_30 : decode prog_1_method_29_code 30 = .ok (.iinc 2 1, 3) := by decide +kernel
theorem d_PS_findPlaceToHelp_33 : decode prog_1_method_29_code 33 = .ok (.goto (-31), 3) := by decide +kernel
theorem d_PS_findPlaceToHelp_36 : decode prog_1_method_29_code 36 = .ok (.iconst (-1), 1) := by decide +kernel
theorem d_PS_findPlaceToHelp_37 : decode prog_1_method_29_code 37 = .ok (.ireturn, 1) := by decide +kernel
-- PlayStates.findPlaceToHelp(LPlayStates$Board;)I 
def ws_PS_findPlaceToHelp (G : gG) (a_t a_t_persons a_t_table a_t_joining a_t_units a_t_draft a_t_reader a_t_right a_b a_b_markBits a_b_entries : Nat) (n : Nat) (x_t_placeCount : Int32) (x_t_personCount : Int32) (x_t_unitCount : Int32) (x_t_right : Nat → Int32) (x_b_entries : Nat → Int32) : va_W := [(a_t, .inr (5, [.int x_t_placeCount, .ref a_t_right, .ref a_t_persons, .int x_t_personCount, .ref a_t_table, .ref a_t_joining, .ref a_t_units, .int x_t_unitCount, .ref a_t_draft, .ref a_t_reader])), (a_t_right, .inl (G.2 0, n, .inl x_t_right)), (a_b, .inr (0, [.ref a_b_entries, .ref a_b_markBits])), (a_b_entries, .inl (G.2 0, n, .inl x_b_entries))]
def fb_PS_findPlaceToHelp_L2 (fu : Nat) (n : Nat) (x_t_placeCount : Int32) (x_t_personCount : Int32) (x_t_unitCount : Int32) (x_t_right : Nat → Int32) (x_b_entries : Nat → Int32)  (k2 : (Int32 → Option (Int32))) (l2_2 : Int32) : Option (Int32) :=
  (if x_t_placeCount ≤ l2_2 then some (-1 : Int32) else (if inB l2_2 n then (if (x_b_entries l2_2.toNatClampNeg) = 0 then (if inB l2_2 n then (if (x_t_right l2_2.toNatClampNeg) = 0 then (k2 (l2_2 + (1 : Int32))) else some l2_2) else none) else (k2 (l2_2 + (1 : Int32)))) else none))
def f_PS_findPlaceToHelp_L2 (fu : Nat) (n : Nat) (x_t_placeCount : Int32) (x_t_personCount : Int32) (x_t_unitCount : Int32) (x_t_right : Nat → Int32) (x_b_entries : Nat → Int32)  : Nat → Int32 → Option (Int32)
  | 0 => fun _ => none
  | k9 + 1 => fb_PS_findPlaceToHelp_L2 fu n x_t_placeCount x_t_personCount x_t_unitCount x_t_right x_b_entries (f_PS_findPlaceToHelp_L2 fu n x_t_placeCount x_t_personCount x_t_unitCount x_t_right x_b_entries k9)
def f_PS_findPlaceToHelp (fu : Nat) (n : Nat)  (x_t_placeCount : Int32) (x_t_personCount : Int32) (x_t_unitCount : Int32) (x_t_right : Nat → Int32) (x_b_entries : Nat → Int32) : Option (Int32) :=
  (f_PS_findPlaceToHelp_L2 fu n x_t_placeCount x_t_personCount x_t_unitCount x_t_right x_b_entries fu (0 : Int32))
set_option maxHeartbeats 4000000 in
set_option maxRecDepth 100000 in
theorem c_PS_findPlaceToHelp (l : Launch) (G : gG) (sz : Nat) (a_t a_t_persons a_t_table a_t_joining a_t_units a_t_draft a_t_reader a_t_right a_b a_b_markBits a_b_entries : Nat) (fu : Nat) (n : Nat)  (x_t_placeCount : Int32) (x_t_personCount : Int32) (x_t_unitCount : Int32) (x_t_right : Nat → Int32) (x_b_entries : Nat → Int32) (r : Int32) (h : f_PS_findPlaceToHelp fu n x_t_placeCount x_t_personCount x_t_unitCount x_t_right x_b_entries = some r)  : cN l y_PS_findPlaceToHelp w_PS_findPlaceToHelp { frames := 0, cells := 0, slots := 0, locals := 0 } G sz [.ref a_t, .ref a_b] (ws_PS_findPlaceToHelp G a_t a_t_persons a_t_table a_t_joining a_t_units a_t_draft a_t_reader a_t_right a_b a_b_markBits a_b_entries n x_t_placeCount x_t_personCount x_t_unitCount x_t_right x_b_entries) (some (.int r)) (wB G (ws_PS_findPlaceToHelp G a_t a_t_persons a_t_table a_t_joining a_t_units a_t_draft a_t_reader a_t_right a_b a_b_markBits a_b_entries n x_t_placeCount x_t_personCount x_t_unitCount x_t_right x_b_entries)) 0 0 := by
  refine cN_ofW (cc := prog_1_method_29_code) (maxL := 3) (ret := (some .int)) (by decide) rfl (Nat.le_of_ble_eq_true rfl) ?_
  intro p e s m args below meth c A H locs ls hx hb hr hts hown hlocks hin hml hK hN hP hD hA hS hl
  replace hl : lv_has ls 3 [(0, .ref a_t), (1, .ref a_b)] := hl
  replace hown : s.vm.findClass "PlayStates" = some m.cls := hown
  unfold f_PS_findPlaceToHelp at h
  refine lv_iconst (v := (0 : Int32)) hx hb d_PS_findPlaceToHelp_0 (by decide) ?_
  refine lv_istore_n (lv' := [(2, .int (0 : Int32)), (0, .ref a_t), (1, .ref a_b)]) hx hb d_PS_findPlaceToHelp_1 rfl hl (by decide) rfl (fun ls hl => ?_)
  have L2 : ∀ (nf : Nat) (l2_2 : Int32) (H : Heap) (locs : List Loc) (ls : Array Slot), f_PS_findPlaceToHelp_L2 fu n x_t_placeCount x_t_personCount x_t_unitCount x_t_right x_b_entries nf l2_2 = some r → va_P G.1 vwCl (ws_PS_findPlaceToHelp G a_t a_t_persons a_t_table a_t_joining a_t_units a_t_draft a_t_reader a_t_right a_b a_b_markBits a_b_entries n x_t_placeCount x_t_personCount x_t_unitCount x_t_right x_b_entries) H → va_D A (ws_PS_findPlaceToHelp G a_t a_t_persons a_t_table a_t_joining a_t_units a_t_draft a_t_reader a_t_right a_b a_b_markBits a_b_entries n x_t_placeCount x_t_personCount x_t_unitCount x_t_right x_b_entries) → va_S A s.heap H locs → lv_has ls 3 [(0, .ref a_t), (1, .ref a_b), (2, .int l2_2)] → W p l e { frames := 0, cells := 0, slots := 0, locals := 0 } s m args below meth c H locs 0 0 (MQ below (qQ (some (.int r)) (wB G (ws_PS_findPlaceToHelp G a_t a_t_persons a_t_table a_t_joining a_t_units a_t_draft a_t_reader a_t_right a_b a_b_markBits a_b_entries n x_t_placeCount x_t_personCount x_t_unitCount x_t_right x_b_entries) A) A) args s 0 0 A) (F0 m 2 ls []) := by
    clear h hP hD hS hl
    intro n2
    induction n2 with
    | zero => intro _ H locs ls h; exact nomatch (show none = some _ from h)
    | succ n2 ih2 =>
      intro l2_2 H locs ls h hP hD hS hl
      replace h : fb_PS_findPlaceToHelp_L2 fu n x_t_placeCount x_t_personCount x_t_unitCount x_t_right x_b_entries (f_PS_findPlaceToHelp_L2 fu n x_t_placeCount x_t_personCount x_t_unitCount x_t_right x_b_entries n2) l2_2 = some r := h
      unfold fb_PS_findPlaceToHelp_L2 at h
      refine lv_iload_n hx hb d_PS_findPlaceToHelp_2 rfl (lv_at hl 2 rfl) ?_
      refine lv_aload_n hx hb d_PS_findPlaceToHelp_3 rfl (lv_at hl 0 rfl) ?_
      refine va_get (D := G.1) (ci := 5) (v := .int x_t_placeCount) (C := "PlayStates") (T := TPS) (N := 10) hx hb hts iw_5 hown hK hP 0 rfl rfl 0 (by decide) (hts _ gw_102) (fun _ h9 => h9) rfl d_PS_findPlaceToHelp_4 ?_
      refine lv_icmp_ge (tgt := 36) hx hb d_PS_findPlaceToHelp_7 (by decide) (fun c1 => ?_) (fun c1 => ?_)
      · replace h := (if_pos c1).symm.trans h
        refine lv_iconst (v := (-1 : Int32)) hx hb d_PS_findPlaceToHelp_36 (by decide) ?_
        cases h
        exact q_iretW hx hb hr hlocks hP hD hS d_PS_findPlaceToHelp_37
      · replace h := (if_neg c1).symm.trans h
        refine lv_aload_n hx hb d_PS_findPlaceToHelp_10 rfl (lv_at hl 1 rfl) ?_
        refine va_getN (D := G.1) (ci := 0) (v := .ref a_b_entries) (C := "PlayStates$Board") (T := TBd) (N := 2) hx hb hts iw_0 hown hK hP 2 rfl rfl 0 (by decide) (va_Nw.use rfl (hN.1 ("PlayStates", 125, "PlayStates$Board", "entries", "[I", "PlayStates") (by decide +kernel))) (fun _ h9 => h9) rfl d_PS_findPlaceToHelp_11 ?_
        refine lv_iload_n hx hb d_PS_findPlaceToHelp_14 rfl (lv_at hl 2 rfl) ?_
        obtain ⟨i2, h⟩ := o_if h
        refine va_iald (n := n) (f := x_b_entries) hx hb hK hP 3 0 rfl rfl i2 d_PS_findPlaceToHelp_15 ?_
        refine lv_if_ne (tgt := 30) hx hb d_PS_findPlaceToHelp_16 (by decide) (fun c3 => ?_) (fun c3 => ?_)
        · replace h := (if_neg c3).symm.trans h
          refine lv_iinc (v := (l2_2 + (1 : Int32))) (lv' := [(2, .int (l2_2 + (1 : Int32))), (0, .ref a_t), (1, .ref a_b)]) hx hb d_PS_findPlaceToHelp_30 hl (k := 2) rfl rfl (by decide) rfl (fun ls hl => ?_)
          refine lv_goto (tgt := 2) hx hb d_PS_findPlaceToHelp_33 (by decide) ?_
          exact ih2 (l2_2 + (1 : Int32)) _ _ _ h hP hD hS (lv_sub hl [1, 2, 0] rfl)
        · replace h := (if_pos c3).symm.trans h
          refine lv_aload_n hx hb d_PS_findPlaceToHelp_19 rfl (lv_at hl 0 rfl) ?_
          refine va_get (D := G.1) (ci := 5) (v := .ref a_t_right) (C := "PlayStates") (T := TPS) (N := 10) hx hb hts iw_5 hown hK hP 0 rfl rfl 1 (by decide) (hts _ gw_103) (fun _ h9 => h9) rfl d_PS_findPlaceToHelp_20 ?_
          refine lv_iload_n hx hb d_PS_findPlaceToHelp_23 rfl (lv_at hl 2 rfl) ?_
          obtain ⟨i4, h⟩ := o_if h
          refine va_iald (n := n) (f := x_t_right) hx hb hK hP 1 0 rfl rfl i4 d_PS_findPlaceToHelp_24 ?_
          refine lv_if_eq (tgt := 30) hx hb d_PS_findPlaceToHelp_25 (by decide) (fun c5 => ?_) (fun c5 => ?_)
          · replace h := (if_pos c5).symm.trans h
            refine lv_iinc (v := (l2_2 + (1 : Int32))) (lv' := [(2, .int (l2_2 + (1 : Int32))), (0, .ref a_t), (1, .ref a_b)]) hx hb d_PS_findPlaceToHelp_30 hl (k := 2) rfl rfl (by decide) rfl (fun ls hl => ?_)
            refine lv_goto (tgt := 2) hx hb d_PS_findPlaceToHelp_33 (by decide) ?_
            exact ih2 (l2_2 + (1 : Int32)) _ _ _ h hP hD hS (lv_sub hl [1, 2, 0] rfl)
          · replace h := (if_neg c5).symm.trans h
            refine lv_iload_n hx hb d_PS_findPlaceToHelp_28 rfl (lv_at hl 2 rfl) ?_
            cases h
            exact q_iretW hx hb hr hlocks hP hD hS d_PS_findPlaceToHelp_29
  exact L2 fu (0 : Int32) _ _ _ h hP hD hS (lv_sub hl [1, 2, 0] rfl)
