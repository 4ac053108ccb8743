theorem gw_209 : (.code ⟨"PlayStates$RowTable", "holds", "(I)Z"⟩ prog_5_method_2_code 2 (some .boolean) : Cond) ∈ GW := gT 235 (by decide +kernel) (by decide +kernel)
theorem gw_206 : (.methodLink "PlayStates" 96 ⟨"PlayStates$RowTable", "holds", "(I)Z"⟩ : Cond) ∈ GW := gT 232 (by decide +kernel) (by decide +kernel)
theorem gw_207 : (.instanceMethod ⟨"PlayStates$RowTable", "holds", "(I)Z"⟩ : Cond) ∈ GW := gT 233 (by decide +kernel) (by decide +kernel)
theorem gw_208 : (.selects "PlayStates$RowTable" ⟨"PlayStates$RowTable", "holds", "(I)Z"⟩ ⟨"PlayStates$RowTable", "holds", "(I)Z"⟩ : Cond) ∈ GW := gT 234 (by decide +kernel) (by decide +kernel)
theorem d_PS_undo_0 : decode prog_1_method_5_code 0 = .ok (.aload_n 0, 1) := by decide +kernel
theorem d_PS_undo_1 : decode prog_1_method_5_code 1 = .ok (.iload_n 1, 1) := by decide +kernel
theorem d_PS_undo_2 : decode prog_1_method_5_code 2 = .ok (.invokevirtual 75, 3) := by decide +kernel
theorem d_PS_undo_5 : decode prog_1_method_5_code 5 = .ok (.astore_n 2, 1) := by decide +kernel
theorem d_PS_undo_6 : decode prog_1_method_5_code 6 = .ok (.aload_n 2, 1) := by decide +kernel
theorem d_PS_undo_7 : decode prog_1_method_5_code 7 = .ok (.ifnull 17, 3) := by decide +kernel
theorem d_PS_undo_10 : decode prog_1_method_5_code 10 = .ok (.aload_n 0, 1) := by decide +kernel
theorem d_PS_undo_11 : decode prog_1_method_5_code 11 = .ok (.getfield 35, 3) := by decide +kernel
theorem d_PS_undo_14 : decode prog_1_method_5_code 14 = .ok (.aload_n 2, 1) := by decide +kernel
theorem d_PS_undo_15 : decode prog_1_method_5_code 15 = .ok (.getfield 93, 3) := by decide +kernel
theorem d_PS_undo_18 : decode prog_1_method_5_code 18 = .ok (.invokevirtual 96, 3) := by decide +kernel
theorem d_PS_undo_21 : decode prog_1_method_5_code 21 = .ok (.ifCond .ne 5, 3) := by decide +kernel
theorem d_PS_undo_24 : decode prog_1_method_5_code 24 = .ok (.iconst (-1), 1) := by decide +kernel
theorem d_PS_undo_25 : decode prog_1_method_5_code 25 = .ok (.ireturn, 1) := by decide +kernel
theorem d_PS_undo_26 : decode prog_1_method_5_code 26 = .ok (.aload_n 2, 1) := by decide +kernel
theorem d_PS_undo_27 : decode prog_1_method_5_code 27 = .ok (.getfield 93, 3) := by decide +kernel
theorem d_PS_undo_30 : decode prog_1_method_5_code 30 = .ok (.istore_n 3, 1) := by decide +kernel
theorem d_PS_undo_31 : decode prog_1_method_5_code 31 = .ok (.aload_n 2, 1) := by decide +kernel
theorem d_PS_undo_32 : decode prog_1_method_5_code 32 = .ok (.getfield 99, 3) := by decide +kernel
theorem d_PS_undo_35 : decode prog_1_method_5_code 35 = .ok (.aload_n 0, 1) := by decide +kernel
theorem d_PS_undo_36 : decode prog_1_method_5_code 36 = .ok (.getfield 35, 3) := by decide +kernel
theorem d_PS_undo_39 : decode prog_1_method_5_code 39 = .ok (.getfield 102, 3) := by decide +kernel
theorem d_PS_undo_42 : decode prog_1_method_5_code 42 = .ok (.iload_n 3, 1) := by decide +kernel
theorem d_PS_undo_43 : decode prog_1_method_5_code 43 = .ok (.iaload, 1) := by decide +kernel
theorem d_PS_undo_44 : decode prog_1_method_5_code 44 = .ok (.aload_n 0, 1) := by decide +kernel
theorem d_PS_undo_45 : decode prog_1_method_5_code 45 = .ok (.getfield 35, 3) := by decide +kernel
theorem d_PS_undo_48 : decode prog_1_method_5_code 48 = .ok (.getfield 105, 3) := by decide +kernel
theorem d_PS_undo_51 : decode prog_1_method_5_code 51 = .ok (.iload_n 3, 1) := by decide +kernel
theorem d_PS_undo_52 : decode prog_1_method_5_code 52 = .ok (.iaload, 1) := by decide +kernel
theorem d_PS_undo_53 : decode prog_1_method_5_code 53 = .ok (.invokevirtual 108, 3) := by decide +kernel
theorem d_PS_undo_56 : decode prog_1_method_5_code 56 = .ok (.aload_n 2, 1) := by decide +kernel
theorem d_PS_undo_57 : decode prog_1_method_5_code 57 = .ok (.aload_n 0, 1) := by decide +kernel
theorem d_PS_undo_58 : decode prog_1_method_5_code 58 = .ok (.getfield 35, 3) := by decide +kernel
theorem d_PS_undo_61 : decode prog_1_method_5_code 61 = .ok (.getfield 112, 3) := by decide +kernel
theorem d_PS_undo_64 : decode prog_1_method_5_code 64 = .ok (.iload_n 3, 1) := by decide +kernel
theorem d_PS_undo_65 : decode prog_1_method_5_code 65 = .ok (.iaload, 1) := by decide +kernel
theorem d_PS_undo_66 : decode prog_1_method_5_code 66 = .ok (.putfield 93, 3) := by decide +kernel
theorem d_PS_undo_69 : decode prog_1_method_5_code 69 = .ok (.iload_n 3, 1) := by decide +kernel
theorem d_PS_undo_70 : decode prog_1_method_5_code 70 = .ok (.ireturn, 1) := by decide +kernel
-- PlayStates.undo(I)I 
def ws_PS_undo (G : gG) (a_t a_t_right a_t_joining a_t_units a_t_draft a_t_reader a_t_persons a_t_table a_t_table_told a_t_table_place a_t_table_before a_t_table_behind a_w a_w_clock a_w_board a_w_board_entries a_w_board_markBits : Nat) (n : Nat) (x_t_placeCount : Int32) (x_t_personCount : Int32) (x_t_unitCount : Int32) (x_t_persons : Nat → Option Nat) (x_t_table_count : Int32) (x_t_table_place : Nat → Int32) (x_t_table_before : Nat → Int32) (x_t_table_behind : Nat → Int32) (x_w_number : Int32) (x_w_present : Int32) (x_w_helpCount : Int32) (x_w_board_entries : Nat → Int32) (x_w_board_markBits : Nat → Int32) : va_W := [(a_t, .inr (5, [.int x_t_placeCount, .ref a_t_right, .ref a_t_persons, .int x_t_personCount, .ref a_t_table, .ref a_t_joining, .ref a_t_units, .int x_t_unitCount, .ref a_t_draft, .ref a_t_reader])), (a_t_persons, .inl (G.2 3, 8, .inr (.inr (.inr (.inr x_t_persons))))), (a_t_table, .inr (3, [.ref a_t_table_place, .ref a_t_table_told, .ref a_t_table_before, .ref a_t_table_behind, .int x_t_table_count])), (a_t_table_place, .inl (G.2 0, 600, .inl x_t_table_place)), (a_t_table_before, .inl (G.2 0, 600, .inl x_t_table_before)), (a_t_table_behind, .inl (G.2 0, 600, .inl x_t_table_behind)), (a_w, .inr (2, [.int x_w_number, .ref a_w_board, .ref a_w_clock, .int x_w_present, .int x_w_helpCount])), (a_w_board, .inr (0, [.ref a_w_board_entries, .ref a_w_board_markBits])), (a_w_board_entries, .inl (G.2 0, n, .inl x_w_board_entries)), (a_w_board_markBits, .inl (G.2 0, n, .inl x_w_board_markBits))]
def f_PS_undo (n : Nat) (p0 : Int32) (x_t_placeCount : Int32) (x_t_personCount : Int32) (x_t_unitCount : Int32) (x_t_persons : Nat → Option Nat) (x_t_table_count : Int32) (x_t_table_place : Nat → Int32) (x_t_table_before : Nat → Int32) (x_t_table_behind : Nat → Int32) (x_w_number : Int32) (x_w_present : Int32) (x_w_helpCount : Int32) (x_w_board_entries : Nat → Int32) (x_w_board_markBits : Nat → Int32) : Option (Int32 × Int32 × (Nat → Int32) × (Nat → Int32)) :=
  ((f_Rt_holds x_w_present x_t_table_count).bind fun y1 => (if y1 = 0 then some ((-1 : Int32), x_w_present, x_w_board_entries, x_w_board_markBits) else (if inB x_w_present 600 then (if inB x_w_present 600 then ((f_Bd_put n (x_t_table_place x_w_present.toNatClampNeg) (x_t_table_before x_w_present.toNatClampNeg) x_w_board_entries x_w_board_markBits).bind fun y5 => (if inB x_w_present 600 then some (x_w_present, (x_t_table_behind x_w_present.toNatClampNeg), y5.1, y5.2) else none)) else none) else none)))
set_option maxHeartbeats 4000000 in
set_option maxRecDepth 100000 in
theorem c_PS_undo (l : Launch) (G : gG) (sz : Nat) (a_t a_t_right a_t_joining a_t_units a_t_draft a_t_reader a_t_persons a_t_table a_t_table_told a_t_table_place a_t_table_before a_t_table_behind a_w a_w_clock a_w_board a_w_board_entries a_w_board_markBits : Nat) (n : Nat) (p0 : Int32) (x_t_placeCount : Int32) (x_t_personCount : Int32) (x_t_unitCount : Int32) (x_t_persons : Nat → Option Nat) (x_t_table_count : Int32) (x_t_table_place : Nat → Int32) (x_t_table_before : Nat → Int32) (x_t_table_behind : Nat → Int32) (x_w_number : Int32) (x_w_present : Int32) (x_w_helpCount : Int32) (x_w_board_entries : Nat → Int32) (x_w_board_markBits : Nat → Int32) (r : Int32) (x_w_present' : Int32) (x_w_board_entries' : Nat → Int32) (x_w_board_markBits' : Nat → Int32) (h : f_PS_undo n p0 x_t_placeCount x_t_personCount x_t_unitCount x_t_persons x_t_table_count x_t_table_place x_t_table_before x_t_table_behind x_w_number x_w_present x_w_helpCount x_w_board_entries x_w_board_markBits = some (r, x_w_present', x_w_board_entries', x_w_board_markBits'))  (hw : f_PS_find p0 x_t_placeCount x_t_personCount x_t_unitCount x_t_persons = some (some a_w)) : cN l y_PS_undo w_PS_undo { frames := 1, cells := 0, slots := 0, locals := 22 } G sz [.ref a_t, .int p0] (ws_PS_undo G a_t a_t_right a_t_joining a_t_units a_t_draft a_t_reader a_t_persons a_t_table a_t_table_told a_t_table_place a_t_table_before a_t_table_behind a_w a_w_clock a_w_board a_w_board_entries a_w_board_markBits n x_t_placeCount x_t_personCount x_t_unitCount x_t_persons x_t_table_count x_t_table_place x_t_table_before x_t_table_behind x_w_number x_w_present x_w_helpCount x_w_board_entries x_w_board_markBits) (some (.int r)) (wB G (ws_PS_undo G a_t a_t_right a_t_joining a_t_units a_t_draft a_t_reader a_t_persons a_t_table a_t_table_told a_t_table_place a_t_table_before a_t_table_behind a_w a_w_clock a_w_board a_w_board_entries a_w_board_markBits n x_t_placeCount x_t_personCount x_t_unitCount x_t_persons x_t_table_count x_t_table_place x_t_table_before x_t_table_behind x_w_number x_w_present' x_w_helpCount x_w_board_entries' x_w_board_markBits')) 0 0 := by
  refine cN_ofW (cc := prog_1_method_5_code) (maxL := 4) (ret := (some .int)) (by decide) rfl (Nat.le_of_ble_eq_true rfl) ?_
  intro p e s m args below meth c A H locs ls hx hb hr hts hown hlocks hin hml hK hN hP hD hA hS hl
  replace hl : lv_has ls 4 [(0, .ref a_t), (1, .int p0)] := hl
  replace hown : s.vm.findClass "PlayStates" = some m.cls := hown
  unfold f_PS_undo at h
  refine lv_aload_n hx hb d_PS_undo_0 rfl (lv_at hl 0 rfl) ?_
  refine lv_iload_n hx hb d_PS_undo_1 rfl (lv_at hl 1 rfl) ?_
  have hPc := hP.sub (ws' := (ws_PS_find G a_t a_t_right a_t_table a_t_joining a_t_units a_t_draft a_t_reader a_t_persons x_t_placeCount x_t_personCount x_t_unitCount x_t_persons)) [0, 1] rfl
  have hDc := hD.sub (ws' := (ws_PS_find G a_t a_t_right a_t_table a_t_joining a_t_units a_t_draft a_t_reader a_t_persons x_t_placeCount x_t_personCount x_t_unitCount x_t_persons)) [0, 1] (by decide) rfl
  have hFc := va_free (wc := (ws_PS_find G a_t a_t_right a_t_table a_t_joining a_t_units a_t_draft a_t_reader a_t_persons x_t_placeCount x_t_personCount x_t_unitCount x_t_persons)) hD hS hA [0, 1] rfl
  refine q_call1 (va_runV (As := [.int p0]) (rest := []) ⟨hx, hb, hml, hown, hts⟩ (c_PS_find l G H.size a_t a_t_right a_t_table a_t_joining a_t_units a_t_draft a_t_reader a_t_persons p0 x_t_placeCount x_t_personCount x_t_unitCount x_t_persons _ hw) (cwV 1 hts (gV gw_163 gw_164 gw_2 gw_31 gw_165) rfl rfl rfl (by decide +kernel) ⟨Nat.le_of_ble_eq_true rfl, Nat.le_of_ble_eq_true rfl⟩) (pV hK hN hPc hDc (ci := 5) (q0 := 0) rfl rfl) rfl rfl hl.1 rfl (lv_room (Nat.le_of_ble_eq_true rfl)) d_PS_undo_2 ⟨Nat.le_of_ble_eq_true rfl, Nat.le_of_ble_eq_true rfl⟩) hS (fun q _ h => hFc q h) hFc (fun H1 locs hB hz hk hS => ?_)
  obtain ⟨hP, hD⟩ := q_join (wr := [(a_t_table, .inr (3, [.ref a_t_table_place, .ref a_t_table_told, .ref a_t_table_before, .ref a_t_table_behind, .int x_t_table_count])), (a_t_table_place, .inl (G.2 0, 600, .inl x_t_table_place)), (a_t_table_before, .inl (G.2 0, 600, .inl x_t_table_before)), (a_t_table_behind, .inl (G.2 0, 600, .inl x_t_table_behind)), (a_w, .inr (2, [.int x_w_number, .ref a_w_board, .ref a_w_clock, .int x_w_present, .int x_w_helpCount])), (a_w_board, .inr (0, [.ref a_w_board_entries, .ref a_w_board_markBits])), (a_w_board_entries, .inl (G.2 0, n, .inl x_w_board_entries)), (a_w_board_markBits, .inl (G.2 0, n, .inl x_w_board_markBits))]) (wn := (ws_PS_undo G a_t a_t_right a_t_joining a_t_units a_t_draft a_t_reader a_t_persons a_t_table a_t_table_told a_t_table_place a_t_table_before a_t_table_behind a_w a_w_clock a_w_board a_w_board_entries a_w_board_markBits n x_t_placeCount x_t_personCount x_t_unitCount x_t_persons x_t_table_count x_t_table_place x_t_table_before x_t_table_behind x_w_number x_w_present x_w_helpCount x_w_board_entries x_w_board_markBits)) hP hD [0, 1] [2, 3, 4, 5, 6, 7, 8, 9] [8, 9, 0, 1, 2, 3, 4, 5, 6, 7] rfl rfl (by decide) (by decide) rfl (by decide) hk hFc hB.1 hB.2
  generalize H1 = H at hP hS ⊢
  replace hP : va_P G.1 vwCl (ws_PS_undo G a_t a_t_right a_t_joining a_t_units a_t_draft a_t_reader a_t_persons a_t_table a_t_table_told a_t_table_place a_t_table_before a_t_table_behind a_w a_w_clock a_w_board a_w_board_entries a_w_board_markBits n x_t_placeCount x_t_personCount x_t_unitCount x_t_persons x_t_table_count x_t_table_place x_t_table_before x_t_table_behind x_w_number x_w_present x_w_helpCount x_w_board_entries x_w_board_markBits) H := hP
  replace hD : va_D A (ws_PS_undo G a_t a_t_right a_t_joining a_t_units a_t_draft a_t_reader a_t_persons a_t_table a_t_table_told a_t_table_place a_t_table_before a_t_table_behind a_w a_w_clock a_w_board a_w_board_entries a_w_board_markBits n x_t_placeCount x_t_personCount x_t_unitCount x_t_persons x_t_table_count x_t_table_place x_t_table_before x_t_table_behind x_w_number x_w_present x_w_helpCount x_w_board_entries x_w_board_markBits) := hD
  refine lv_astore_n (lv' := [(2, .ref a_w), (0, .ref a_t), (1, .int p0)]) hx hb d_PS_undo_5 rfl hl (by decide) rfl (fun ls hl => ?_)
  refine lv_aload_n hx hb d_PS_undo_6 rfl (lv_at hl 0 rfl) ?_
  refine lv_ifnull hx hb d_PS_undo_7 ?_
  refine lv_aload_n hx hb d_PS_undo_10 rfl (lv_at hl 1 rfl) ?_
  refine va_get (D := G.1) (ci := 5) (v := .ref a_t_table) (C := "PlayStates") (T := TPS) (N := 10) hx hb hts iw_5 hown hK hP 0 rfl rfl 4 (by decide) (hts _ gw_106) (fun _ h9 => h9) rfl d_PS_undo_11 ?_
  refine lv_aload_n hx hb d_PS_undo_14 rfl (lv_at hl 0 rfl) ?_
  refine va_getN (D := G.1) (ci := 2) (v := .int x_w_present) (C := "PlayStates$Person") (T := TPn) (N := 5) hx hb hts iw_2 hown hK hP 6 rfl rfl 3 (by decide) (va_Nw.use rfl (hN.1 ("PlayStates", 93, "PlayStates$Person", "present", "I", "PlayStates") (by decide +kernel))) (fun _ h9 => h9) rfl d_PS_undo_15 ?_
  obtain ⟨y1, hy1, h⟩ := o_bind h
  have hPc := hP.sub (ws' := (ws_Rt_holds G a_t_table a_t_table_place a_t_table_told a_t_table_before a_t_table_behind x_t_table_count)) [2] rfl
  have hDc := hD.sub (ws' := (ws_Rt_holds G a_t_table a_t_table_place a_t_table_told a_t_table_before a_t_table_behind x_t_table_count)) [2] (by decide) rfl
  have hFc := va_free (wc := (ws_Rt_holds G a_t_table a_t_table_place a_t_table_told a_t_table_before a_t_table_behind x_t_table_count)) hD hS hA [2] rfl
  refine q_call1 (va_runV (As := [.int x_w_present]) (rest := []) ⟨hx, hb, hml, hown, hts⟩ (c_Rt_holds l G H.size a_t_table a_t_table_place a_t_table_told a_t_table_before a_t_table_behind x_w_present x_t_table_count _ hy1) (cwV 1 hts (gV gw_206 gw_207 gw_208 gw_33 gw_209) rfl rfl rfl (by decide +kernel) ⟨Nat.le_of_ble_eq_true rfl, Nat.le_of_ble_eq_true rfl⟩) (pV hK hN hPc hDc (ci := 3) (q0 := 0) rfl rfl) rfl rfl hl.1 rfl (lv_room (Nat.le_of_ble_eq_true rfl)) d_PS_undo_18 ⟨Nat.le_of_ble_eq_true rfl, Nat.le_of_ble_eq_true rfl⟩) hS (fun q _ h => hFc q h) hFc (fun H1 locs hB hz hk hS => ?_)
  obtain ⟨hP, hD⟩ := q_join (wr := [(a_t, .inr (5, [.int x_t_placeCount, .ref a_t_right, .ref a_t_persons, .int x_t_personCount, .ref a_t_table, .ref a_t_joining, .ref a_t_units, .int x_t_unitCount, .ref a_t_draft, .ref a_t_reader])), (a_t_persons, .inl (G.2 3, 8, .inr (.inr (.inr (.inr x_t_persons))))), (a_t_table_place, .inl (G.2 0, 600, .inl x_t_table_place)), (a_t_table_before, .inl (G.2 0, 600, .inl x_t_table_before)), (a_t_table_behind, .inl (G.2 0, 600, .inl x_t_table_behind)), (a_w, .inr (2, [.int x_w_number, .ref a_w_board, .ref a_w_clock, .int x_w_present, .int x_w_helpCount])), (a_w_board, .inr (0, [.ref a_w_board_entries, .ref a_w_board_markBits])), (a_w_board_entries, .inl (G.2 0, n, .inl x_w_board_entries)), (a_w_board_markBits, .inl (G.2 0, n, .inl x_w_board_markBits))]) (wn := (ws_PS_undo G a_t a_t_right a_t_joining a_t_units a_t_draft a_t_reader a_t_persons a_t_table a_t_table_told a_t_table_place a_t_table_before a_t_table_behind a_w a_w_clock a_w_board a_w_board_entries a_w_board_markBits n x_t_placeCount x_t_personCount x_t_unitCount x_t_persons x_t_table_count x_t_table_place x_t_table_before x_t_table_behind x_w_number x_w_present x_w_helpCount x_w_board_entries x_w_board_markBits)) hP hD [2] [0, 1, 3, 4, 5, 6, 7, 8, 9] [0, 1, 9, 2, 3, 4, 5, 6, 7, 8] rfl rfl (by decide) (by decide) rfl (by decide) hk hFc hB.1 hB.2
  generalize H1 = H at hP hS ⊢
  replace hP : va_P G.1 vwCl (ws_PS_undo G a_t a_t_right a_t_joining a_t_units a_t_draft a_t_reader a_t_persons a_t_table a_t_table_told a_t_table_place a_t_table_before a_t_table_behind a_w a_w_clock a_w_board a_w_board_entries a_w_board_markBits n x_t_placeCount x_t_personCount x_t_unitCount x_t_persons x_t_table_count x_t_table_place x_t_table_before x_t_table_behind x_w_number x_w_present x_w_helpCount x_w_board_entries x_w_board_markBits) H := hP
  replace hD : va_D A (ws_PS_undo G a_t a_t_right a_t_joining a_t_units a_t_draft a_t_reader a_t_persons a_t_table a_t_table_told a_t_table_place a_t_table_before a_t_table_behind a_w a_w_clock a_w_board a_w_board_entries a_w_board_markBits n x_t_placeCount x_t_personCount x_t_unitCount x_t_persons x_t_table_count x_t_table_place x_t_table_before x_t_table_behind x_w_number x_w_present x_w_helpCount x_w_board_entries x_w_board_markBits) := hD
  refine lv_if_ne (tgt := 26) hx hb d_PS_undo_21 (by decide) (fun c2 => ?_) (fun c2 => ?_)
  · replace h := (if_neg c2).symm.trans h
    refine lv_aload_n hx hb d_PS_undo_26 rfl (lv_at hl 0 rfl) ?_
    refine va_getN (D := G.1) (ci := 2) (v := .int x_w_present) (C := "PlayStates$Person") (T := TPn) (N := 5) hx hb hts iw_2 hown hK hP 6 rfl rfl 3 (by decide) (va_Nw.use rfl (hN.1 ("PlayStates", 93, "PlayStates$Person", "present", "I", "PlayStates") (by decide +kernel))) (fun _ h9 => h9) rfl d_PS_undo_27 ?_
    refine lv_istore_n (lv' := [(3, .int x_w_present), (2, .ref a_w), (0, .ref a_t), (1, .int p0)]) hx hb d_PS_undo_30 rfl hl (by decide) rfl (fun ls hl => ?_)
    refine lv_aload_n hx hb d_PS_undo_31 rfl (lv_at hl 1 rfl) ?_
    refine va_getN (D := G.1) (ci := 2) (v := .ref a_w_board) (C := "PlayStates$Person") (T := TPn) (N := 5) hx hb hts iw_2 hown hK hP 6 rfl rfl 1 (by decide) (va_Nw.use rfl (hN.1 ("PlayStates", 99, "PlayStates$Person", "board", "LPlayStates$Board;", "PlayStates") (by decide +kernel))) (fun _ h9 => h9) rfl d_PS_undo_32 ?_
    refine lv_aload_n hx hb d_PS_undo_35 rfl (lv_at hl 2 rfl) ?_
    refine va_get (D := G.1) (ci := 5) (v := .ref a_t_table) (C := "PlayStates") (T := TPS) (N := 10) hx hb hts iw_5 hown hK hP 0 rfl rfl 4 (by decide) (hts _ gw_106) (fun _ h9 => h9) rfl d_PS_undo_36 ?_
    refine va_getN (D := G.1) (ci := 3) (v := .ref a_t_table_place) (C := "PlayStates$RowTable") (T := TRt) (N := 5) hx hb hts iw_3 hown hK hP 2 rfl rfl 0 (by decide) (va_Nw.use rfl (hN.1 ("PlayStates", 102, "PlayStates$RowTable", "place", "[I", "PlayStates") (by decide +kernel))) (fun _ h9 => h9) rfl d_PS_undo_39 ?_
    refine lv_iload_n hx hb d_PS_undo_42 rfl (lv_at hl 0 rfl) ?_
    obtain ⟨i3, h⟩ := o_if h
    refine va_iald (n := 600) (f := x_t_table_place) hx hb hK hP 3 0 rfl rfl i3 d_PS_undo_43 ?_
    refine lv_aload_n hx hb d_PS_undo_44 rfl (lv_at hl 2 rfl) ?_
    refine va_get (D := G.1) (ci := 5) (v := .ref a_t_table) (C := "PlayStates") (T := TPS) (N := 10) hx hb hts iw_5 hown hK hP 0 rfl rfl 4 (by decide) (hts _ gw_106) (fun _ h9 => h9) rfl d_PS_undo_45 ?_
    refine va_getN (D := G.1) (ci := 3) (v := .ref a_t_table_before) (C := "PlayStates$RowTable") (T := TRt) (N := 5) hx hb hts iw_3 hown hK hP 2 rfl rfl 2 (by decide) (va_Nw.use rfl (hN.1 ("PlayStates", 105, "PlayStates$RowTable", "before", "[I", "PlayStates") (by decide +kernel))) (fun _ h9 => h9) rfl d_PS_undo_48 ?_
    refine lv_iload_n hx hb d_PS_undo_51 rfl (lv_at hl 0 rfl) ?_
    obtain ⟨i4, h⟩ := o_if h
    refine va_iald (n := 600) (f := x_t_table_before) hx hb hK hP 4 0 rfl rfl i4 d_PS_undo_52 ?_
    obtain ⟨y5, hy5, h⟩ := o_bind h
    have hPc := hP.sub (ws' := (ws_Bd_put G a_w_board a_w_board_entries a_w_board_markBits n x_w_board_entries x_w_board_markBits)) [7, 8, 9] rfl
    have hDc := hD.sub (ws' := (ws_Bd_put G a_w_board a_w_board_entries a_w_board_markBits n x_w_board_entries x_w_board_markBits)) [7, 8, 9] (by decide) rfl
    have hFc := va_free (wc := (ws_Bd_put G a_w_board a_w_board_entries a_w_board_markBits n x_w_board_entries x_w_board_markBits)) hD hS hA [7, 8, 9] rfl
    refine q_call0 (va_runV (As := [.int (x_t_table_place x_w_present.toNatClampNeg), .int (x_t_table_before x_w_present.toNatClampNeg)]) (rest := []) ⟨hx, hb, hml, hown, hts⟩ (c_Bd_put l G H.size a_w_board a_w_board_entries a_w_board_markBits n (x_t_table_place x_w_present.toNatClampNeg) (x_t_table_before x_w_present.toNatClampNeg) x_w_board_entries x_w_board_markBits _ _ hy5) (cwV 2 hts (gV gw_191 gw_192 gw_193 gw_34 gw_194) rfl rfl rfl (by decide +kernel) ⟨Nat.le_of_ble_eq_true rfl, Nat.le_of_ble_eq_true rfl⟩) (pV hK hN hPc hDc (ci := 0) (q0 := 0) rfl rfl) rfl rfl hl.1 rfl (lv_room (Nat.le_of_ble_eq_true rfl)) d_PS_undo_53 ⟨Nat.le_of_ble_eq_true rfl, Nat.le_of_ble_eq_true rfl⟩) hS (fun q _ h => hFc q h) hFc (fun H1 locs hB hz hk hS => ?_)
    obtain ⟨hP, hD⟩ := q_join (wr := [(a_t, .inr (5, [.int x_t_placeCount, .ref a_t_right, .ref a_t_persons, .int x_t_personCount, .ref a_t_table, .ref a_t_joining, .ref a_t_units, .int x_t_unitCount, .ref a_t_draft, .ref a_t_reader])), (a_t_persons, .inl (G.2 3, 8, .inr (.inr (.inr (.inr x_t_persons))))), (a_t_table, .inr (3, [.ref a_t_table_place, .ref a_t_table_told, .ref a_t_table_before, .ref a_t_table_behind, .int x_t_table_count])), (a_t_table_place, .inl (G.2 0, 600, .inl x_t_table_place)), (a_t_table_before, .inl (G.2 0, 600, .inl x_t_table_before)), (a_t_table_behind, .inl (G.2 0, 600, .inl x_t_table_behind)), (a_w, .inr (2, [.int x_w_number, .ref a_w_board, .ref a_w_clock, .int x_w_present, .int x_w_helpCount]))]) (wn := (ws_PS_undo G a_t a_t_right a_t_joining a_t_units a_t_draft a_t_reader a_t_persons a_t_table a_t_table_told a_t_table_place a_t_table_before a_t_table_behind a_w a_w_clock a_w_board a_w_board_entries a_w_board_markBits n x_t_placeCount x_t_personCount x_t_unitCount x_t_persons x_t_table_count x_t_table_place x_t_table_before x_t_table_behind x_w_number x_w_present x_w_helpCount y5.1 y5.2)) hP hD [7, 8, 9] [0, 1, 2, 3, 4, 5, 6] [0, 1, 2, 3, 4, 5, 6, 7, 8, 9] rfl rfl (by decide) (by decide) rfl (by decide) hk hFc hB.1 hB.2
    generalize H1 = H at hP hS ⊢
    replace hP : va_P G.1 vwCl (ws_PS_undo G a_t a_t_right a_t_joining a_t_units a_t_draft a_t_reader a_t_persons a_t_table a_t_table_told a_t_table_place a_t_table_before a_t_table_behind a_w a_w_clock a_w_board a_w_board_entries a_w_board_markBits n x_t_placeCount x_t_personCount x_t_unitCount x_t_persons x_t_table_count x_t_table_place x_t_table_before x_t_table_behind x_w_number x_w_present x_w_helpCount y5.1 y5.2) H := hP
    replace hD : va_D A (ws_PS_undo G a_t a_t_right a_t_joining a_t_units a_t_draft a_t_reader a_t_persons a_t_table a_t_table_told a_t_table_place a_t_table_before a_t_table_behind a_w a_w_clock a_w_board a_w_board_entries a_w_board_markBits n x_t_placeCount x_t_personCount x_t_unitCount x_t_persons x_t_table_count x_t_table_place x_t_table_before x_t_table_behind x_w_number x_w_present x_w_helpCount y5.1 y5.2) := hD
    refine lv_aload_n hx hb d_PS_undo_56 rfl (lv_at hl 1 rfl) ?_
    refine lv_aload_n hx hb d_PS_undo_57 rfl (lv_at hl 2 rfl) ?_
    refine va_get (D := G.1) (ci := 5) (v := .ref a_t_table) (C := "PlayStates") (T := TPS) (N := 10) hx hb hts iw_5 hown hK hP 0 rfl rfl 4 (by decide) (hts _ gw_106) (fun _ h9 => h9) rfl d_PS_undo_58 ?_
    refine va_getN (D := G.1) (ci := 3) (v := .ref a_t_table_behind) (C := "PlayStates$RowTable") (T := TRt) (N := 5) hx hb hts iw_3 hown hK hP 2 rfl rfl 3 (by decide) (va_Nw.use rfl (hN.1 ("PlayStates", 112, "PlayStates$RowTable", "behind", "[I", "PlayStates") (by decide +kernel))) (fun _ h9 => h9) rfl d_PS_undo_61 ?_
    refine lv_iload_n hx hb d_PS_undo_64 rfl (lv_at hl 0 rfl) ?_
    obtain ⟨i6, h⟩ := o_if h
    refine va_iald (n := 600) (f := x_t_table_behind) hx hb hK hP 5 0 rfl rfl i6 d_PS_undo_65 ?_
    refine va_putN (D := G.1) (ci := 2) (v := .int (x_t_table_behind x_w_present.toNatClampNeg)) (ty := .int) (C := "PlayStates$Person") (T := TPn) (N := 5) hx hb hts iw_2 tyPn tyPn_ok nmPn hown hK hP hD hS 6 rfl rfl 3 (by decide) (va_Nw.use rfl (hN.1 ("PlayStates", 93, "PlayStates$Person", "present", "I", "PlayStates") (by decide +kernel))) (fun _ h9 => h9) rfl (by decide +kernel) (by rfl) (by rfl) (Nat.le_of_ble_eq_true rfl) d_PS_undo_66 (fun H locs hP hD hS => ?_)
    replace hP : va_P G.1 vwCl (ws_PS_undo G a_t a_t_right a_t_joining a_t_units a_t_draft a_t_reader a_t_persons a_t_table a_t_table_told a_t_table_place a_t_table_before a_t_table_behind a_w a_w_clock a_w_board a_w_board_entries a_w_board_markBits n x_t_placeCount x_t_personCount x_t_unitCount x_t_persons x_t_table_count x_t_table_place x_t_table_before x_t_table_behind x_w_number (x_t_table_behind x_w_present.toNatClampNeg) x_w_helpCount y5.1 y5.2) H := hP
    replace hD : va_D A (ws_PS_undo G a_t a_t_right a_t_joining a_t_units a_t_draft a_t_reader a_t_persons a_t_table a_t_table_told a_t_table_place a_t_table_before a_t_table_behind a_w a_w_clock a_w_board a_w_board_entries a_w_board_markBits n x_t_placeCount x_t_personCount x_t_unitCount x_t_persons x_t_table_count x_t_table_place x_t_table_before x_t_table_behind x_w_number (x_t_table_behind x_w_present.toNatClampNeg) x_w_helpCount y5.1 y5.2) := hD
    refine lv_iload_n hx hb d_PS_undo_69 rfl (lv_at hl 0 rfl) ?_
    cases h
    exact q_iretW hx hb hr hlocks hP hD hS d_PS_undo_70
  · replace h := (if_pos c2).symm.trans h
    refine lv_iconst (v := (-1 : Int32)) hx hb d_PS_undo_24 (by decide) ?_
    cases h
    exact q_iretW hx hb hr hlocks hP hD hS d_PS_undo_25


-- PlayStates.undo(I)I 
def ws_PS_undo_no (G : gG) (a_t a_t_right a_t_table a_t_joining a_t_units a_t_draft a_t_reader a_t_persons : Nat)  (x_t_placeCount : Int32) (x_t_personCount : Int32) (x_t_unitCount : Int32) (x_t_persons : Nat → Option Nat) : va_W := [(a_t, .inr (5, [.int x_t_placeCount, .ref a_t_right, .ref a_t_persons, .int x_t_personCount, .ref a_t_table, .ref a_t_joining, .ref a_t_units, .int x_t_unitCount, .ref a_t_draft, .ref a_t_reader])), (a_t_persons, .inl (G.2 3, 8, .inr (.inr (.inr (.inr x_t_persons)))))]
def f_PS_undo_no  (p0 : Int32) (x_t_placeCount : Int32) (x_t_personCount : Int32) (x_t_unitCount : Int32) (x_t_persons : Nat → Option Nat) : Option (Int32) :=
  some (-1 : Int32)
set_option maxHeartbeats 4000000 in
set_option maxRecDepth 100000 in
theorem c_PS_undo_no (l : Launch) (G : gG) (sz : Nat) (a_t a_t_right a_t_table a_t_joining a_t_units a_t_draft a_t_reader a_t_persons : Nat)  (p0 : Int32) (x_t_placeCount : Int32) (x_t_personCount : Int32) (x_t_unitCount : Int32) (x_t_persons : Nat → Option Nat) (r : Int32) (h : f_PS_undo_no p0 x_t_placeCount x_t_personCount x_t_unitCount x_t_persons = some r)  (hw : f_PS_find p0 x_t_placeCount x_t_personCount x_t_unitCount x_t_persons = some none) : cN l y_PS_undo w_PS_undo { frames := 1, cells := 0, slots := 0, locals := 21 } G sz [.ref a_t, .int p0] (ws_PS_undo_no G a_t a_t_right a_t_table a_t_joining a_t_units a_t_draft a_t_reader a_t_persons x_t_placeCount x_t_personCount x_t_unitCount x_t_persons) (some (.int r)) (wB G (ws_PS_undo_no G a_t a_t_right a_t_table a_t_joining a_t_units a_t_draft a_t_reader a_t_persons x_t_placeCount x_t_personCount x_t_unitCount x_t_persons)) 0 0 := by
  refine cN_ofW (cc := prog_1_method_5_code) (maxL := 4) (ret := (some .int)) (by decide) rfl (Nat.le_of_ble_eq_true rfl) ?_
  intro p e s m args below meth c A H locs ls hx hb hr hts hown hlocks hin hml hK hN hP hD hA hS hl
  replace hl : lv_has ls 4 [(0, .ref a_t), (1, .int p0)] := hl
  replace hown : s.vm.findClass "PlayStates" = some m.cls := hown
  unfold f_PS_undo_no at h
  refine lv_aload_n hx hb d_PS_undo_0 rfl (lv_at hl 0 rfl) ?_
  refine lv_iload_n hx hb d_PS_undo_1 rfl (lv_at hl 1 rfl) ?_
  have hPc := hP.sub (ws' := (ws_PS_find G a_t a_t_right a_t_table a_t_joining a_t_units a_t_draft a_t_reader a_t_persons x_t_placeCount x_t_personCount x_t_unitCount x_t_persons)) [0, 1] rfl
  have hDc := hD.sub (ws' := (ws_PS_find G a_t a_t_right a_t_table a_t_joining a_t_units a_t_draft a_t_reader a_t_persons x_t_placeCount x_t_personCount x_t_unitCount x_t_persons)) [0, 1] (by decide) rfl
  have hFc := va_free (wc := (ws_PS_find G a_t a_t_right a_t_table a_t_joining a_t_units a_t_draft a_t_reader a_t_persons x_t_placeCount x_t_personCount x_t_unitCount x_t_persons)) hD hS hA [0, 1] rfl
  refine q_call1 (va_runV (As := [.int p0]) (rest := []) ⟨hx, hb, hml, hown, hts⟩ (c_PS_find l G H.size a_t a_t_right a_t_table a_t_joining a_t_units a_t_draft a_t_reader a_t_persons p0 x_t_placeCount x_t_personCount x_t_unitCount x_t_persons _ hw) (cwV 1 hts (gV gw_163 gw_164 gw_2 gw_31 gw_165) rfl rfl rfl (by decide +kernel) ⟨Nat.le_of_ble_eq_true rfl, Nat.le_of_ble_eq_true rfl⟩) (pV hK hN hPc hDc (ci := 5) (q0 := 0) rfl rfl) rfl rfl hl.1 rfl (lv_room (Nat.le_of_ble_eq_true rfl)) d_PS_undo_2 ⟨Nat.le_of_ble_eq_true rfl, Nat.le_of_ble_eq_true rfl⟩) hS (fun q _ h => hFc q h) hFc (fun H1 locs hB hz hk hS => ?_)
  obtain ⟨hP, hD⟩ := q_joinA hFc hB.1 hB.2
  generalize H1 = H at hP hS ⊢
  replace hP : va_P G.1 vwCl (ws_PS_undo_no G a_t a_t_right a_t_table a_t_joining a_t_units a_t_draft a_t_reader a_t_persons x_t_placeCount x_t_personCount x_t_unitCount x_t_persons) H := hP
  replace hD : va_D A (ws_PS_undo_no G a_t a_t_right a_t_table a_t_joining a_t_units a_t_draft a_t_reader a_t_persons x_t_placeCount x_t_personCount x_t_unitCount x_t_persons) := hD
  refine lv_astore_nN (lv' := [(2, .null), (0, .ref a_t), (1, .int p0)]) hx hb d_PS_undo_5 rfl hl (by decide) rfl (fun ls hl => ?_)
  refine lv_aload_nN hx hb d_PS_undo_6 rfl (lv_at hl 0 rfl) ?_
  refine lv_ifnullN (tgt := 24) hx hb d_PS_undo_7 (by decide) ?_
  refine lv_iconst (v := (-1 : Int32)) hx hb d_PS_undo_24 (by decide) ?_
  cases h
  exact q_iretW hx hb hr hlocks hP hD hS d_PS_undo_25

theorem gw_217 : (.code ⟨"PlayStates$RowTable", "findBranch", "(II)I"⟩ prog_5_method_6_code 5 (some .int) : Cond) ∈ GW := gT 243 (by decide +kernel) (by decide +kernel)
theorem gw_214 : (.methodLink "PlayStates" 115 ⟨"PlayStates$RowTable", "findBranch", "(II)I"⟩ : Cond) ∈ GW := gT 240 (by decide +kernel) (by decide +kernel)
theorem gw_215 : (.instanceMethod ⟨"PlayStates$RowTable", "findBranch", "(II)I"⟩ : Cond) ∈ GW := gT 241 (by decide +kernel) (by decide +kernel)
theorem gw_216 : (.selects "PlayStates$RowTable" ⟨"PlayStates$RowTable", "findBranch", "(II)I"⟩ ⟨"PlayStates$RowTable", "findBranch", "(II)I"⟩ : Cond) ∈ GW := gT 242 (by decide +kernel) (by decide +kernel)
theorem d_PS_redo_0 : decode prog_1_method_6_code 0 = .ok (.aload_n 0, 1) := by decide +kernel
theorem d_PS_redo_1 : decode prog_1_method_6_code 1 = .ok (.iload_n 1, 1) := by decide +kernel
theorem d_PS_redo_2 : decode prog_1_method_6_code 2 = .ok (.invokevirtual 75, 3) := by decide +kernel
theorem d_PS_redo_5 : decode prog_1_method_6_code 5 = .ok (.astore_n 3, 1) := by decide +kernel
theorem d_PS_redo_6 : decode prog_1_method_6_code 6 = .ok (.aload_n 3, 1) := by decide +kernel
theorem d_PS_redo_7 : decode prog_1_method_6_code 7 = .ok (.ifnonnull 5, 3) := by decide +kernel
theorem d_PS_redo_10 : decode prog_1_method_6_code 10 = .ok (.iconst (-1), 1) := by decide +kernel
theorem d_PS_redo_11 : decode prog_1_method_6_code 11 = .ok (.ireturn, 1) := by decide +kernel
theorem d_PS_redo_12 : decode prog_1_method_6_code 12 = .ok (.aload_n 0, 1) := by decide +kernel
theorem d_PS_redo_13 : decode prog_1_method_6_code 13 = .ok (.getfield 35, 3) := by decide +kernel
theorem d_PS_redo_16 : decode prog_1_method_6_code 16 = .ok (.aload_n 3, 1) := by decide +kernel
theorem d_PS_redo_17 : decode prog_1_method_6_code 17 = .ok (.getfield 93, 3) := by decide +kernel
theorem d_PS_redo_20 : decode prog_1_method_6_code 20 = .ok (.iload_n 2, 1) := by decide +kernel
theorem d_PS_redo_21 : decode prog_1_method_6_code 21 = .ok (.invokevirtual 115, 3) := by decide +kernel
theorem d_PS_redo_24 : decode prog_1_method_6_code 24 = .ok (.istore 4, 2) := by decide +kernel
theorem d_PS_redo_26 : decode prog_1_method_6_code 26 = .ok (.aload_n 0, 1) := by decide +kernel
theorem d_PS_redo_27 : decode prog_1_method_6_code 27 = .ok (.getfield 35, 3) := by decide +kernel
theorem d_PS_redo_30 : decode prog_1_method_6_code 30 = .ok (.iload 4, 2) := by decide +kernel
theorem d_PS_redo_32 : decode prog_1_method_6_code 32 = .ok (.invokevirtual 96, 3) := by decide +kernel
theorem d_PS_redo_35 : decode prog_1_method_6_code 35 = .ok (.ifCond .ne 5, 3) := by decide +kernel
theorem d_PS_redo_38 : decode prog_1_method_6_code 38 = .ok (.iconst (-1), 1) := by decide +kernel
theorem d_PS_redo_39 : decode prog_1_method_6_code 39 = .ok (.ireturn, 1) := by decide +kernel
theorem d_PS_redo_40 : decode prog_1_method_6_code 40 = .ok (.aload_n 3, 1) := by decide +kernel
theorem d_PS_redo_41 : decode prog_1_method_6_code 41 = .ok (.getfield 99, 3) := by decide +kernel
theorem d_PS_redo_44 : decode prog_1_method_6_code 44 = .ok (.aload_n 0, 1) := by decide +kernel
theorem d_PS_redo_45 : decode prog_1_method_6_code 45 = .ok (.getfield 35, 3) := by decide +kernel
theorem d_PS_redo_48 : decode prog_1_method_6_code 48 = .ok (.getfield 102, 3) := by decide +kernel
theorem d_PS_redo_51 : decode prog_1_method_6_code 51 = .ok (.iload 4, 2) := by decide +kernel
theorem d_PS_redo_53 : decode prog_1_method_6_code 53 = .ok (.iaload, 1) := by decide +kernel
theorem d_PS_redo_54 : decode prog_1_method_6_code 54 = .ok (.aload_n 0, 1) := by decide +kernel
theorem d_PS_redo_55 : decode prog_1_method_6_code 55 = .ok (.getfield 35, 3) := by decide +kernel
theorem d_PS_redo_58 : decode prog_1_method_6_code 58 = .ok (.getfield 118, 3) := by decide +kernel
theorem d_PS_redo_61 : decode prog_1_method_6_code 61 = .ok (.iload 4, 2) := by decide +kernel
theorem d_PS_redo_63 : decode prog_1_method_6_code 63 = .ok (.iaload, 1) := by decide +kernel
theorem d_PS_redo_64 : decode prog_1_method_6_code 64 = .ok (.invokevirtual 108, 3) := by decide +kernel
theorem d_PS_redo_67 : decode prog_1_method_6_code 67 = .ok (.aload_n 3, 1) := by decide +kernel
theorem d_PS_redo_68 : decode prog_1_method_6_code 68 = .ok (.iload 4, 2) := by decide +kernel
theorem d_PS_redo_70 : decode prog_1_method_6_code 70 = .ok (.putfield 93, 3) := by decide +kernel
theorem d_PS_redo_73 : decode prog_1_method_6_code 73 = .ok (.iload 4, 2) := by decide +kernel
theorem d_PS_redo_75 : decode prog_1_method_6_code 75 = .ok (.ireturn, 1) := by decide +kernel
-- PlayStates.redo(II)I 
def ws_PS_redo (G : gG) (a_t a_t_right a_t_joining a_t_units a_t_draft a_t_reader a_t_persons a_t_table a_t_table_before a_t_table_place a_t_table_told a_t_table_behind a_w a_w_clock a_w_board a_w_board_entries a_w_board_markBits : Nat) (n : Nat) (x_t_placeCount : Int32) (x_t_personCount : Int32) (x_t_unitCount : Int32) (x_t_persons : Nat → Option Nat) (x_t_table_count : Int32) (x_t_table_place : Nat → Int32) (x_t_table_told : Nat → Int32) (x_t_table_behind : Nat → Int32) (x_w_number : Int32) (x_w_present : Int32) (x_w_helpCount : Int32) (x_w_board_entries : Nat → Int32) (x_w_board_markBits : Nat → Int32) : va_W := [(a_t, .inr (5, [.int x_t_placeCount, .ref a_t_right, .ref a_t_persons, .int x_t_personCount, .ref a_t_table, .ref a_t_joining, .ref a_t_units, .int x_t_unitCount, .ref a_t_draft, .ref a_t_reader])), (a_t_persons, .inl (G.2 3, 8, .inr (.inr (.inr (.inr x_t_persons))))), (a_t_table, .inr (3, [.ref a_t_table_place, .ref a_t_table_told, .ref a_t_table_before, .ref a_t_table_behind, .int x_t_table_count])), (a_t_table_place, .inl (G.2 0, 600, .inl x_t_table_place)), (a_t_table_told, .inl (G.2 0, 600, .inl x_t_table_told)), (a_t_table_behind, .inl (G.2 0, 600, .inl x_t_table_behind)), (a_w, .inr (2, [.int x_w_number, .ref a_w_board, .ref a_w_clock, .int x_w_present, .int x_w_helpCount])), (a_w_board, .inr (0, [.ref a_w_board_entries, .ref a_w_board_markBits])), (a_w_board_entries, .inl (G.2 0, n, .inl x_w_board_entries)), (a_w_board_markBits, .inl (G.2 0, n, .inl x_w_board_markBits))]
def f_PS_redo (fu : Nat) (n : Nat) (p0 : Int32) (p1 : Int32) (x_t_placeCount : Int32) (x_t_personCount : Int32) (x_t_unitCount : Int32) (x_t_persons : Nat → Option Nat) (x_t_table_count : Int32) (x_t_table_place : Nat → Int32) (x_t_table_told : Nat → Int32) (x_t_table_behind : Nat → Int32) (x_w_number : Int32) (x_w_present : Int32) (x_w_helpCount : Int32) (x_w_board_entries : Nat → Int32) (x_w_board_markBits : Nat → Int32) : Option (Int32 × Int32 × (Nat → Int32) × (Nat → Int32)) :=
  ((f_Rt_findBranch fu x_w_present p1 x_t_table_count x_t_table_behind).bind fun y1 => ((f_Rt_holds y1 x_t_table_count).bind fun y2 => (if y2 = 0 then some ((-1 : Int32), x_w_present, x_w_board_entries, x_w_board_markBits) else (if inB y1 600 then (if inB y1 600 then ((f_Bd_put n (x_t_table_place y1.toNatClampNeg) (x_t_table_told y1.toNatClampNeg) x_w_board_entries x_w_board_markBits).bind fun y6 => some (y1, y1, y6.1, y6.2)) else none) else none))))
set_option maxHeartbeats 4000000 in
set_option maxRecDepth 100000 in
theorem c_PS_redo (l : Launch) (G : gG) (sz : Nat) (a_t a_t_right a_t_joining a_t_units a_t_draft a_t_reader a_t_persons a_t_table a_t_table_before a_t_table_place a_t_table_told a_t_table_behind a_w a_w_clock a_w_board a_w_board_entries a_w_board_markBits : Nat) (fu : Nat) (n : Nat) (p0 : Int32) (p1 : Int32) (x_t_placeCount : Int32) (x_t_personCount : Int32) (x_t_unitCount : Int32) (x_t_persons : Nat → Option Nat) (x_t_table_count : Int32) (x_t_table_place : Nat → Int32) (x_t_table_told : Nat → Int32) (x_t_table_behind : Nat → Int32) (x_w_number : Int32) (x_w_present : Int32) (x_w_helpCount : Int32) (x_w_board_entries : Nat → Int32) (x_w_board_markBits : Nat → Int32) (r : Int32) (x_w_present' : Int32) (x_w_board_entries' : Nat → Int32) (x_w_board_markBits' : Nat → Int32) (h : f_PS_redo fu n p0 p1 x_t_placeCount x_t_personCount x_t_unitCount x_t_persons x_t_table_count x_t_table_place x_t_table_told x_t_table_behind x_w_number x_w_present x_w_helpCount x_w_board_entries x_w_board_markBits = some (r, x_w_present', x_w_board_entries', x_w_board_markBits'))  (hw : f_PS_find p0 x_t_placeCount x_t_personCount x_t_unitCount x_t_persons = some (some a_w)) : cN l y_PS_redo w_PS_redo { frames := 1, cells := 0, slots := 0, locals := 24 } G sz [.ref a_t, .int p0, .int p1] (ws_PS_redo G a_t a_t_right a_t_joining a_t_units a_t_draft a_t_reader a_t_persons a_t_table a_t_table_before a_t_table_place a_t_table_told a_t_table_behind a_w a_w_clock a_w_board a_w_board_entries a_w_board_markBits n x_t_placeCount x_t_personCount x_t_unitCount x_t_persons x_t_table_count x_t_table_place x_t_table_told x_t_table_behind x_w_number x_w_present x_w_helpCount x_w_board_entries x_w_board_markBits) (some (.int r)) (wB G (ws_PS_redo G a_t a_t_right a_t_joining a_t_units a_t_draft a_t_reader a_t_persons a_t_table a_t_table_before a_t_table_place a_t_table_told a_t_table_behind a_w a_w_clock a_w_board a_w_board_entries a_w_board_markBits n x_t_placeCount x_t_personCount x_t_unitCount x_t_persons x_t_table_count x_t_table_place x_t_table_told x_t_table_behind x_w_number x_w_present' x_w_helpCount x_w_board_entries' x_w_board_markBits')) 0 0 := by
  refine cN_ofW (cc := prog_1_method_6_code) (maxL := 5) (ret := (some .int)) (by decide) rfl (Nat.le_of_ble_eq_true rfl) ?_
  intro p e s m args below meth c A H locs ls hx hb hr hts hown hlocks hin hml hK hN hP hD hA hS hl
  replace hl : lv_has ls 5 [(0, .ref a_t), (1, .int p0), (2, .int p1)] := hl
  replace hown : s.vm.findClass "PlayStates" = some m.cls := hown
  unfold f_PS_redo at h
  refine lv_aload_n hx hb d_PS_redo_0 rfl (lv_at hl 0 rfl) ?_
  refine lv_iload_n hx hb d_PS_redo_1 rfl (lv_at hl 1 rfl) ?_
  have hPc := hP.sub (ws' := (ws_PS_find G a_t a_t_right a_t_table a_t_joining a_t_units a_t_draft a_t_reader a_t_persons x_t_placeCount x_t_personCount x_t_unitCount x_t_persons)) [0, 1] rfl
  have hDc := hD.sub (ws' := (ws_PS_find G a_t a_t_right a_t_table a_t_joining a_t_units a_t_draft a_t_reader a_t_persons x_t_placeCount x_t_personCount x_t_unitCount x_t_persons)) [0, 1] (by decide) rfl
  have hFc := va_free (wc := (ws_PS_find G a_t a_t_right a_t_table a_t_joining a_t_units a_t_draft a_t_reader a_t_persons x_t_placeCount x_t_personCount x_t_unitCount x_t_persons)) hD hS hA [0, 1] rfl
  refine q_call1 (va_runV (As := [.int p0]) (rest := []) ⟨hx, hb, hml, hown, hts⟩ (c_PS_find l G H.size a_t a_t_right a_t_table a_t_joining a_t_units a_t_draft a_t_reader a_t_persons p0 x_t_placeCount x_t_personCount x_t_unitCount x_t_persons _ hw) (cwV 1 hts (gV gw_163 gw_164 gw_2 gw_31 gw_165) rfl rfl rfl (by decide +kernel) ⟨Nat.le_of_ble_eq_true rfl, Nat.le_of_ble_eq_true rfl⟩) (pV hK hN hPc hDc (ci := 5) (q0 := 0) rfl rfl) rfl rfl hl.1 rfl (lv_room (Nat.le_of_ble_eq_true rfl)) d_PS_redo_2 ⟨Nat.le_of_ble_eq_true rfl, Nat.le_of_ble_eq_true rfl⟩) hS (fun q _ h => hFc q h) hFc (fun H1 locs hB hz hk hS => ?_)
  obtain ⟨hP, hD⟩ := q_join (wr := [(a_t_table, .inr (3, [.ref a_t_table_place, .ref a_t_table_told, .ref a_t_table_before, .ref a_t_table_behind, .int x_t_table_count])), (a_t_table_place, .inl (G.2 0, 600, .inl x_t_table_place)), (a_t_table_told, .inl (G.2 0, 600, .inl x_t_table_told)), (a_t_table_behind, .inl (G.2 0, 600, .inl x_t_table_behind)), (a_w, .inr (2, [.int x_w_number, .ref a_w_board, .ref a_w_clock, .int x_w_present, .int x_w_helpCount])), (a_w_board, .inr (0, [.ref a_w_board_entries, .ref a_w_board_markBits])), (a_w_board_entries, .inl (G.2 0, n, .inl x_w_board_entries)), (a_w_board_markBits, .inl (G.2 0, n, .inl x_w_board_markBits))]) (wn := (ws_PS_redo G a_t a_t_right a_t_joining a_t_units a_t_draft a_t_reader a_t_persons a_t_table a_t_table_before a_t_table_place a_t_table_told a_t_table_behind a_w a_w_clock a_w_board a_w_board_entries a_w_board_markBits n x_t_placeCount x_t_personCount x_t_unitCount x_t_persons x_t_table_count x_t_table_place x_t_table_told x_t_table_behind x_w_number x_w_present x_w_helpCount x_w_board_entries x_w_board_markBits)) hP hD [0, 1] [2, 3, 4, 5, 6, 7, 8, 9] [8, 9, 0, 1, 2, 3, 4, 5, 6, 7] rfl rfl (by decide) (by decide) rfl (by decide) hk hFc hB.1 hB.2
  generalize H1 = H at hP hS ⊢
  replace hP : va_P G.1 vwCl (ws_PS_redo G a_t a_t_right a_t_joining a_t_units a_t_draft a_t_reader a_t_persons a_t_table a_t_table_before a_t_table_place a_t_table_told a_t_table_behind a_w a_w_clock a_w_board a_w_board_entries a_w_board_markBits n x_t_placeCount x_t_personCount x_t_unitCount x_t_persons x_t_table_count x_t_table_place x_t_table_told x_t_table_behind x_w_number x_w_present x_w_helpCount x_w_board_entries x_w_board_markBits) H := hP
  replace hD : va_D A (ws_PS_redo G a_t a_t_right a_t_joining a_t_units a_t_draft a_t_reader a_t_persons a_t_table a_t_table_before a_t_table_place a_t_table_told a_t_table_behind a_w a_w_clock a_w_board a_w_board_entries a_w_board_markBits n x_t_placeCount x_t_personCount x_t_unitCount x_t_persons x_t_table_count x_t_table_place x_t_table_told x_t_table_behind x_w_number x_w_present x_w_helpCount x_w_board_entries x_w_board_markBits) := hD
  refine lv_astore_n (lv' := [(3, .ref a_w), (0, .ref a_t), (1, .int p0), (2, .int p1)]) hx hb d_PS_redo_5 rfl hl (by decide) rfl (fun ls hl => ?_)
  refine lv_aload_n hx hb d_PS_redo_6 rfl (lv_at hl 0 rfl) ?_
  refine lv_ifnonnull (tgt := 12) hx hb d_PS_redo_7 (by decide) ?_
  refine lv_aload_n hx hb d_PS_redo_12 rfl (lv_at hl 1 rfl) ?_
  refine va_get (D := G.1) (ci := 5) (v := .ref a_t_table) (C := "PlayStates") (T := TPS) (N := 10) hx hb hts iw_5 hown hK hP 0 rfl rfl 4 (by decide) (hts _ gw_106) (fun _ h9 => h9) rfl d_PS_redo_13 ?_
  refine lv_aload_n hx hb d_PS_redo_16 rfl (lv_at hl 0 rfl) ?_
  refine va_getN (D := G.1) (ci := 2) (v := .int x_w_present) (C := "PlayStates$Person") (T := TPn) (N := 5) hx hb hts iw_2 hown hK hP 6 rfl rfl 3 (by decide) (va_Nw.use rfl (hN.1 ("PlayStates", 93, "PlayStates$Person", "present", "I", "PlayStates") (by decide +kernel))) (fun _ h9 => h9) rfl d_PS_redo_17 ?_
  refine lv_iload_n hx hb d_PS_redo_20 rfl (lv_at hl 3 rfl) ?_
  obtain ⟨y1, hy1, h⟩ := o_bind h
  have hPc := hP.sub (ws' := (ws_Rt_findBranch G a_t_table a_t_table_place a_t_table_told a_t_table_before a_t_table_behind x_t_table_count x_t_table_behind)) [2, 5] rfl
  have hDc := hD.sub (ws' := (ws_Rt_findBranch G a_t_table a_t_table_place a_t_table_told a_t_table_before a_t_table_behind x_t_table_count x_t_table_behind)) [2, 5] (by decide) rfl
  have hFc := va_free (wc := (ws_Rt_findBranch G a_t_table a_t_table_place a_t_table_told a_t_table_before a_t_table_behind x_t_table_count x_t_table_behind)) hD hS hA [2, 5] rfl
  refine q_call1 (va_runV (As := [.int x_w_present, .int p1]) (rest := []) ⟨hx, hb, hml, hown, hts⟩ (c_Rt_findBranch l G H.size a_t_table a_t_table_place a_t_table_told a_t_table_before a_t_table_behind fu x_w_present p1 x_t_table_count x_t_table_behind _ hy1) (cwV 2 hts (gV gw_214 gw_215 gw_216 gw_33 gw_217) rfl rfl rfl (by decide +kernel) ⟨Nat.le_of_ble_eq_true rfl, Nat.le_of_ble_eq_true rfl⟩) (pV hK hN hPc hDc (ci := 3) (q0 := 0) rfl rfl) rfl rfl hl.1 rfl (lv_room (Nat.le_of_ble_eq_true rfl)) d_PS_redo_21 ⟨Nat.le_of_ble_eq_true rfl, Nat.le_of_ble_eq_true rfl⟩) hS (fun q _ h => hFc q h) hFc (fun H1 locs hB hz hk hS => ?_)
  obtain ⟨hP, hD⟩ := q_join (wr := [(a_t, .inr (5, [.int x_t_placeCount, .ref a_t_right, .ref a_t_persons, .int x_t_personCount, .ref a_t_table, .ref a_t_joining, .ref a_t_units, .int x_t_unitCount, .ref a_t_draft, .ref a_t_reader])), (a_t_persons, .inl (G.2 3, 8, .inr (.inr (.inr (.inr x_t_persons))))), (a_t_table_place, .inl (G.2 0, 600, .inl x_t_table_place)), (a_t_table_told, .inl (G.2 0, 600, .inl x_t_table_told)), (a_w, .inr (2, [.int x_w_number, .ref a_w_board, .ref a_w_clock, .int x_w_present, .int x_w_helpCount])), (a_w_board, .inr (0, [.ref a_w_board_entries, .ref a_w_board_markBits])), (a_w_board_entries, .inl (G.2 0, n, .inl x_w_board_entries)), (a_w_board_markBits, .inl (G.2 0, n, .inl x_w_board_markBits))]) (wn := (ws_PS_redo G a_t a_t_right a_t_joining a_t_units a_t_draft a_t_reader a_t_persons a_t_table a_t_table_before a_t_table_place a_t_table_told a_t_table_behind a_w a_w_clock a_w_board a_w_board_entries a_w_board_markBits n x_t_placeCount x_t_personCount x_t_unitCount x_t_persons x_t_table_count x_t_table_place x_t_table_told x_t_table_behind x_w_number x_w_present x_w_helpCount x_w_board_entries x_w_board_markBits)) hP hD [2, 5] [0, 1, 3, 4, 6, 7, 8, 9] [0, 1, 8, 2, 3, 9, 4, 5, 6, 7] rfl rfl (by decide) (by decide) rfl (by decide) hk hFc hB.1 hB.2
  generalize H1 = H at hP hS ⊢
  replace hP : va_P G.1 vwCl (ws_PS_redo G a_t a_t_right a_t_joining a_t_units a_t_draft a_t_reader a_t_persons a_t_table a_t_table_before a_t_table_place a_t_table_told a_t_table_behind a_w a_w_clock a_w_board a_w_board_entries a_w_board_markBits n x_t_placeCount x_t_personCount x_t_unitCount x_t_persons x_t_table_count x_t_table_place x_t_table_told x_t_table_behind x_w_number x_w_present x_w_helpCount x_w_board_entries x_w_board_markBits) H := hP
  replace hD : va_D A (ws_PS_redo G a_t a_t_right a_t_joining a_t_units a_t_draft a_t_reader a_t_persons a_t_table a_t_table_before a_t_table_place a_t_table_told a_t_table_behind a_w a_w_clock a_w_board a_w_board_entries a_w_board_markBits n x_t_placeCount x_t_personCount x_t_unitCount x_t_persons x_t_table_count x_t_table_place x_t_table_told x_t_table_behind x_w_number x_w_present x_w_helpCount x_w_board_entries x_w_board_markBits) := hD
  refine lv_istore (lv' := [(4, .int y1), (3, .ref a_w), (0, .ref a_t), (1, .int p0), (2, .int p1)]) hx hb d_PS_redo_24 hl (by decide) rfl (fun ls hl => ?_)
  refine lv_aload_n hx hb d_PS_redo_26 rfl (lv_at hl 2 rfl) ?_
  refine va_get (D := G.1) (ci := 5) (v := .ref a_t_table) (C := "PlayStates") (T := TPS) (N := 10) hx hb hts iw_5 hown hK hP 0 rfl rfl 4 (by decide) (hts _ gw_106) (fun _ h9 => h9) rfl d_PS_redo_27 ?_
  refine lv_iload hx hb d_PS_redo_30 (lv_at hl 0 rfl) ?_
  obtain ⟨y2, hy2, h⟩ := o_bind h
  have hPc := hP.sub (ws' := (ws_Rt_holds G a_t_table a_t_table_place a_t_table_told a_t_table_before a_t_table_behind x_t_table_count)) [2] rfl
  have hDc := hD.sub (ws' := (ws_Rt_holds G a_t_table a_t_table_place a_t_table_told a_t_table_before a_t_table_behind x_t_table_count)) [2] (by decide) rfl
  have hFc := va_free (wc := (ws_Rt_holds G a_t_table a_t_table_place a_t_table_told a_t_table_before a_t_table_behind x_t_table_count)) hD hS hA [2] rfl
  refine q_call1 (va_runV (As := [.int y1]) (rest := []) ⟨hx, hb, hml, hown, hts⟩ (c_Rt_holds l G H.size a_t_table a_t_table_place a_t_table_told a_t_table_before a_t_table_behind y1 x_t_table_count _ hy2) (cwV 1 hts (gV gw_206 gw_207 gw_208 gw_33 gw_209) rfl rfl rfl (by decide +kernel) ⟨Nat.le_of_ble_eq_true rfl, Nat.le_of_ble_eq_true rfl⟩) (pV hK hN hPc hDc (ci := 3) (q0 := 0) rfl rfl) rfl rfl hl.1 rfl (lv_room (Nat.le_of_ble_eq_true rfl)) d_PS_redo_32 ⟨Nat.le_of_ble_eq_true rfl, Nat.le_of_ble_eq_true rfl⟩) hS (fun q _ h => hFc q h) hFc (fun H1 locs hB hz hk hS => ?_)
  obtain ⟨hP, hD⟩ := q_join (wr := [(a_t, .inr (5, [.int x_t_placeCount, .ref a_t_right, .ref a_t_persons, .int x_t_personCount, .ref a_t_table, .ref a_t_joining, .ref a_t_units, .int x_t_unitCount, .ref a_t_draft, .ref a_t_reader])), (a_t_persons, .inl (G.2 3, 8, .inr (.inr (.inr (.inr x_t_persons))))), (a_t_table_place, .inl (G.2 0, 600, .inl x_t_table_place)), (a_t_table_told, .inl (G.2 0, 600, .inl x_t_table_told)), (a_t_table_behind, .inl (G.2 0, 600, .inl x_t_table_behind)), (a_w, .inr (2, [.int x_w_number, .ref a_w_board, .ref a_w_clock, .int x_w_present, .int x_w_helpCount])), (a_w_board, .inr (0, [.ref a_w_board_entries, .ref a_w_board_markBits])), (a_w_board_entries, .inl (G.2 0, n, .inl x_w_board_entries)), (a_w_board_markBits, .inl (G.2 0, n, .inl x_w_board_markBits))]) (wn := (ws_PS_redo G a_t a_t_right a_t_joining a_t_units a_t_draft a_t_reader a_t_persons a_t_table a_t_table_before a_t_table_place a_t_table_told a_t_table_behind a_w a_w_clock a_w_board a_w_board_entries a_w_board_markBits n x_t_placeCount x_t_personCount x_t_unitCount x_t_persons x_t_table_count x_t_table_place x_t_table_told x_t_table_behind x_w_number x_w_present x_w_helpCount x_w_board_entries x_w_board_markBits)) hP hD [2] [0, 1, 3, 4, 5, 6, 7, 8, 9] [0, 1, 9, 2, 3, 4, 5, 6, 7, 8] rfl rfl (by decide) (by decide) rfl (by decide) hk hFc hB.1 hB.2
  generalize H1 = H at hP hS ⊢
  replace hP : va_P G.1 vwCl (ws_PS_redo G a_t a_t_right a_t_joining a_t_units a_t_draft a_t_reader a_t_persons a_t_table a_t_table_before a_t_table_place a_t_table_told a_t_table_behind a_w a_w_clock a_w_board a_w_board_entries a_w_board_markBits n x_t_placeCount x_t_personCount x_t_unitCount x_t_persons x_t_table_count x_t_table_place x_t_table_told x_t_table_behind x_w_number x_w_present x_w_helpCount x_w_board_entries x_w_board_markBits) H := hP
  replace hD : va_D A (ws_PS_redo G a_t a_t_right a_t_joining a_t_units a_t_draft a_t_reader a_t_persons a_t_table a_t_table_before a_t_table_place a_t_table_told a_t_table_behind a_w a_w_clock a_w_board a_w_board_entries a_w_board_markBits n x_t_placeCount x_t_personCount x_t_unitCount x_t_persons x_t_table_count x_t_table_place x_t_table_told x_t_table_behind x_w_number x_w_present x_w_helpCount x_w_board_entries x_w_board_markBits) := hD
  refine lv_if_ne (tgt := 40) hx hb d_PS_redo_35 (by decide) (fun c3 => ?_) (fun c3 => ?_)
  · replace h := (if_neg c3).symm.trans h
    refine lv_aload_n hx hb d_PS_redo_40 rfl (lv_at hl 1 rfl) ?_
    refine va_getN (D := G.1) (ci := 2) (v := .ref a_w_board) (C := "PlayStates$Person") (T := TPn) (N := 5) hx hb hts iw_2 hown hK hP 6 rfl rfl 1 (by decide) (va_Nw.use rfl (hN.1 ("PlayStates", 99, "PlayStates$Person", "board", "LPlayStates$Board;", "PlayStates") (by decide +kernel))) (fun _ h9 => h9) rfl d_PS_redo_41 ?_
    refine lv_aload_n hx hb d_PS_redo_44 rfl (lv_at hl 2 rfl) ?_
    refine va_get (D := G.1) (ci := 5) (v := .ref a_t_table) (C := "PlayStates") (T := TPS) (N := 10) hx hb hts iw_5 hown hK hP 0 rfl rfl 4 (by decide) (hts _ gw_106) (fun _ h9 => h9) rfl d_PS_redo_45 ?_
    refine va_getN (D := G.1) (ci := 3) (v := .ref a_t_table_place) (C := "PlayStates$RowTable") (T := TRt) (N := 5) hx hb hts iw_3 hown hK hP 2 rfl rfl 0 (by decide) (va_Nw.use rfl (hN.1 ("PlayStates", 102, "PlayStates$RowTable", "place", "[I", "PlayStates") (by decide +kernel))) (fun _ h9 => h9) rfl d_PS_redo_48 ?_
    refine lv_iload hx hb d_PS_redo_51 (lv_at hl 0 rfl) ?_
    obtain ⟨i4, h⟩ := o_if h
    refine va_iald (n := 600) (f := x_t_table_place) hx hb hK hP 3 0 rfl rfl i4 d_PS_redo_53 ?_
    refine lv_aload_n hx hb d_PS_redo_54 rfl (lv_at hl 2 rfl) ?_
    refine va_get (D := G.1) (ci := 5) (v := .ref a_t_table) (C := "PlayStates") (T := TPS) (N := 10) hx hb hts iw_5 hown hK hP 0 rfl rfl 4 (by decide) (hts _ gw_106) (fun _ h9 => h9) rfl d_PS_redo_55 ?_
    refine va_getN (D := G.1) (ci := 3) (v := .ref a_t_table_told) (C := "PlayStates$RowTable") (T := TRt) (N := 5) hx hb hts iw_3 hown hK hP 2 rfl rfl 1 (by decide) (va_Nw.use rfl (hN.1 ("PlayStates", 118, "PlayStates$RowTable", "told", "[I", "PlayStates") (by decide +kernel))) (fun _ h9 => h9) rfl d_PS_redo_58 ?_
    refine lv_iload hx hb d_PS_redo_61 (lv_at hl 0 rfl) ?_
    obtain ⟨i5, h⟩ := o_if h
    refine va_iald (n := 600) (f := x_t_table_told) hx hb hK hP 4 0 rfl rfl i5 d_PS_redo_63 ?_
    obtain ⟨y6, hy6, h⟩ := o_bind h
    have hPc := hP.sub (ws' := (ws_Bd_put G a_w_board a_w_board_entries a_w_board_markBits n x_w_board_entries x_w_board_markBits)) [7, 8, 9] rfl
    have hDc := hD.sub (ws' := (ws_Bd_put G a_w_board a_w_board_entries a_w_board_markBits n x_w_board_entries x_w_board_markBits)) [7, 8, 9] (by decide) rfl
    have hFc := va_free (wc := (ws_Bd_put G a_w_board a_w_board_entries a_w_board_markBits n x_w_board_entries x_w_board_markBits)) hD hS hA [7, 8, 9] rfl
    refine q_call0 (va_runV (As := [.int (x_t_table_place y1.toNatClampNeg), .int (x_t_table_told y1.toNatClampNeg)]) (rest := []) ⟨hx, hb, hml, hown, hts⟩ (c_Bd_put l G H.size a_w_board a_w_board_entries a_w_board_markBits n (x_t_table_place y1.toNatClampNeg) (x_t_table_told y1.toNatClampNeg) x_w_board_entries x_w_board_markBits _ _ hy6) (cwV 2 hts (gV gw_191 gw_192 gw_193 gw_34 gw_194) rfl rfl rfl (by decide +kernel) ⟨Nat.le_of_ble_eq_true rfl, Nat.le_of_ble_eq_true rfl⟩) (pV hK hN hPc hDc (ci := 0) (q0 := 0) rfl rfl) rfl rfl hl.1 rfl (lv_room (Nat.le_of_ble_eq_true rfl)) d_PS_redo_64 ⟨Nat.le_of_ble_eq_true rfl, Nat.le_of_ble_eq_true rfl⟩) hS (fun q _ h => hFc q h) hFc (fun H1 locs hB hz hk hS => ?_)
    obtain ⟨hP, hD⟩ := q_join (wr := [(a_t, .inr (5, [.int x_t_placeCount, .ref a_t_right, .ref a_t_persons, .int x_t_personCount, .ref a_t_table, .ref a_t_joining, .ref a_t_units, .int x_t_unitCount, .ref a_t_draft, .ref a_t_reader])), (a_t_persons, .inl (G.2 3, 8, .inr (.inr (.inr (.inr x_t_persons))))), (a_t_table, .inr (3, [.ref a_t_table_place, .ref a_t_table_told, .ref a_t_table_before, .ref a_t_table_behind, .int x_t_table_count])), (a_t_table_place, .inl (G.2 0, 600, .inl x_t_table_place)), (a_t_table_told, .inl (G.2 0, 600, .inl x_t_table_told)), (a_t_table_behind, .inl (G.2 0, 600, .inl x_t_table_behind)), (a_w, .inr (2, [.int x_w_number, .ref a_w_board, .ref a_w_clock, .int x_w_present, .int x_w_helpCount]))]) (wn := (ws_PS_redo G a_t a_t_right a_t_joining a_t_units a_t_draft a_t_reader a_t_persons a_t_table a_t_table_before a_t_table_place a_t_table_told a_t_table_behind a_w a_w_clock a_w_board a_w_board_entries a_w_board_markBits n x_t_placeCount x_t_personCount x_t_unitCount x_t_persons x_t_table_count x_t_table_place x_t_table_told x_t_table_behind x_w_number x_w_present x_w_helpCount y6.1 y6.2)) hP hD [7, 8, 9] [0, 1, 2, 3, 4, 5, 6] [0, 1, 2, 3, 4, 5, 6, 7, 8, 9] rfl rfl (by decide) (by decide) rfl (by decide) hk hFc hB.1 hB.2
    generalize H1 = H at hP hS ⊢
    replace hP : va_P G.1 vwCl (ws_PS_redo G a_t a_t_right a_t_joining a_t_units a_t_draft a_t_reader a_t_persons a_t_table a_t_table_before a_t_table_place a_t_table_told a_t_table_behind a_w a_w_clock a_w_board a_w_board_entries a_w_board_markBits n x_t_placeCount x_t_personCount x_t_unitCount x_t_persons x_t_table_count x_t_table_place x_t_table_told x_t_table_behind x_w_number x_w_present x_w_helpCount y6.1 y6.2) H := hP
    replace hD : va_D A (ws_PS_redo G a_t a_t_right a_t_joining a_t_units a_t_draft a_t_reader a_t_persons a_t_table a_t_table_before a_t_table_place a_t_table_told a_t_table_behind a_w a_w_clock a_w_board a_w_board_entries a_w_board_markBits n x_t_placeCount x_t_personCount x_t_unitCount x_t_persons x_t_table_count x_t_table_place x_t_table_told x_t_table_behind x_w_number x_w_present x_w_helpCount y6.1 y6.2) := hD
    refine lv_aload_n hx hb d_PS_redo_67 rfl (lv_at hl 1 rfl) ?_
    refine lv_iload hx hb d_PS_redo_68 (lv_at hl 0 rfl) ?_
    refine va_putN (D := G.1) (ci := 2) (v := .int y1) (ty := .int) (C := "PlayStates$Person") (T := TPn) (N := 5) hx hb hts iw_2 tyPn tyPn_ok nmPn hown hK hP hD hS 6 rfl rfl 3 (by decide) (va_Nw.use rfl (hN.1 ("PlayStates", 93, "PlayStates$Person", "present", "I", "PlayStates") (by decide +kernel))) (fun _ h9 => h9) rfl (by decide +kernel) (by rfl) (by rfl) (Nat.le_of_ble_eq_true rfl) d_PS_redo_70 (fun H locs hP hD hS => ?_)
    replace hP : va_P G.1 vwCl (ws_PS_redo G a_t a_t_right a_t_joining a_t_units a_t_draft a_t_reader a_t_persons a_t_table a_t_table_before a_t_table_place a_t_table_told a_t_table_behind a_w a_w_clock a_w_board a_w_board_entries a_w_board_markBits n x_t_placeCount x_t_personCount x_t_unitCount x_t_persons x_t_table_count x_t_table_place x_t_table_told x_t_table_behind x_w_number y1 x_w_helpCount y6.1 y6.2) H := hP
    replace hD : va_D A (ws_PS_redo G a_t a_t_right a_t_joining a_t_units a_t_draft a_t_reader a_t_persons a_t_table a_t_table_before a_t_table_place a_t_table_told a_t_table_behind a_w a_w_clock a_w_board a_w_board_entries a_w_board_markBits n x_t_placeCount x_t_personCount x_t_unitCount x_t_persons x_t_table_count x_t_table_place x_t_table_told x_t_table_behind x_w_number y1 x_w_helpCount y6.1 y6.2) := hD
    refine lv_iload hx hb d_PS_redo_73 (lv_at hl 0 rfl) ?_
    cases h
    exact q_iretW hx hb hr hlocks hP hD hS d_PS_redo_75
  · replace h := (if_pos c3).symm.trans h
    refine lv_iconst (v := (-1 : Int32)) hx hb d_PS_redo_38 (by decide) ?_
    cases h
    exact q_iretW hx hb hr hlocks hP hD hS d_PS_redo_39


-- PlayStates.redo(II)I 
def ws_PS_redo_no (G : gG) (a_t a_t_right a_t_table a_t_joining a_t_units a_t_draft a_t_reader a_t_persons : Nat)  (x_t_placeCount : Int32) (x_t_personCount : Int32) (x_t_unitCount : Int32) (x_t_persons : Nat → Option Nat) : va_W := [(a_t, .inr (5, [.int x_t_placeCount, .ref a_t_right, .ref a_t_persons, .int x_t_personCount, .ref a_t_table, .ref a_t_joining, .ref a_t_units, .int x_t_unitCount, .ref a_t_draft, .ref a_t_reader])), (a_t_persons, .inl (G.2 3, 8, .inr (.inr (.inr (.inr x_t_persons)))))]
def f_PS_redo_no  (p0 : Int32) (p1 : Int32) (x_t_placeCount : Int32) (x_t_personCount : Int32) (x_t_unitCount : Int32) (x_t_persons : Nat → Option Nat) : Option (Int32) :=
  some (-1 : Int32)
set_option maxHeartbeats 4000000 in
set_option maxRecDepth 100000 in
theorem c_PS_redo_no (l : Launch) (G : gG) (sz : Nat) (a_t a_t_right a_t_table a_t_joining a_t_units a_t_draft a_t_reader a_t_persons : Nat)  (p0 : Int32) (p1 : Int32) (x_t_placeCount : Int32) (x_t_personCount : Int32) (x_t_unitCount : Int32) (x_t_persons : Nat → Option Nat) (r : Int32) (h : f_PS_redo_no p0 p1 x_t_placeCount x_t_personCount x_t_unitCount x_t_persons = some r)  (hw : f_PS_find p0 x_t_placeCount x_t_personCount x_t_unitCount x_t_persons = some none) : cN l y_PS_redo w_PS_redo { frames := 1, cells := 0, slots := 0, locals := 21 } G sz [.ref a_t, .int p0, .int p1] (ws_PS_redo_no G a_t a_t_right a_t_table a_t_joining a_t_units a_t_draft a_t_reader a_t_persons x_t_placeCount x_t_personCount x_t_unitCount x_t_persons) (some (.int r)) (wB G (ws_PS_redo_no G a_t a_t_right a_t_table a_t_joining a_t_units a_t_draft a_t_reader a_t_persons x_t_placeCount x_t_personCount x_t_unitCount x_t_persons)) 0 0 := by
  refine cN_ofW (cc := prog_1_method_6_code) (maxL := 5) (ret := (some .int)) (by decide) rfl (Nat.le_of_ble_eq_true rfl) ?_
  intro p e s m args below meth c A H locs ls hx hb hr hts hown hlocks hin hml hK hN hP hD hA hS hl
  replace hl : lv_has ls 5 [(0, .ref a_t), (1, .int p0), (2, .int p1)] := hl
  replace hown : s.vm.findClass "PlayStates" = some m.cls := hown
  unfold f_PS_redo_no at h
  refine lv_aload_n hx hb d_PS_redo_0 rfl (lv_at hl 0 rfl) ?_
  refine lv_iload_n hx hb d_PS_redo_1 rfl (lv_at hl 1 rfl) ?_
  have hPc := hP.sub (ws' := (ws_PS_find G a_t a_t_right a_t_table a_t_joining a_t_units a_t_draft a_t_reader a_t_persons x_t_placeCount x_t_personCount x_t_unitCount x_t_persons)) [0, 1] rfl
  have hDc := hD.sub (ws' := (ws_PS_find G a_t a_t_right a_t_table a_t_joining a_t_units a_t_draft a_t_reader a_t_persons x_t_placeCount x_t_personCount x_t_unitCount x_t_persons)) [0, 1] (by decide) rfl
  have hFc := va_free (wc := (ws_PS_find G a_t a_t_right a_t_table a_t_joining a_t_units a_t_draft a_t_reader a_t_persons x_t_placeCount x_t_personCount x_t_unitCount x_t_persons)) hD hS hA [0, 1] rfl
  refine q_call1 (va_runV (As := [.int p0]) (rest := []) ⟨hx, hb, hml, hown, hts⟩ (c_PS_find l G H.size a_t a_t_right a_t_table a_t_joining a_t_units a_t_draft a_t_reader a_t_persons p0 x_t_placeCount x_t_personCount x_t_unitCount x_t_persons _ hw) (cwV 1 hts (gV gw_163 gw_164 gw_2 gw_31 gw_165) rfl rfl rfl (by decide +kernel) ⟨Nat.le_of_ble_eq_true rfl, Nat.le_of_ble_eq_true rfl⟩) (pV hK hN hPc hDc (ci := 5) (q0 := 0) rfl rfl) rfl rfl hl.1 rfl (lv_room (Nat.le_of_ble_eq_true rfl)) d_PS_redo_2 ⟨Nat.le_of_ble_eq_true rfl, Nat.le_of_ble_eq_true rfl⟩) hS (fun q _ h => hFc q h) hFc (fun H1 locs hB hz hk hS => ?_)
  obtain ⟨hP, hD⟩ := q_joinA hFc hB.1 hB.2
  generalize H1 = H at hP hS ⊢
  replace hP : va_P G.1 vwCl (ws_PS_redo_no G a_t a_t_right a_t_table a_t_joining a_t_units a_t_draft a_t_reader a_t_persons x_t_placeCount x_t_personCount x_t_unitCount x_t_persons) H := hP
  replace hD : va_D A (ws_PS_redo_no G a_t a_t_right a_t_table a_t_joining a_t_units a_t_draft a_t_reader a_t_persons x_t_placeCount x_t_personCount x_t_unitCount x_t_persons) := hD
  refine lv_astore_nN (lv' := [(3, .null), (0, .ref a_t), (1, .int p0), (2, .int p1)]) hx hb d_PS_redo_5 rfl hl (by decide) rfl (fun ls hl => ?_)
  refine lv_aload_nN hx hb d_PS_redo_6 rfl (lv_at hl 0 rfl) ?_
  refine lv_ifnonnullN hx hb d_PS_redo_7 ?_
  refine lv_iconst (v := (-1 : Int32)) hx hb d_PS_redo_10 (by decide) ?_
  cases h
  exact q_iretW hx hb hr hlocks hP hD hS d_PS_redo_11

theorem gw_251 : (.code ⟨"PlayStates", "findPlaceToHelp", "(LPlayStates$Board;)I"⟩ prog_1_method_29_code 3 (some .int) : Cond) ∈ GW := gT 278 (by decide +kernel) (by decide +kernel)
theorem gw_249 : (.methodLink "PlayStates" 135 ⟨"PlayStates", "findPlaceToHelp", "(LPlayStates$Board;)I"⟩ : Cond) ∈ GW := gT 275 (by decide +kernel) (by decide +kernel)
theorem gw_250 : (.instanceMethod ⟨"PlayStates", "findPlaceToHelp", "(LPlayStates$Board;)I"⟩ : Cond) ∈ GW := gT 277 (by decide +kernel) (by decide +kernel)
theorem gw_5 : (.selects "PlayStates" ⟨"PlayStates", "findPlaceToHelp", "(LPlayStates$Board;)I"⟩ ⟨"PlayStates", "findPlaceToHelp", "(LPlayStates$Board;)I"⟩ : Cond) ∈ GW := gP 5 (by decide +kernel) (by decide +kernel)
theorem d_PS_help_0 : decode prog_1_method_12_code 0 = .ok (.aload_n 0, 1) := by decide +kernel
theorem d_PS_help_1 : decode prog_1_method_12_code 1 = .ok (.iload_n 1, 1) := by decide +kernel
theorem d_PS_help_2 : decode prog_1_method_12_code 2 = .ok (.invokevirtual 75, 3) := by decide +kernel
theorem d_PS_help_5 : decode prog_1_method_12_code 5 = .ok (.astore_n 2, 1) := by decide +kernel
theorem d_PS_help_6 : decode prog_1_method_12_code 6 = .ok (.aload_n 2, 1) := by decide +kernel
theorem d_PS_help_7 : decode prog_1_method_12_code 7 = .ok (.ifnonnull 5, 3) := by decide +kernel
theorem d_PS_help_10 : decode prog_1_method_12_code 10 = .ok (.iconst (-1), 1) := by decide +kernel
theorem d_PS_help_11 : decode prog_1_method_12_code 11 = .ok (.ireturn, 1) := by decide +kernel
theorem d_PS_help_12 : decode prog_1_method_12_code 12 = .ok (.aload_n 0, 1) := by decide +kernel
theorem d_PS_help_13 : decode prog_1_method_12_code 13 = .ok (.aload_n 2, 1) := by decide +kernel
theorem d_PS_help_14 : decode prog_1_method_12_code 14 = .ok (.getfield 99, 3) := by decide +kernel
theorem d_PS_help_17 : decode prog_1_method_12_code 17 = .ok (.invokevirtual 135, 3) := by decide +kernel
theorem d_PS_help_20 : decode prog_1_method_12_code 20 = .ok (.istore_n 3, 1) := by decide +kernel
theorem d_PS_help_21 : decode prog_1_method_12_code 21 = .ok (.aload_n 0, 1) := by decide +kernel
theorem d_PS_help_22 : decode prog_1_method_12_code 22 = .ok (.iload_n 3, 1) := by decide +kernel
theorem d_PS_help_23 : decode prog_1_method_12_code 23 = .ok (.invokevirtual 79, 3) := by decide +kernel
theorem d_PS_help_26 : decode prog_1_method_12_code 26 = .ok (.ifCond .eq 19, 3) := by decide +kernel
theorem d_PS_help_29 : decode prog_1_method_12_code 29 = .ok (.aload_n 0, 1) := by decide +kernel
theorem d_PS_help_30 : decode prog_1_method_12_code 30 = .ok (.aload_n 2, 1) := by decide +kernel
theorem d_PS_help_31 : decode prog_1_method_12_code 31 = .ok (.iload_n 3, 1) := by decide +kernel
theorem d_PS_help_32 : decode prog_1_method_12_code 32 = .ok (.aload_n 0, 1) := by decide +kernel
theorem d_PS_help_33 : decode prog_1_method_12_code 33 = .ok (.getfield 22, 3) := by decide +kernel
theorem d_PS_help_36 : decode prog_1_method_12_code 36 = .ok (.iload_n 3, 1) := by decide +kernel
theorem d_PS_help_37 : decode prog_1_method_12_code 37 = .ok (.iaload, 1) := by decide +kernel
theorem d_PS_help_38 : decode prog_1_method_12_code 38 = .ok (.invokevirtual 86, 3) := by decide +kernel
theorem d_PS_help_41 : decode prog_1_method_12_code 41 = .ok (.iconst (-1), 1) := by decide +kernel
theorem d_PS_help_42 : decode prog_1_method_12_code 42 = .ok (.if_icmp .ne 5, 3) := by decide +kernel
theorem d_PS_help_45 : decode prog_1_method_12_code 45 = .ok (.iconst (-1), 1) := by decide +kernel
theorem d_PS_help_46 : decode prog_1_method_12_code 46 = .ok (.ireturn, 1) := by decide +kernel
theorem d_PS_help_47 : decode prog_1_method_12_code 47 = .ok (.aload_n 2, 1) := by decide +kernel
theorem d_PS_help_48 : decode prog_1_method_12_code 48 = .ok (.dup, 1) := by decide +kernel
theorem d_PS_help_49 : decode prog_1_method_12_code 49 = .ok (.getfield 139, 3) := by decide +kernel
theorem d_PS_help_52 : decode prog_1_method_12_code 52 = .ok (.iconst 1, 1) := by decide +kernel
theorem d_PS_help_53 : decode prog_1_method_12_code 53 = .ok (.iadd, 1) := by decide +kernel
theorem d_PS_help_54 : decode prog_1_method_12_code 54 = .ok (.putfield 139, 3) := by decide +kernel
theorem d_PS_help_57 : decode prog_1_method_12_code 57 = .ok (.iload_n 3, 1) := by decide +kernel
theorem d_PS_help_58 : decode prog_1_method_12_code 58 = .ok (.ireturn, 1) := by decide +kernel
-- PlayStates.help(I)I 
def ws_PS_help (G : gG) (a_t a_t_joining a_t_units a_t_draft a_t_reader a_t_right a_t_persons a_t_table a_t_table_place a_t_table_told a_t_table_before a_t_table_behind a_w a_w_clock a_w_board a_w_board_entries a_w_board_markBits : Nat) (n : Nat) (x_t_placeCount : Int32) (x_t_personCount : Int32) (x_t_unitCount : Int32) (x_t_right : Nat → Int32) (x_t_persons : Nat → Option Nat) (x_t_table_count : Int32) (x_t_table_place : Nat → Int32) (x_t_table_told : Nat → Int32) (x_t_table_before : Nat → Int32) (x_t_table_behind : Nat → Int32) (x_w_number : Int32) (x_w_present : Int32) (x_w_helpCount : Int32) (x_w_board_entries : Nat → Int32) (x_w_board_markBits : Nat → Int32) : va_W := [(a_t, .inr (5, [.int x_t_placeCount, .ref a_t_right, .ref a_t_persons, .int x_t_personCount, .ref a_t_table, .ref a_t_joining, .ref a_t_units, .int x_t_unitCount, .ref a_t_draft, .ref a_t_reader])), (a_t_right, .inl (G.2 0, n, .inl x_t_right)), (a_t_persons, .inl (G.2 3, 8, .inr (.inr (.inr (.inr x_t_persons))))), (a_t_table, .inr (3, [.ref a_t_table_place, .ref a_t_table_told, .ref a_t_table_before, .ref a_t_table_behind, .int x_t_table_count])), (a_t_table_place, .inl (G.2 0, 600, .inl x_t_table_place)), (a_t_table_told, .inl (G.2 0, 600, .inl x_t_table_told)), (a_t_table_before, .inl (G.2 0, 600, .inl x_t_table_before)), (a_t_table_behind, .inl (G.2 0, 600, .inl x_t_table_behind)), (a_w, .inr (2, [.int x_w_number, .ref a_w_board, .ref a_w_clock, .int x_w_present, .int x_w_helpCount])), (a_w_board, .inr (0, [.ref a_w_board_entries, .ref a_w_board_markBits])), (a_w_board_entries, .inl (G.2 0, n, .inl x_w_board_entries)), (a_w_board_markBits, .inl (G.2 0, n, .inl x_w_board_markBits))]
def f_PS_help (fu : Nat) (n : Nat) (p0 : Int32) (x_t_placeCount : Int32) (x_t_personCount : Int32) (x_t_unitCount : Int32) (x_t_right : Nat → Int32) (x_t_persons : Nat → Option Nat) (x_t_table_count : Int32) (x_t_table_place : Nat → Int32) (x_t_table_told : Nat → Int32) (x_t_table_before : Nat → Int32) (x_t_table_behind : Nat → Int32) (x_w_number : Int32) (x_w_present : Int32) (x_w_helpCount : Int32) (x_w_board_entries : Nat → Int32) (x_w_board_markBits : Nat → Int32) : Option (Int32 × Int32 × (Nat → Int32) × (Nat → Int32) × (Nat → Int32) × (Nat → Int32) × Int32 × Int32 × (Nat → Int32) × (Nat → Int32)) :=
  ((f_PS_findPlaceToHelp fu n x_t_placeCount x_t_personCount x_t_unitCount x_t_right x_w_board_entries).bind fun y1 => ((f_PS_isPlace y1 x_t_placeCount x_t_personCount x_t_unitCount).bind fun y2 => (if y2 = 0 then some ((-1 : Int32), x_t_table_count, x_t_table_place, x_t_table_told, x_t_table_before, x_t_table_behind, x_w_present, x_w_helpCount, x_w_board_entries, x_w_board_markBits) else (if inB y1 n then ((f_PS_tell n y1 (x_t_right y1.toNatClampNeg) x_t_placeCount x_t_personCount x_t_unitCount x_t_table_count x_t_table_place x_t_table_told x_t_table_before x_t_table_behind x_w_number x_w_present x_w_helpCount x_w_board_entries x_w_board_markBits).bind fun y5 => (if y5.1 = (-1 : Int32) then some ((-1 : Int32), y5.2.1, y5.2.2.1, y5.2.2.2.1, y5.2.2.2.2.1, y5.2.2.2.2.2.1, y5.2.2.2.2.2.2.1, x_w_helpCount, y5.2.2.2.2.2.2.2.1, y5.2.2.2.2.2.2.2.2) else some (y1, y5.2.1, y5.2.2.1, y5.2.2.2.1, y5.2.2.2.2.1, y5.2.2.2.2.2.1, y5.2.2.2.2.2.2.1, (x_w_helpCount + (1 : Int32)), y5.2.2.2.2.2.2.2.1, y5.2.2.2.2.2.2.2.2))) else none))))
set_option maxHeartbeats 4000000 in
set_option maxRecDepth 100000 in
theorem c_PS_help (l : Launch) (G : gG) (sz : Nat) (a_t a_t_joining a_t_units a_t_draft a_t_reader a_t_right a_t_persons a_t_table a_t_table_place a_t_table_told a_t_table_before a_t_table_behind a_w a_w_clock a_w_board a_w_board_entries a_w_board_markBits : Nat) (fu : Nat) (n : Nat) (p0 : Int32) (x_t_placeCount : Int32) (x_t_personCount : Int32) (x_t_unitCount : Int32) (x_t_right : Nat → Int32) (x_t_persons : Nat → Option Nat) (x_t_table_count : Int32) (x_t_table_place : Nat → Int32) (x_t_table_told : Nat → Int32) (x_t_table_before : Nat → Int32) (x_t_table_behind : Nat → Int32) (x_w_number : Int32) (x_w_present : Int32) (x_w_helpCount : Int32) (x_w_board_entries : Nat → Int32) (x_w_board_markBits : Nat → Int32) (r : Int32) (x_t_table_count' : Int32) (x_t_table_place' : Nat → Int32) (x_t_table_told' : Nat → Int32) (x_t_table_before' : Nat → Int32) (x_t_table_behind' : Nat → Int32) (x_w_present' : Int32) (x_w_helpCount' : Int32) (x_w_board_entries' : Nat → Int32) (x_w_board_markBits' : Nat → Int32) (h : f_PS_help fu n p0 x_t_placeCount x_t_personCount x_t_unitCount x_t_right x_t_persons x_t_table_count x_t_table_place x_t_table_told x_t_table_before x_t_table_behind x_w_number x_w_present x_w_helpCount x_w_board_entries x_w_board_markBits = some (r, x_t_table_count', x_t_table_place', x_t_table_told', x_t_table_before', x_t_table_behind', x_w_present', x_w_helpCount', x_w_board_entries', x_w_board_markBits'))  (hw : f_PS_find p0 x_t_placeCount x_t_personCount x_t_unitCount x_t_persons = some (some a_w)) : cN l y_PS_help w_PS_help { frames := 3, cells := 0, slots := 0, locals := 69 } G sz [.ref a_t, .int p0] (ws_PS_help G a_t a_t_joining a_t_units a_t_draft a_t_reader a_t_right a_t_persons a_t_table a_t_table_place a_t_table_told a_t_table_before a_t_table_behind a_w a_w_clock a_w_board a_w_board_entries a_w_board_markBits n x_t_placeCount x_t_personCount x_t_unitCount x_t_right x_t_persons x_t_table_count x_t_table_place x_t_table_told x_t_table_before x_t_table_behind x_w_number x_w_present x_w_helpCount x_w_board_entries x_w_board_markBits) (some (.int r)) (wB G (ws_PS_help G a_t a_t_joining a_t_units a_t_draft a_t_reader a_t_right a_t_persons a_t_table a_t_table_place a_t_table_told a_t_table_before a_t_table_behind a_w a_w_clock a_w_board a_w_board_entries a_w_board_markBits n x_t_placeCount x_t_personCount x_t_unitCount x_t_right x_t_persons x_t_table_count' x_t_table_place' x_t_table_told' x_t_table_before' x_t_table_behind' x_w_number x_w_present' x_w_helpCount' x_w_board_entries' x_w_board_markBits')) 0 0 := by
  refine cN_ofW (cc := prog_1_method_12_code) (maxL := 4) (ret := (some .int)) (by decide) rfl (Nat.le_of_ble_eq_true rfl) ?_
  intro p e s m args below meth c A H locs ls hx hb hr hts hown hlocks hin hml hK hN hP hD hA hS hl
  replace hl : lv_has ls 4 [(0, .ref a_t), (1, .int p0)] := hl
  replace hown : s.vm.findClass "PlayStates" = some m.cls := hown
  unfold f_PS_help at h
  refine lv_aload_n hx hb d_PS_help_0 rfl (lv_at hl 0 rfl) ?_
  refine lv_iload_n hx hb d_PS_help_1 rfl (lv_at hl 1 rfl) ?_
  have hPc := hP.sub (ws' := (ws_PS_find G a_t a_t_right a_t_table a_t_joining a_t_units a_t_draft a_t_reader a_t_persons x_t_placeCount x_t_personCount x_t_unitCount x_t_persons)) [0, 2] rfl
  have hDc := hD.sub (ws' := (ws_PS_find G a_t a_t_right a_t_table a_t_joining a_t_units a_t_draft a_t_reader a_t_persons x_t_placeCount x_t_personCount x_t_unitCount x_t_persons)) [0, 2] (by decide) rfl
  have hFc := va_free (wc := (ws_PS_find G a_t a_t_right a_t_table a_t_joining a_t_units a_t_draft a_t_reader a_t_persons x_t_placeCount x_t_personCount x_t_unitCount x_t_persons)) hD hS hA [0, 2] rfl
  refine q_call1 (va_runV (As := [.int p0]) (rest := []) ⟨hx, hb, hml, hown, hts⟩ (c_PS_find l G H.size a_t a_t_right a_t_table a_t_joining a_t_units a_t_draft a_t_reader a_t_persons p0 x_t_placeCount x_t_personCount x_t_unitCount x_t_persons _ hw) (cwV 1 hts (gV gw_163 gw_164 gw_2 gw_31 gw_165) rfl rfl rfl (by decide +kernel) ⟨Nat.le_of_ble_eq_true rfl, Nat.le_of_ble_eq_true rfl⟩) (pV hK hN hPc hDc (ci := 5) (q0 := 0) rfl rfl) rfl rfl hl.1 rfl (lv_room (Nat.le_of_ble_eq_true rfl)) d_PS_help_2 ⟨Nat.le_of_ble_eq_true rfl, Nat.le_of_ble_eq_true rfl⟩) hS (fun q _ h => hFc q h) hFc (fun H1 locs hB hz hk hS => ?_)
  obtain ⟨hP, hD⟩ := q_join (wr := [(a_t_right, .inl (G.2 0, n, .inl x_t_right)), (a_t_table, .inr (3, [.ref a_t_table_place, .ref a_t_table_told, .ref a_t_table_before, .ref a_t_table_behind, .int x_t_table_count])), (a_t_table_place, .inl (G.2 0, 600, .inl x_t_table_place)), (a_t_table_told, .inl (G.2 0, 600, .inl x_t_table_told)), (a_t_table_before, .inl (G.2 0, 600, .inl x_t_table_before)), (a_t_table_behind, .inl (G.2 0, 600, .inl x_t_table_behind)), (a_w, .inr (2, [.int x_w_number, .ref a_w_board, .ref a_w_clock, .int x_w_present, .int x_w_helpCount])), (a_w_board, .inr (0, [.ref a_w_board_entries, .ref a_w_board_markBits])), (a_w_board_entries, .inl (G.2 0, n, .inl x_w_board_entries)), (a_w_board_markBits, .inl (G.2 0, n, .inl x_w_board_markBits))]) (wn := (ws_PS_help G a_t a_t_joining a_t_units a_t_draft a_t_reader a_t_right a_t_persons a_t_table a_t_table_place a_t_table_told a_t_table_before a_t_table_behind a_w a_w_clock a_w_board a_w_board_entries a_w_board_markBits n x_t_placeCount x_t_personCount x_t_unitCount x_t_right x_t_persons x_t_table_count x_t_table_place x_t_table_told x_t_table_before x_t_table_behind x_w_number x_w_present x_w_helpCount x_w_board_entries x_w_board_markBits)) hP hD [0, 2] [1, 3, 4, 5, 6, 7, 8, 9, 10, 11] [10, 0, 11, 1, 2, 3, 4, 5, 6, 7, 8, 9] rfl rfl (by decide) (by decide) rfl (by decide) hk hFc hB.1 hB.2
  generalize H1 = H at hP hS ⊢
  replace hP : va_P G.1 vwCl (ws_PS_help G a_t a_t_joining a_t_units a_t_draft a_t_reader a_t_right a_t_persons a_t_table a_t_table_place a_t_table_told a_t_table_before a_t_table_behind a_w a_w_clock a_w_board a_w_board_entries a_w_board_markBits n x_t_placeCount x_t_personCount x_t_unitCount x_t_right x_t_persons x_t_table_count x_t_table_place x_t_table_told x_t_table_before x_t_table_behind x_w_number x_w_present x_w_helpCount x_w_board_entries x_w_board_markBits) H := hP
  replace hD : va_D A (ws_PS_help G a_t a_t_joining a_t_units a_t_draft a_t_reader a_t_right a_t_persons a_t_table a_t_table_place a_t_table_told a_t_table_before a_t_table_behind a_w a_w_clock a_w_board a_w_board_entries a_w_board_markBits n x_t_placeCount x_t_personCount x_t_unitCount x_t_right x_t_persons x_t_table_count x_t_table_place x_t_table_told x_t_table_before x_t_table_behind x_w_number x_w_present x_w_helpCount x_w_board_entries x_w_board_markBits) := hD
  refine lv_astore_n (lv' := [(2, .ref a_w), (0, .ref a_t), (1, .int p0)]) hx hb d_PS_help_5 rfl hl (by decide) rfl (fun ls hl => ?_)
  refine lv_aload_n hx hb d_PS_help_6 rfl (lv_at hl 0 rfl) ?_
  refine lv_ifnonnull (tgt := 12) hx hb d_PS_help_7 (by decide) ?_
  refine lv_aload_n hx hb d_PS_help_12 rfl (lv_at hl 1 rfl) ?_
  refine lv_aload_n hx hb d_PS_help_13 rfl (lv_at hl 0 rfl) ?_
  refine va_getN (D := G.1) (ci := 2) (v := .ref a_w_board) (C := "PlayStates$Person") (T := TPn) (N := 5) hx hb hts iw_2 hown hK hP 8 rfl rfl 1 (by decide) (va_Nw.use rfl (hN.1 ("PlayStates", 99, "PlayStates$Person", "board", "LPlayStates$Board;", "PlayStates") (by decide +kernel))) (fun _ h9 => h9) rfl d_PS_help_14 ?_
  obtain ⟨y1, hy1, h⟩ := o_bind h
  have hPc := hP.sub (ws' := (ws_PS_findPlaceToHelp G a_t a_t_persons a_t_table a_t_joining a_t_units a_t_draft a_t_reader a_t_right a_w_board a_w_board_markBits a_w_board_entries n x_t_placeCount x_t_personCount x_t_unitCount x_t_right x_w_board_entries)) [0, 1, 9, 10] rfl
  have hDc := hD.sub (ws' := (ws_PS_findPlaceToHelp G a_t a_t_persons a_t_table a_t_joining a_t_units a_t_draft a_t_reader a_t_right a_w_board a_w_board_markBits a_w_board_entries n x_t_placeCount x_t_personCount x_t_unitCount x_t_right x_w_board_entries)) [0, 1, 9, 10] (by decide) rfl
  have hFc := va_free (wc := (ws_PS_findPlaceToHelp G a_t a_t_persons a_t_table a_t_joining a_t_units a_t_draft a_t_reader a_t_right a_w_board a_w_board_markBits a_w_board_entries n x_t_placeCount x_t_personCount x_t_unitCount x_t_right x_w_board_entries)) hD hS hA [0, 1, 9, 10] rfl
  refine q_call1 (va_runV (As := [.ref a_w_board]) (rest := []) ⟨hx, hb, hml, hown, hts⟩ (c_PS_findPlaceToHelp l G H.size a_t a_t_persons a_t_table a_t_joining a_t_units a_t_draft a_t_reader a_t_right a_w_board a_w_board_markBits a_w_board_entries fu n x_t_placeCount x_t_personCount x_t_unitCount x_t_right x_w_board_entries _ hy1) (cwV 1 hts (gV gw_249 gw_250 gw_5 gw_31 gw_251) rfl rfl rfl (by decide +kernel) ⟨Nat.le_of_ble_eq_true rfl, Nat.le_of_ble_eq_true rfl⟩) (pV hK hN hPc hDc (ci := 5) (q0 := 0) rfl rfl) rfl rfl hl.1 rfl (lv_room (Nat.le_of_ble_eq_true rfl)) d_PS_help_17 ⟨Nat.le_of_ble_eq_true rfl, Nat.le_of_ble_eq_true rfl⟩) hS (fun q _ h => hFc q h) hFc (fun H1 locs hB hz hk hS => ?_)
  obtain ⟨hP, hD⟩ := q_join (wr := [(a_t_persons, .inl (G.2 3, 8, .inr (.inr (.inr (.inr x_t_persons))))), (a_t_table, .inr (3, [.ref a_t_table_place, .ref a_t_table_told, .ref a_t_table_before, .ref a_t_table_behind, .int x_t_table_count])), (a_t_table_place, .inl (G.2 0, 600, .inl x_t_table_place)), (a_t_table_told, .inl (G.2 0, 600, .inl x_t_table_told)), (a_t_table_before, .inl (G.2 0, 600, .inl x_t_table_before)), (a_t_table_behind, .inl (G.2 0, 600, .inl x_t_table_behind)), (a_w, .inr (2, [.int x_w_number, .ref a_w_board, .ref a_w_clock, .int x_w_present, .int x_w_helpCount])), (a_w_board_markBits, .inl (G.2 0, n, .inl x_w_board_markBits))]) (wn := (ws_PS_help G a_t a_t_joining a_t_units a_t_draft a_t_reader a_t_right a_t_persons a_t_table a_t_table_place a_t_table_told a_t_table_before a_t_table_behind a_w a_w_clock a_w_board a_w_board_entries a_w_board_markBits n x_t_placeCount x_t_personCount x_t_unitCount x_t_right x_t_persons x_t_table_count x_t_table_place x_t_table_told x_t_table_before x_t_table_behind x_w_number x_w_present x_w_helpCount x_w_board_entries x_w_board_markBits)) hP hD [0, 1, 9, 10] [2, 3, 4, 5, 6, 7, 8, 11] [8, 9, 0, 1, 2, 3, 4, 5, 6, 10, 11, 7] rfl rfl (by decide) (by decide) rfl (by decide) hk hFc hB.1 hB.2
  generalize H1 = H at hP hS ⊢
  replace hP : va_P G.1 vwCl (ws_PS_help G a_t a_t_joining a_t_units a_t_draft a_t_reader a_t_right a_t_persons a_t_table a_t_table_place a_t_table_told a_t_table_before a_t_table_behind a_w a_w_clock a_w_board a_w_board_entries a_w_board_markBits n x_t_placeCount x_t_personCount x_t_unitCount x_t_right x_t_persons x_t_table_count x_t_table_place x_t_table_told x_t_table_before x_t_table_behind x_w_number x_w_present x_w_helpCount x_w_board_entries x_w_board_markBits) H := hP
  replace hD : va_D A (ws_PS_help G a_t a_t_joining a_t_units a_t_draft a_t_reader a_t_right a_t_persons a_t_table a_t_table_place a_t_table_told a_t_table_before a_t_table_behind a_w a_w_clock a_w_board a_w_board_entries a_w_board_markBits n x_t_placeCount x_t_personCount x_t_unitCount x_t_right x_t_persons x_t_table_count x_t_table_place x_t_table_told x_t_table_before x_t_table_behind x_w_number x_w_present x_w_helpCount x_w_board_entries x_w_board_markBits) := hD
  refine lv_istore_n (lv' := [(3, .int y1), (2, .ref a_w), (0, .ref a_t), (1, .int p0)]) hx hb d_PS_help_20 rfl hl (by decide) rfl (fun ls hl => ?_)
  refine lv_aload_n hx hb d_PS_help_21 rfl (lv_at hl 2 rfl) ?_
  refine lv_iload_n hx hb d_PS_help_22 rfl (lv_at hl 0 rfl) ?_
  obtain ⟨y2, hy2, h⟩ := o_bind h
  have hPc := hP.sub (ws' := (ws_PS_isPlace G a_t a_t_right a_t_persons a_t_table a_t_joining a_t_units a_t_draft a_t_reader x_t_placeCount x_t_personCount x_t_unitCount)) [0] rfl
  have hDc := hD.sub (ws' := (ws_PS_isPlace G a_t a_t_right a_t_persons a_t_table a_t_joining a_t_units a_t_draft a_t_reader x_t_placeCount x_t_personCount x_t_unitCount)) [0] (by decide) rfl
  have hFc := va_free (wc := (ws_PS_isPlace G a_t a_t_right a_t_persons a_t_table a_t_joining a_t_units a_t_draft a_t_reader x_t_placeCount x_t_personCount x_t_unitCount)) hD hS hA [0] rfl
  refine q_call1 (va_runV (As := [.int y1]) (rest := []) ⟨hx, hb, hml, hown, hts⟩ (c_PS_isPlace l G H.size a_t a_t_right a_t_persons a_t_table a_t_joining a_t_units a_t_draft a_t_reader y1 x_t_placeCount x_t_personCount x_t_unitCount _ hy2) (cwV 1 hts (gV gw_166 gw_167 gw_3 gw_31 gw_168) rfl rfl rfl (by decide +kernel) ⟨Nat.le_of_ble_eq_true rfl, Nat.le_of_ble_eq_true rfl⟩) (pV hK hN hPc hDc (ci := 5) (q0 := 0) rfl rfl) rfl rfl hl.1 rfl (lv_room (Nat.le_of_ble_eq_true rfl)) d_PS_help_23 ⟨Nat.le_of_ble_eq_true rfl, Nat.le_of_ble_eq_true rfl⟩) hS (fun q _ h => hFc q h) hFc (fun H1 locs hB hz hk hS => ?_)
  obtain ⟨hP, hD⟩ := q_join (wr := [(a_t_right, .inl (G.2 0, n, .inl x_t_right)), (a_t_persons, .inl (G.2 3, 8, .inr (.inr (.inr (.inr x_t_persons))))), (a_t_table, .inr (3, [.ref a_t_table_place, .ref a_t_table_told, .ref a_t_table_before, .ref a_t_table_behind, .int x_t_table_count])), (a_t_table_place, .inl (G.2 0, 600, .inl x_t_table_place)), (a_t_table_told, .inl (G.2 0, 600, .inl x_t_table_told)), (a_t_table_before, .inl (G.2 0, 600, .inl x_t_table_before)), (a_t_table_behind, .inl (G.2 0, 600, .inl x_t_table_behind)), (a_w, .inr (2, [.int x_w_number, .ref a_w_board, .ref a_w_clock, .int x_w_present, .int x_w_helpCount])), (a_w_board, .inr (0, [.ref a_w_board_entries, .ref a_w_board_markBits])), (a_w_board_entries, .inl (G.2 0, n, .inl x_w_board_entries)), (a_w_board_markBits, .inl (G.2 0, n, .inl x_w_board_markBits))]) (wn := (ws_PS_help G a_t a_t_joining a_t_units a_t_draft a_t_reader a_t_right a_t_persons a_t_table a_t_table_place a_t_table_told a_t_table_before a_t_table_behind a_w a_w_clock a_w_board a_w_board_entries a_w_board_markBits n x_t_placeCount x_t_personCount x_t_unitCount x_t_right x_t_persons x_t_table_count x_t_table_place x_t_table_told x_t_table_before x_t_table_behind x_w_number x_w_present x_w_helpCount x_w_board_entries x_w_board_markBits)) hP hD [0] [1, 2, 3, 4, 5, 6, 7, 8, 9, 10, 11] [11, 0, 1, 2, 3, 4, 5, 6, 7, 8, 9, 10] rfl rfl (by decide) (by decide) rfl (by decide) hk hFc hB.1 hB.2
  generalize H1 = H at hP hS ⊢
  replace hP : va_P G.1 vwCl (ws_PS_help G a_t a_t_joining a_t_units a_t_draft a_t_reader a_t_right a_t_persons a_t_table a_t_table_place a_t_table_told a_t_table_before a_t_table_behind a_w a_w_clock a_w_board a_w_board_entries a_w_board_markBits n x_t_placeCount x_t_personCount x_t_unitCount x_t_right x_t_persons x_t_table_count x_t_table_place x_t_table_told x_t_table_before x_t_table_behind x_w_number x_w_present x_w_helpCount x_w_board_entries x_w_board_markBits) H := hP
  replace hD : va_D A (ws_PS_help G a_t a_t_joining a_t_units a_t_draft a_t_reader a_t_right a_t_persons a_t_table a_t_table_place a_t_table_told a_t_table_before a_t_table_behind a_w a_w_clock a_w_board a_w_board_entries a_w_board_markBits n x_t_placeCount x_t_personCount x_t_unitCount x_t_right x_t_persons x_t_table_count x_t_table_place x_t_table_told x_t_table_before x_t_table_behind x_w_number x_w_present x_w_helpCount x_w_board_entries x_w_board_markBits) := hD
  refine lv_if_eq (tgt := 45) hx hb d_PS_help_26 (by decide) (fun c3 => ?_) (fun c3 => ?_)
  · replace h := (if_pos c3).symm.trans h
    refine lv_iconst (v := (-1 : Int32)) hx hb d_PS_help_45 (by decide) ?_
    cases h
    exact q_iretW hx hb hr hlocks hP hD hS d_PS_help_46
  · replace h := (if_neg c3).symm.trans h
    refine lv_aload_n hx hb d_PS_help_29 rfl (lv_at hl 2 rfl) ?_
    refine lv_aload_n hx hb d_PS_help_30 rfl (lv_at hl 1 rfl) ?_
    refine lv_iload_n hx hb d_PS_help_31 rfl (lv_at hl 0 rfl) ?_
    refine lv_aload_n hx hb d_PS_help_32 rfl (lv_at hl 2 rfl) ?_
    refine va_get (D := G.1) (ci := 5) (v := .ref a_t_right) (C := "PlayStates") (T := TPS) (N := 10) hx hb hts iw_5 hown hK hP 0 rfl rfl 1 (by decide) (hts _ gw_103) (fun _ h9 => h9) rfl d_PS_help_33 ?_
    refine lv_iload_n hx hb d_PS_help_36 rfl (lv_at hl 0 rfl) ?_
    obtain ⟨i4, h⟩ := o_if h
    refine va_iald (n := n) (f := x_t_right) hx hb hK hP 1 0 rfl rfl i4 d_PS_help_37 ?_
    obtain ⟨y5, hy5, h⟩ := o_bind h
    have hPc := hP.sub (ws' := (ws_PS_tell G a_t a_t_right a_t_persons a_t_joining a_t_units a_t_draft a_t_reader a_t_table a_t_table_place a_t_table_told a_t_table_before a_t_table_behind a_w a_w_clock a_w_board a_w_board_entries a_w_board_markBits n x_t_placeCount x_t_personCount x_t_unitCount x_t_table_count x_t_table_place x_t_table_told x_t_table_before x_t_table_behind x_w_number x_w_present x_w_helpCount x_w_board_entries x_w_board_markBits)) [0, 3, 4, 5, 6, 7, 8, 9, 10, 11] rfl
    have hDc := hD.sub (ws' := (ws_PS_tell G a_t a_t_right a_t_persons a_t_joining a_t_units a_t_draft a_t_reader a_t_table a_t_table_place a_t_table_told a_t_table_before a_t_table_behind a_w a_w_clock a_w_board a_w_board_entries a_w_board_markBits n x_t_placeCount x_t_personCount x_t_unitCount x_t_table_count x_t_table_place x_t_table_told x_t_table_before x_t_table_behind x_w_number x_w_present x_w_helpCount x_w_board_entries x_w_board_markBits)) [0, 3, 4, 5, 6, 7, 8, 9, 10, 11] (by decide) rfl
    have hFc := va_free (wc := (ws_PS_tell G a_t a_t_right a_t_persons a_t_joining a_t_units a_t_draft a_t_reader a_t_table a_t_table_place a_t_table_told a_t_table_before a_t_table_behind a_w a_w_clock a_w_board a_w_board_entries a_w_board_markBits n x_t_placeCount x_t_personCount x_t_unitCount x_t_table_count x_t_table_place x_t_table_told x_t_table_before x_t_table_behind x_w_number x_w_present x_w_helpCount x_w_board_entries x_w_board_markBits)) hD hS hA [0, 3, 4, 5, 6, 7, 8, 9, 10, 11] rfl
    refine q_call1 (va_runV (As := [.ref a_w, .int y1, .int (x_t_right y1.toNatClampNeg)]) (rest := []) ⟨hx, hb, hml, hown, hts⟩ (c_PS_tell l G H.size a_t a_t_right a_t_persons a_t_joining a_t_units a_t_draft a_t_reader a_t_table a_t_table_place a_t_table_told a_t_table_before a_t_table_behind a_w a_w_clock a_w_board a_w_board_entries a_w_board_markBits n y1 (x_t_right y1.toNatClampNeg) x_t_placeCount x_t_personCount x_t_unitCount x_t_table_count x_t_table_place x_t_table_told x_t_table_before x_t_table_behind x_w_number x_w_present x_w_helpCount x_w_board_entries x_w_board_markBits _ _ _ _ _ _ _ _ _ hy5) (cwV 3 hts (gV gw_172 gw_173 gw_4 gw_31 gw_174) rfl rfl rfl (by decide +kernel) ⟨Nat.le_of_ble_eq_true rfl, Nat.le_of_ble_eq_true rfl⟩) (pV hK hN hPc hDc (ci := 5) (q0 := 0) rfl rfl) rfl rfl hl.1 rfl (lv_room (Nat.le_of_ble_eq_true rfl)) d_PS_help_38 ⟨Nat.le_of_ble_eq_true rfl, Nat.le_of_ble_eq_true rfl⟩) hS (fun q _ h => hFc q h) hFc (fun H1 locs hB hz hk hS => ?_)
    obtain ⟨hP, hD⟩ := q_join (wr := [(a_t_right, .inl (G.2 0, n, .inl x_t_right)), (a_t_persons, .inl (G.2 3, 8, .inr (.inr (.inr (.inr x_t_persons)))))]) (wn := (ws_PS_help G a_t a_t_joining a_t_units a_t_draft a_t_reader a_t_right a_t_persons a_t_table a_t_table_place a_t_table_told a_t_table_before a_t_table_behind a_w a_w_clock a_w_board a_w_board_entries a_w_board_markBits n x_t_placeCount x_t_personCount x_t_unitCount x_t_right x_t_persons y5.2.1 y5.2.2.1 y5.2.2.2.1 y5.2.2.2.2.1 y5.2.2.2.2.2.1 x_w_number y5.2.2.2.2.2.2.1 x_w_helpCount y5.2.2.2.2.2.2.2.1 y5.2.2.2.2.2.2.2.2)) hP hD [0, 3, 4, 5, 6, 7, 8, 9, 10, 11] [1, 2] [2, 0, 1, 3, 4, 5, 6, 7, 8, 9, 10, 11] rfl rfl (by decide) (by decide) rfl (by decide) hk hFc hB.1 hB.2
    generalize H1 = H at hP hS ⊢
    replace hP : va_P G.1 vwCl (ws_PS_help G a_t a_t_joining a_t_units a_t_draft a_t_reader a_t_right a_t_persons a_t_table a_t_table_place a_t_table_told a_t_table_before a_t_table_behind a_w a_w_clock a_w_board a_w_board_entries a_w_board_markBits n x_t_placeCount x_t_personCount x_t_unitCount x_t_right x_t_persons y5.2.1 y5.2.2.1 y5.2.2.2.1 y5.2.2.2.2.1 y5.2.2.2.2.2.1 x_w_number y5.2.2.2.2.2.2.1 x_w_helpCount y5.2.2.2.2.2.2.2.1 y5.2.2.2.2.2.2.2.2) H := hP
    replace hD : va_D A (ws_PS_help G a_t a_t_joining a_t_units a_t_draft a_t_reader a_t_right a_t_persons a_t_table a_t_table_place a_t_table_told a_t_table_before a_t_table_behind a_w a_w_clock a_w_board a_w_board_entries a_w_board_markBits n x_t_placeCount x_t_personCount x_t_unitCount x_t_right x_t_persons y5.2.1 y5.2.2.1 y5.2.2.2.1 y5.2.2.2.2.1 y5.2.2.2.2.2.1 x_w_number y5.2.2.2.2.2.2.1 x_w_helpCount y5.2.2.2.2.2.2.2.1 y5.2.2.2.2.2.2.2.2) := hD
    refine lv_iconst (v := (-1 : Int32)) hx hb d_PS_help_41 (by decide) ?_
    refine lv_icmp_ne (tgt := 47) hx hb d_PS_help_42 (by decide) (fun c6 => ?_) (fun c6 => ?_)
    · replace h := (if_neg c6).symm.trans h
      refine lv_aload_n hx hb d_PS_help_47 rfl (lv_at hl 1 rfl) ?_
      refine lv_dup hx hb d_PS_help_48 rfl ?_
      refine va_getN (D := G.1) (ci := 2) (v := .int x_w_helpCount) (C := "PlayStates$Person") (T := TPn) (N := 5) hx hb hts iw_2 hown hK hP 8 rfl rfl 4 (by decide) (va_Nw.use rfl (hN.1 ("PlayStates", 139, "PlayStates$Person", "helpCount", "I", "PlayStates") (by decide +kernel))) (fun _ h9 => h9) rfl d_PS_help_49 ?_
      refine lv_iconst (v := (1 : Int32)) hx hb d_PS_help_52 (by decide) ?_
      refine lv_iadd hx hb d_PS_help_53 ?_
      refine va_putN (D := G.1) (ci := 2) (v := .int (x_w_helpCount + (1 : Int32))) (ty := .int) (C := "PlayStates$Person") (T := TPn) (N := 5) hx hb hts iw_2 tyPn tyPn_ok nmPn hown hK hP hD hS 8 rfl rfl 4 (by decide) (va_Nw.use rfl (hN.1 ("PlayStates", 139, "PlayStates$Person", "helpCount", "I", "PlayStates") (by decide +kernel))) (fun _ h9 => h9) rfl (by decide +kernel) (by rfl) (by rfl) (Nat.le_of_ble_eq_true rfl) d_PS_help_54 (fun H locs hP hD hS => ?_)
      replace hP : va_P G.1 vwCl (ws_PS_help G a_t a_t_joining a_t_units a_t_draft a_t_reader a_t_right a_t_persons a_t_table a_t_table_place a_t_table_told a_t_table_before a_t_table_behind a_w a_w_clock a_w_board a_w_board_entries a_w_board_markBits n x_t_placeCount x_t_personCount x_t_unitCount x_t_right x_t_persons y5.2.1 y5.2.2.1 y5.2.2.2.1 y5.2.2.2.2.1 y5.2.2.2.2.2.1 x_w_number y5.2.2.2.2.2.2.1 (x_w_helpCount + (1 : Int32)) y5.2.2.2.2.2.2.2.1 y5.2.2.2.2.2.2.2.2) H := hP
      replace hD : va_D A (ws_PS_help G a_t a_t_joining a_t_units a_t_draft a_t_reader a_t_right a_t_persons a_t_table a_t_table_place a_t_table_told a_t_table_before a_t_table_behind a_w a_w_clock a_w_board a_w_board_entries a_w_board_markBits n x_t_placeCount x_t_personCount x_t_unitCount x_t_right x_t_persons y5.2.1 y5.2.2.1 y5.2.2.2.1 y5.2.2.2.2.1 y5.2.2.2.2.2.1 x_w_number y5.2.2.2.2.2.2.1 (x_w_helpCount + (1 : Int32)) y5.2.2.2.2.2.2.2.1 y5.2.2.2.2.2.2.2.2) := hD
      refine lv_iload_n hx hb d_PS_help_57 rfl (lv_at hl 0 rfl) ?_
      cases h
      exact q_iretW hx hb hr hlocks hP hD hS d_PS_help_58
    · replace h := (if_pos c6).symm.trans h
      refine lv_iconst (v := (-1 : Int32)) hx hb d_PS_help_45 (by decide) ?_
      cases h
      exact q_iretW hx hb hr hlocks hP hD hS d_PS_help_46


-- PlayStates.help(I)I 
def ws_PS_help_no (G : gG) (a_t a_t_right a_t_table a_t_joining a_t_units a_t_draft a_t_reader a_t_persons : Nat)  (x_t_placeCount : Int32) (x_t_personCount : Int32) (x_t_unitCount : Int32) (x_t_persons : Nat → Option Nat) : va_W := [(a_t, .inr (5, [.int x_t_placeCount, .ref a_t_right, .ref a_t_persons, .int x_t_personCount, .ref a_t_table, .ref a_t_joining, .ref a_t_units, .int x_t_unitCount, .ref a_t_draft, .ref a_t_reader])), (a_t_persons, .inl (G.2 3, 8, .inr (.inr (.inr (.inr x_t_persons)))))]
def f_PS_help_no  (p0 : Int32) (x_t_placeCount : Int32) (x_t_personCount : Int32) (x_t_unitCount : Int32) (x_t_persons : Nat → Option Nat) : Option (Int32) :=
  some (-1 : Int32)
set_option maxHeartbeats 4000000 in
set_option maxRecDepth 100000 in
theorem c_PS_help_no (l : Launch) (G : gG) (sz : Nat) (a_t a_t_right a_t_table a_t_joining a_t_units a_t_draft a_t_reader a_t_persons : Nat)  (p0 : Int32) (x_t_placeCount : Int32) (x_t_personCount : Int32) (x_t_unitCount : Int32) (x_t_persons : Nat → Option Nat) (r : Int32) (h : f_PS_help_no p0 x_t_placeCount x_t_personCount x_t_unitCount x_t_persons = some r)  (hw : f_PS_find p0 x_t_placeCount x_t_personCount x_t_unitCount x_t_persons = some none) : cN l y_PS_help w_PS_help { frames := 1, cells := 0, slots := 0, locals := 21 } G sz [.ref a_t, .int p0] (ws_PS_help_no G a_t a_t_right a_t_table a_t_joining a_t_units a_t_draft a_t_reader a_t_persons x_t_placeCount x_t_personCount x_t_unitCount x_t_persons) (some (.int r)) (wB G (ws_PS_help_no G a_t a_t_right a_t_table a_t_joining a_t_units a_t_draft a_t_reader a_t_persons x_t_placeCount x_t_personCount x_t_unitCount x_t_persons)) 0 0 := by
  refine cN_ofW (cc := prog_1_method_12_code) (maxL := 4) (ret := (some .int)) (by decide) rfl (Nat.le_of_ble_eq_true rfl) ?_
  intro p e s m args below meth c A H locs ls hx hb hr hts hown hlocks hin hml hK hN hP hD hA hS hl
  replace hl : lv_has ls 4 [(0, .ref a_t), (1, .int p0)] := hl
  replace hown : s.vm.findClass "PlayStates" = some m.cls := hown
  unfold f_PS_help_no at h
  refine lv_aload_n hx hb d_PS_help_0 rfl (lv_at hl 0 rfl) ?_
  refine lv_iload_n hx hb d_PS_help_1 rfl (lv_at hl 1 rfl) ?_
  have hPc := hP.sub (ws' := (ws_PS_find G a_t a_t_right a_t_table a_t_joining a_t_units a_t_draft a_t_reader a_t_persons x_t_placeCount x_t_personCount x_t_unitCount x_t_persons)) [0, 1] rfl
  have hDc := hD.sub (ws' := (ws_PS_find G a_t a_t_right a_t_table a_t_joining a_t_units a_t_draft a_t_reader a_t_persons x_t_placeCount x_t_personCount x_t_unitCount x_t_persons)) [0, 1] (by decide) rfl
  have hFc := va_free (wc := (ws_PS_find G a_t a_t_right a_t_table a_t_joining a_t_units a_t_draft a_t_reader a_t_persons x_t_placeCount x_t_personCount x_t_unitCount x_t_persons)) hD hS hA [0, 1] rfl
  refine q_call1 (va_runV (As := [.int p0]) (rest := []) ⟨hx, hb, hml, hown, hts⟩ (c_PS_find l G H.size a_t a_t_right a_t_table a_t_joining a_t_units a_t_draft a_t_reader a_t_persons p0 x_t_placeCount x_t_personCount x_t_unitCount x_t_persons _ hw) (cwV 1 hts (gV gw_163 gw_164 gw_2 gw_31 gw_165) rfl rfl rfl (by decide +kernel) ⟨Nat.le_of_ble_eq_true rfl, Nat.le_of_ble_eq_true rfl⟩) (pV hK hN hPc hDc (ci := 5) (q0 := 0) rfl rfl) rfl rfl hl.1 rfl (lv_room (Nat.le_of_ble_eq_true rfl)) d_PS_help_2 ⟨Nat.le_of_ble_eq_true rfl, Nat.le_of_ble_eq_true rfl⟩) hS (fun q _ h => hFc q h) hFc (fun H1 locs hB hz hk hS => ?_)
  obtain ⟨hP, hD⟩ := q_joinA hFc hB.1 hB.2
  generalize H1 = H at hP hS ⊢
  replace hP : va_P G.1 vwCl (ws_PS_help_no G a_t a_t_right a_t_table a_t_joining a_t_units a_t_draft a_t_reader a_t_persons x_t_placeCount x_t_personCount x_t_unitCount x_t_persons) H := hP
  replace hD : va_D A (ws_PS_help_no G a_t a_t_right a_t_table a_t_joining a_t_units a_t_draft a_t_reader a_t_persons x_t_placeCount x_t_personCount x_t_unitCount x_t_persons) := hD
  refine lv_astore_nN (lv' := [(2, .null), (0, .ref a_t), (1, .int p0)]) hx hb d_PS_help_5 rfl hl (by decide) rfl (fun ls hl => ?_)
  refine lv_aload_nN hx hb d_PS_help_6 rfl (lv_at hl 0 rfl) ?_
  refine lv_ifnonnullN hx hb d_PS_help_7 ?_
  refine lv_iconst (v := (-1 : Int32)) hx hb d_PS_help_10 (by decide) ?_
  cases h
  exact q_iretW hx hb hr hlocks hP hD hS d_PS_help_11

theorem gw_263 : (.code ⟨"PlayStates$Clock", "mayBeTold", "(J)Z"⟩ prog_3_method_2_code 3 (some .boolean) : Cond) ∈ GW := gT 290 (by decide +kernel) (by decide +kernel)
theorem gw_260 : (.methodLink "PlayStates" 146 ⟨"PlayStates$Clock", "mayBeTold", "(J)Z"⟩ : Cond) ∈ GW := gT 287 (by decide +kernel) (by decide +kernel)
theorem gw_261 : (.instanceMethod ⟨"PlayStates$Clock", "mayBeTold", "(J)Z"⟩ : Cond) ∈ GW := gT 288 (by decide +kernel) (by decide +kernel)
theorem gw_262 : (.selects "PlayStates$Clock" ⟨"PlayStates$Clock", "mayBeTold", "(J)Z"⟩ ⟨"PlayStates$Clock", "mayBeTold", "(J)Z"⟩ : Cond) ∈ GW := gT 289 (by decide +kernel) (by decide +kernel)
theorem gw_267 : (.code ⟨"PlayStates$Clock", "tellTime", "(JZ)V"⟩ prog_3_method_4_code 4 none : Cond) ∈ GW := gT 294 (by decide +kernel) (by decide +kernel)
theorem gw_264 : (.methodLink "PlayStates" 152 ⟨"PlayStates$Clock", "tellTime", "(JZ)V"⟩ : Cond) ∈ GW := gT 291 (by decide +kernel) (by decide +kernel)
theorem gw_265 : (.instanceMethod ⟨"PlayStates$Clock", "tellTime", "(JZ)V"⟩ : Cond) ∈ GW := gT 292 (by decide +kernel) (by decide +kernel)
theorem gw_266 : (.selects "PlayStates$Clock" ⟨"PlayStates$Clock", "tellTime", "(JZ)V"⟩ ⟨"PlayStates$Clock", "tellTime", "(JZ)V"⟩ : Cond) ∈ GW := gT 293 (by decide +kernel) (by decide +kernel)
theorem d_PS_timer_0 : decode prog_1_method_14_code 0 = .ok (.aload_n 0, 1) := by decide +kernel
theorem d_PS_timer_1 : decode prog_1_method_14_code 1 = .ok (.iload_n 1, 1) := by decide +kernel
theorem d_PS_timer_2 : decode prog_1_method_14_code 2 = .ok (.invokevirtual 75, 3) := by decide +kernel
theorem d_PS_timer_5 : decode prog_1_method_14_code 5 = .ok (.astore 5, 2) := by decide +kernel
theorem d_PS_timer_7 : decode prog_1_method_14_code 7 = .ok (.aload 5, 2) := by decide +kernel
theorem d_PS_timer_9 : decode prog_1_method_14_code 9 = .ok (.ifnull 15, 3) := by decide +kernel
theorem d_PS_timer_12 : decode prog_1_method_14_code 12 = .ok (.aload 5, 2) := by decide +kernel
theorem d_PS_timer_14 : decode prog_1_method_14_code 14 = .ok (.getfield 142, 3) := by decide +kernel
theorem d_PS_timer_17 : decode prog_1_method_14_code 17 = .ok (.lload_n 2, 1) := by decide +kernel
theorem d_PS_timer_18 : decode prog_1_method_14_code 18 = .ok (.invokevirtual 146, 3) := by decide +kernel
theorem d_PS_timer_21 : decode prog_1_method_14_code 21 = .ok (.ifCond .ne 5, 3) := by decide +kernel
theorem d_PS_timer_24 : decode prog_1_method_14_code 24 = .ok (.iconst 0, 1) := by decide +kernel
theorem d_PS_timer_25 : decode prog_1_method_14_code 25 = .ok (.ireturn, 1) := by decide +kernel
theorem d_PS_timer_26 : decode prog_1_method_14_code 26 = .ok (.aload 5, 2) := by decide +kernel
theorem d_PS_timer_28 : decode prog_1_method_14_code 28 = .ok (.getfield 142, 3) := by decide +kernel
theorem d_PS_timer_31 : decode prog_1_method_14_code 31 = .ok (.lload_n 2, 1) := by decide +kernel
theorem d_PS_timer_32 : decode prog_1_method_14_code 32 = .ok (.iload 4, 2) := by decide +kernel
theorem d_PS_timer_34 : decode prog_1_method_14_code 34 = .ok (.invokevirtual 152, 3) := by decide +kernel
theorem d_PS_timer_37 : decode prog_1_method_14_code 37 = .ok (.iconst 1, 1) := by decide +kernel
theorem d_PS_timer_38 : decode prog_1_method_14_code 38 = .ok (.ireturn, 1) := by decide +kernel
-- PlayStates.timer(IJZ)Z 
def ws_PS_timer (G : gG) (a_t a_t_right a_t_table a_t_joining a_t_units a_t_draft a_t_reader a_t_persons a_w a_w_board a_w_clock : Nat)  (x_t_placeCount : Int32) (x_t_personCount : Int32) (x_t_unitCount : Int32) (x_t_persons : Nat → Option Nat) (x_w_number : Int32) (x_w_present : Int32) (x_w_helpCount : Int32) (x_w_clock_running : Int32) (x_w_clock_lastTold : Int64) (x_w_clock_counted : Int64) : va_W := [(a_t, .inr (5, [.int x_t_placeCount, .ref a_t_right, .ref a_t_persons, .int x_t_personCount, .ref a_t_table, .ref a_t_joining, .ref a_t_units, .int x_t_unitCount, .ref a_t_draft, .ref a_t_reader])), (a_t_persons, .inl (G.2 3, 8, .inr (.inr (.inr (.inr x_t_persons))))), (a_w, .inr (2, [.int x_w_number, .ref a_w_board, .ref a_w_clock, .int x_w_present, .int x_w_helpCount])), (a_w_clock, .inr (1, [.int x_w_clock_running, .long x_w_clock_lastTold, .long x_w_clock_counted]))]
def f_PS_timer  (p0 : Int32) (p1 : Int64) (p2 : Int32) (x_t_placeCount : Int32) (x_t_personCount : Int32) (x_t_unitCount : Int32) (x_t_persons : Nat → Option Nat) (x_w_number : Int32) (x_w_present : Int32) (x_w_helpCount : Int32) (x_w_clock_running : Int32) (x_w_clock_lastTold : Int64) (x_w_clock_counted : Int64) : Option (Int32 × Int32 × Int64 × Int64) :=
  ((f_Ck_mayBeTold p1 x_w_clock_running x_w_clock_lastTold x_w_clock_counted).bind fun y1 => (if y1 = 0 then some ((0 : Int32), x_w_clock_running, x_w_clock_lastTold, x_w_clock_counted) else ((f_Ck_tellTime p1 p2 x_w_clock_running x_w_clock_lastTold x_w_clock_counted).bind fun y3 => some ((1 : Int32), y3.1, y3.2.1, y3.2.2))))
set_option maxHeartbeats 4000000 in
set_option maxRecDepth 100000 in
theorem c_PS_timer (l : Launch) (G : gG) (sz : Nat) (a_t a_t_right a_t_table a_t_joining a_t_units a_t_draft a_t_reader a_t_persons a_w a_w_board a_w_clock : Nat)  (p0 : Int32) (p1 : Int64) (p2 : Int32) (x_t_placeCount : Int32) (x_t_personCount : Int32) (x_t_unitCount : Int32) (x_t_persons : Nat → Option Nat) (x_w_number : Int32) (x_w_present : Int32) (x_w_helpCount : Int32) (x_w_clock_running : Int32) (x_w_clock_lastTold : Int64) (x_w_clock_counted : Int64) (r : Int32) (x_w_clock_running' : Int32) (x_w_clock_lastTold' : Int64) (x_w_clock_counted' : Int64) (h : f_PS_timer p0 p1 p2 x_t_placeCount x_t_personCount x_t_unitCount x_t_persons x_w_number x_w_present x_w_helpCount x_w_clock_running x_w_clock_lastTold x_w_clock_counted = some (r, x_w_clock_running', x_w_clock_lastTold', x_w_clock_counted'))  (hw : f_PS_find p0 x_t_placeCount x_t_personCount x_t_unitCount x_t_persons = some (some a_w)) : cN l y_PS_timer w_PS_timer { frames := 2, cells := 0, slots := 0, locals := 45 } G sz [.ref a_t, .int p0, .long p1, .int p2] (ws_PS_timer G a_t a_t_right a_t_table a_t_joining a_t_units a_t_draft a_t_reader a_t_persons a_w a_w_board a_w_clock x_t_placeCount x_t_personCount x_t_unitCount x_t_persons x_w_number x_w_present x_w_helpCount x_w_clock_running x_w_clock_lastTold x_w_clock_counted) (some (.int r)) (wB G (ws_PS_timer G a_t a_t_right a_t_table a_t_joining a_t_units a_t_draft a_t_reader a_t_persons a_w a_w_board a_w_clock x_t_placeCount x_t_personCount x_t_unitCount x_t_persons x_w_number x_w_present x_w_helpCount x_w_clock_running' x_w_clock_lastTold' x_w_clock_counted')) 0 0 := by
  refine cN_ofW (cc := prog_1_method_14_code) (maxL := 6) (ret := (some .boolean)) (by decide) rfl (Nat.le_of_ble_eq_true rfl) ?_
  intro p e s m args below meth c A H locs ls hx hb hr hts hown hlocks hin hml hK hN hP hD hA hS hl
  replace hl : lv_has ls 6 [(0, .ref a_t), (1, .int p0), (2, .long p1), (4, .int p2)] := hl
  replace hown : s.vm.findClass "PlayStates" = some m.cls := hown
  unfold f_PS_timer at h
  refine lv_aload_n hx hb d_PS_timer_0 rfl (lv_at hl 0 rfl) ?_
  refine lv_iload_n hx hb d_PS_timer_1 rfl (lv_at hl 1 rfl) ?_
  have hPc := hP.sub (ws' := (ws_PS_find G a_t a_t_right a_t_table a_t_joining a_t_units a_t_draft a_t_reader a_t_persons x_t_placeCount x_t_personCount x_t_unitCount x_t_persons)) [0, 1] rfl
  have hDc := hD.sub (ws' := (ws_PS_find G a_t a_t_right a_t_table a_t_joining a_t_units a_t_draft a_t_reader a_t_persons x_t_placeCount x_t_personCount x_t_unitCount x_t_persons)) [0, 1] (by decide) rfl
  have hFc := va_free (wc := (ws_PS_find G a_t a_t_right a_t_table a_t_joining a_t_units a_t_draft a_t_reader a_t_persons x_t_placeCount x_t_personCount x_t_unitCount x_t_persons)) hD hS hA [0, 1] rfl
  refine q_call1 (va_runV (As := [.int p0]) (rest := []) ⟨hx, hb, hml, hown, hts⟩ (c_PS_find l G H.size a_t a_t_right a_t_table a_t_joining a_t_units a_t_draft a_t_reader a_t_persons p0 x_t_placeCount x_t_personCount x_t_unitCount x_t_persons _ hw) (cwV 1 hts (gV gw_163 gw_164 gw_2 gw_31 gw_165) rfl rfl rfl (by decide +kernel) ⟨Nat.le_of_ble_eq_true rfl, Nat.le_of_ble_eq_true rfl⟩) (pV hK hN hPc hDc (ci := 5) (q0 := 0) rfl rfl) rfl rfl hl.1 rfl (lv_room (Nat.le_of_ble_eq_true rfl)) d_PS_timer_2 ⟨Nat.le_of_ble_eq_true rfl, Nat.le_of_ble_eq_true rfl⟩) hS (fun q _ h => hFc q h) hFc (fun H1 locs hB hz hk hS => ?_)
  obtain ⟨hP, hD⟩ := q_join (wr := [(a_w, .inr (2, [.int x_w_number, .ref a_w_board, .ref a_w_clock, .int x_w_present, .int x_w_helpCount])), (a_w_clock, .inr (1, [.int x_w_clock_running, .long x_w_clock_lastTold, .long x_w_clock_counted]))]) (wn := (ws_PS_timer G a_t a_t_right a_t_table a_t_joining a_t_units a_t_draft a_t_reader a_t_persons a_w a_w_board a_w_clock x_t_placeCount x_t_personCount x_t_unitCount x_t_persons x_w_number x_w_present x_w_helpCount x_w_clock_running x_w_clock_lastTold x_w_clock_counted)) hP hD [0, 1] [2, 3] [2, 3, 0, 1] rfl rfl (by decide) (by decide) rfl (by decide) hk hFc hB.1 hB.2
  generalize H1 = H at hP hS ⊢
  replace hP : va_P G.1 vwCl (ws_PS_timer G a_t a_t_right a_t_table a_t_joining a_t_units a_t_draft a_t_reader a_t_persons a_w a_w_board a_w_clock x_t_placeCount x_t_personCount x_t_unitCount x_t_persons x_w_number x_w_present x_w_helpCount x_w_clock_running x_w_clock_lastTold x_w_clock_counted) H := hP
  replace hD : va_D A (ws_PS_timer G a_t a_t_right a_t_table a_t_joining a_t_units a_t_draft a_t_reader a_t_persons a_w a_w_board a_w_clock x_t_placeCount x_t_personCount x_t_unitCount x_t_persons x_w_number x_w_present x_w_helpCount x_w_clock_running x_w_clock_lastTold x_w_clock_counted) := hD
  refine lv_astore (lv' := [(5, .ref a_w), (0, .ref a_t), (1, .int p0), (2, .long p1), (4, .int p2)]) hx hb d_PS_timer_5 hl (by decide) rfl (fun ls hl => ?_)
  refine lv_aload hx hb d_PS_timer_7 (lv_at hl 0 rfl) ?_
  refine lv_ifnull hx hb d_PS_timer_9 ?_
  refine lv_aload hx hb d_PS_timer_12 (lv_at hl 0 rfl) ?_
  refine va_getN (D := G.1) (ci := 2) (v := .ref a_w_clock) (C := "PlayStates$Person") (T := TPn) (N := 5) hx hb hts iw_2 hown hK hP 2 rfl rfl 2 (by decide) (va_Nw.use rfl (hN.1 ("PlayStates", 142, "PlayStates$Person", "clock", "LPlayStates$Clock;", "PlayStates") (by decide +kernel))) (fun _ h9 => h9) rfl d_PS_timer_14 ?_
  refine lv_lload_n hx hb d_PS_timer_17 rfl (lv_at hl 3 rfl) ?_
  obtain ⟨y1, hy1, h⟩ := o_bind h
  have hPc := hP.sub (ws' := (ws_Ck_mayBeTold G a_w_clock x_w_clock_running x_w_clock_lastTold x_w_clock_counted)) [3] rfl
  have hDc := hD.sub (ws' := (ws_Ck_mayBeTold G a_w_clock x_w_clock_running x_w_clock_lastTold x_w_clock_counted)) [3] (by decide) rfl
  have hFc := va_free (wc := (ws_Ck_mayBeTold G a_w_clock x_w_clock_running x_w_clock_lastTold x_w_clock_counted)) hD hS hA [3] rfl
  refine q_call1 (va_runV (As := [.long p1]) (rest := []) ⟨hx, hb, hml, hown, hts⟩ (c_Ck_mayBeTold l G H.size a_w_clock p1 x_w_clock_running x_w_clock_lastTold x_w_clock_counted _ hy1) (cwV 1 hts (gV gw_260 gw_261 gw_262 gw_38 gw_263) rfl rfl rfl (by decide +kernel) ⟨Nat.le_of_ble_eq_true rfl, Nat.le_of_ble_eq_true rfl⟩) (pV hK hN hPc hDc (ci := 1) (q0 := 0) rfl rfl) rfl rfl hl.1 rfl (lv_room (Nat.le_of_ble_eq_true rfl)) d_PS_timer_18 ⟨Nat.le_of_ble_eq_true rfl, Nat.le_of_ble_eq_true rfl⟩) hS (fun q _ h => hFc q h) hFc (fun H1 locs hB hz hk hS => ?_)
  obtain ⟨hP, hD⟩ := q_join (wr := [(a_t, .inr (5, [.int x_t_placeCount, .ref a_t_right, .ref a_t_persons, .int x_t_personCount, .ref a_t_table, .ref a_t_joining, .ref a_t_units, .int x_t_unitCount, .ref a_t_draft, .ref a_t_reader])), (a_t_persons, .inl (G.2 3, 8, .inr (.inr (.inr (.inr x_t_persons))))), (a_w, .inr (2, [.int x_w_number, .ref a_w_board, .ref a_w_clock, .int x_w_present, .int x_w_helpCount]))]) (wn := (ws_PS_timer G a_t a_t_right a_t_table a_t_joining a_t_units a_t_draft a_t_reader a_t_persons a_w a_w_board a_w_clock x_t_placeCount x_t_personCount x_t_unitCount x_t_persons x_w_number x_w_present x_w_helpCount x_w_clock_running x_w_clock_lastTold x_w_clock_counted)) hP hD [3] [0, 1, 2] [0, 1, 2, 3] rfl rfl (by decide) (by decide) rfl (by decide) hk hFc hB.1 hB.2
  generalize H1 = H at hP hS ⊢
  replace hP : va_P G.1 vwCl (ws_PS_timer G a_t a_t_right a_t_table a_t_joining a_t_units a_t_draft a_t_reader a_t_persons a_w a_w_board a_w_clock x_t_placeCount x_t_personCount x_t_unitCount x_t_persons x_w_number x_w_present x_w_helpCount x_w_clock_running x_w_clock_lastTold x_w_clock_counted) H := hP
  replace hD : va_D A (ws_PS_timer G a_t a_t_right a_t_table a_t_joining a_t_units a_t_draft a_t_reader a_t_persons a_w a_w_board a_w_clock x_t_placeCount x_t_personCount x_t_unitCount x_t_persons x_w_number x_w_present x_w_helpCount x_w_clock_running x_w_clock_lastTold x_w_clock_counted) := hD
  refine lv_if_ne (tgt := 26) hx hb d_PS_timer_21 (by decide) (fun c2 => ?_) (fun c2 => ?_)
  · replace h := (if_neg c2).symm.trans h
    refine lv_aload hx hb d_PS_timer_26 (lv_at hl 0 rfl) ?_
    refine va_getN (D := G.1) (ci := 2) (v := .ref a_w_clock) (C := "PlayStates$Person") (T := TPn) (N := 5) hx hb hts iw_2 hown hK hP 2 rfl rfl 2 (by decide) (va_Nw.use rfl (hN.1 ("PlayStates", 142, "PlayStates$Person", "clock", "LPlayStates$Clock;", "PlayStates") (by decide +kernel))) (fun _ h9 => h9) rfl d_PS_timer_28 ?_
    refine lv_lload_n hx hb d_PS_timer_31 rfl (lv_at hl 3 rfl) ?_
    refine lv_iload hx hb d_PS_timer_32 (lv_at hl 4 rfl) ?_
    obtain ⟨y3, hy3, h⟩ := o_bind h
    have hPc := hP.sub (ws' := (ws_Ck_tellTime G a_w_clock x_w_clock_running x_w_clock_lastTold x_w_clock_counted)) [3] rfl
    have hDc := hD.sub (ws' := (ws_Ck_tellTime G a_w_clock x_w_clock_running x_w_clock_lastTold x_w_clock_counted)) [3] (by decide) rfl
    have hFc := va_free (wc := (ws_Ck_tellTime G a_w_clock x_w_clock_running x_w_clock_lastTold x_w_clock_counted)) hD hS hA [3] rfl
    refine q_call0 (va_runV (As := [.long p1, .int p2]) (rest := []) ⟨hx, hb, hml, hown, hts⟩ (c_Ck_tellTime l G H.size a_w_clock p1 p2 x_w_clock_running x_w_clock_lastTold x_w_clock_counted _ _ _ hy3) (cwV 2 hts (gV gw_264 gw_265 gw_266 gw_38 gw_267) rfl rfl rfl (by decide +kernel) ⟨Nat.le_of_ble_eq_true rfl, Nat.le_of_ble_eq_true rfl⟩) (pV hK hN hPc hDc (ci := 1) (q0 := 0) rfl rfl) rfl rfl hl.1 rfl (lv_room (Nat.le_of_ble_eq_true rfl)) d_PS_timer_34 ⟨Nat.le_of_ble_eq_true rfl, Nat.le_of_ble_eq_true rfl⟩) hS (fun q _ h => hFc q h) hFc (fun H1 locs hB hz hk hS => ?_)
    obtain ⟨hP, hD⟩ := q_join (wr := [(a_t, .inr (5, [.int x_t_placeCount, .ref a_t_right, .ref a_t_persons, .int x_t_personCount, .ref a_t_table, .ref a_t_joining, .ref a_t_units, .int x_t_unitCount, .ref a_t_draft, .ref a_t_reader])), (a_t_persons, .inl (G.2 3, 8, .inr (.inr (.inr (.inr x_t_persons))))), (a_w, .inr (2, [.int x_w_number, .ref a_w_board, .ref a_w_clock, .int x_w_present, .int x_w_helpCount]))]) (wn := (ws_PS_timer G a_t a_t_right a_t_table a_t_joining a_t_units a_t_draft a_t_reader a_t_persons a_w a_w_board a_w_clock x_t_placeCount x_t_personCount x_t_unitCount x_t_persons x_w_number x_w_present x_w_helpCount y3.1 y3.2.1 y3.2.2)) hP hD [3] [0, 1, 2] [0, 1, 2, 3] rfl rfl (by decide) (by decide) rfl (by decide) hk hFc hB.1 hB.2
    generalize H1 = H at hP hS ⊢
    replace hP : va_P G.1 vwCl (ws_PS_timer G a_t a_t_right a_t_table a_t_joining a_t_units a_t_draft a_t_reader a_t_persons a_w a_w_board a_w_clock x_t_placeCount x_t_personCount x_t_unitCount x_t_persons x_w_number x_w_present x_w_helpCount y3.1 y3.2.1 y3.2.2) H := hP
    replace hD : va_D A (ws_PS_timer G a_t a_t_right a_t_table a_t_joining a_t_units a_t_draft a_t_reader a_t_persons a_w a_w_board a_w_clock x_t_placeCount x_t_personCount x_t_unitCount x_t_persons x_w_number x_w_present x_w_helpCount y3.1 y3.2.1 y3.2.2) := hD
    refine lv_iconst (v := (1 : Int32)) hx hb d_PS_timer_37 (by decide) ?_
    cases h
    exact q_zretW hx hb hr hlocks (by decide) hP hD hS d_PS_timer_38
  · replace h := (if_pos c2).symm.trans h
    refine lv_iconst (v := (0 : Int32)) hx hb d_PS_timer_24 (by decide) ?_
    cases h
    exact q_zretW hx hb hr hlocks (by decide) hP hD hS d_PS_timer_25


-- PlayStates.timer(IJZ)Z 
def ws_PS_timer_no (G : gG) (a_t a_t_right a_t_table a_t_joining a_t_units a_t_draft a_t_reader a_t_persons : Nat)  (x_t_placeCount : Int32) (x_t_personCount : Int32) (x_t_unitCount : Int32) (x_t_persons : Nat → Option Nat) : va_W := [(a_t, .inr (5, [.int x_t_placeCount, .ref a_t_right, .ref a_t_persons, .int x_t_personCount, .ref a_t_table, .ref a_t_joining, .ref a_t_units, .int x_t_unitCount, .ref a_t_draft, .ref a_t_reader])), (a_t_persons, .inl (G.2 3, 8, .inr (.inr (.inr (.inr x_t_persons)))))]
def f_PS_timer_no  (p0 : Int32) (p1 : Int64) (p2 : Int32) (x_t_placeCount : Int32) (x_t_personCount : Int32) (x_t_unitCount : Int32) (x_t_persons : Nat → Option Nat) : Option (Int32) :=
  some (0 : Int32)
set_option maxHeartbeats 4000000 in
set_option maxRecDepth 100000 in
theorem c_PS_timer_no (l : Launch) (G : gG) (sz : Nat) (a_t a_t_right a_t_table a_t_joining a_t_units a_t_draft a_t_reader a_t_persons : Nat)  (p0 : Int32) (p1 : Int64) (p2 : Int32) (x_t_placeCount : Int32) (x_t_personCount : Int32) (x_t_unitCount : Int32) (x_t_persons : Nat → Option Nat) (r : Int32) (h : f_PS_timer_no p0 p1 p2 x_t_placeCount x_t_personCount x_t_unitCount x_t_persons = some r)  (hw : f_PS_find p0 x_t_placeCount x_t_personCount x_t_unitCount x_t_persons = some none) : cN l y_PS_timer w_PS_timer { frames := 1, cells := 0, slots := 0, locals := 21 } G sz [.ref a_t, .int p0, .long p1, .int p2] (ws_PS_timer_no G a_t a_t_right a_t_table a_t_joining a_t_units a_t_draft a_t_reader a_t_persons x_t_placeCount x_t_personCount x_t_unitCount x_t_persons) (some (.int r)) (wB G (ws_PS_timer_no G a_t a_t_right a_t_table a_t_joining a_t_units a_t_draft a_t_reader a_t_persons x_t_placeCount x_t_personCount x_t_unitCount x_t_persons)) 0 0 := by
  refine cN_ofW (cc := prog_1_method_14_code) (maxL := 6) (ret := (some .boolean)) (by decide) rfl (Nat.le_of_ble_eq_true rfl) ?_
  intro p e s m args below meth c A H locs ls hx hb hr hts hown hlocks hin hml hK hN hP hD hA hS hl
  replace hl : lv_has ls 6 [(0, .ref a_t), (1, .int p0), (2, .long p1), (4, .int p2)] := hl
  replace hown : s.vm.findClass "PlayStates" = some m.cls := hown
  unfold f_PS_timer_no at h
  refine lv_aload_n hx hb d_PS_timer_0 rfl (lv_at hl 0 rfl) ?_
  refine lv_iload_n hx hb d_PS_timer_1 rfl (lv_at hl 1 rfl) ?_
  have hPc := hP.sub (ws' := (ws_PS_find G a_t a_t_right a_t_table a_t_joining a_t_units a_t_draft a_t_reader a_t_persons x_t_placeCount x_t_personCount x_t_unitCount x_t_persons)) [0, 1] rfl
  have hDc := hD.sub (ws' := (ws_PS_find G a_t a_t_right a_t_table a_t_joining a_t_units a_t_draft a_t_reader a_t_persons x_t_placeCount x_t_personCount x_t_unitCount x_t_persons)) [0, 1] (by decide) rfl
  have hFc := va_free (wc := (ws_PS_find G a_t a_t_right a_t_table a_t_joining a_t_units a_t_draft a_t_reader a_t_persons x_t_placeCount x_t_personCount x_t_unitCount x_t_persons)) hD hS hA [0, 1] rfl
  refine q_call1 (va_runV (As := [.int p0]) (rest := []) ⟨hx, hb, hml, hown, hts⟩ (c_PS_find l G H.size a_t a_t_right a_t_table a_t_joining a_t_units a_t_draft a_t_reader a_t_persons p0 x_t_placeCount x_t_personCount x_t_unitCount x_t_persons _ hw) (cwV 1 hts (gV gw_163 gw_164 gw_2 gw_31 gw_165) rfl rfl rfl (by decide +kernel) ⟨Nat.le_of_ble_eq_true rfl, Nat.le_of_ble_eq_true rfl⟩) (pV hK hN hPc hDc (ci := 5) (q0 := 0) rfl rfl) rfl rfl hl.1 rfl (lv_room (Nat.le_of_ble_eq_true rfl)) d_PS_timer_2 ⟨Nat.le_of_ble_eq_true rfl, Nat.le_of_ble_eq_true rfl⟩) hS (fun q _ h => hFc q h) hFc (fun H1 locs hB hz hk hS => ?_)
  obtain ⟨hP, hD⟩ := q_joinA hFc hB.1 hB.2
  generalize H1 = H at hP hS ⊢
  replace hP : va_P G.1 vwCl (ws_PS_timer_no G a_t a_t_right a_t_table a_t_joining a_t_units a_t_draft a_t_reader a_t_persons x_t_placeCount x_t_personCount x_t_unitCount x_t_persons) H := hP
  replace hD : va_D A (ws_PS_timer_no G a_t a_t_right a_t_table a_t_joining a_t_units a_t_draft a_t_reader a_t_persons x_t_placeCount x_t_personCount x_t_unitCount x_t_persons) := hD
  refine lv_astoreN (lv' := [(5, .null), (0, .ref a_t), (1, .int p0), (2, .long p1), (4, .int p2)]) hx hb d_PS_timer_5 hl (by decide) rfl (fun ls hl => ?_)
  refine lv_aloadN hx hb d_PS_timer_7 (lv_at hl 0 rfl) ?_
  refine lv_ifnullN (tgt := 24) hx hb d_PS_timer_9 (by decide) ?_
  refine lv_iconst (v := (0 : Int32)) hx hb d_PS_timer_24 (by decide) ?_
  cases h
  exact q_zretW hx hb hr hlocks (by decide) hP hD hS d_PS_timer_25

theorem gw_277 : (.methodLink "PlayStates" 158 ⟨"PlayStates$Clock", "countUpTo", "(J)J"⟩ : Cond) ∈ GW := gT 304 (by decide +kernel) (by decide +kernel)
theorem gw_276 : (.constantLong "PlayStates" 156 (-1 : Int64) : Cond) ∈ GW := gT 303 (by decide +kernel) (by decide +kernel)
theorem d_PS_time_0 : decode prog_1_method_15_code 0 = .ok (.aload_n 0, 1) := by decide +kernel
theorem d_PS_time_1 : decode prog_1_method_15_code 1 = .ok (.iload_n 1, 1) := by decide +kernel
theorem d_PS_time_2 : decode prog_1_method_15_code 2 = .ok (.invokevirtual 75, 3) := by decide +kernel
theorem d_PS_time_5 : decode prog_1_method_15_code 5 = .ok (.astore 4, 2) := by decide +kernel
theorem d_PS_time_7 : decode prog_1_method_15_code 7 = .ok (.aload 4, 2) := by decide +kernel
theorem d_PS_time_9 : decode prog_1_method_15_code 9 = .ok (.ifnull 15, 3) := by decide +kernel
theorem d_PS_time_12 : decode prog_1_method_15_code 12 = .ok (.aload 4, 2) := by decide +kernel
theorem d_PS_time_14 : decode prog_1_method_15_code 14 = .ok (.getfield 142, 3) := by decide +kernel
theorem d_PS_time_17 : decode prog_1_method_15_code 17 = .ok (.lload_n 2, 1) := by decide +kernel
theorem d_PS_time_18 : decode prog_1_method_15_code 18 = .ok (.invokevirtual 146, 3) := by decide +kernel
theorem d_PS_time_21 : decode prog_1_method_15_code 21 = .ok (.ifCond .ne 9, 3) := by decide +kernel
theorem d_PS_time_24 : decode prog_1_method_15_code 24 = .ok (.ldc2_w 156, 3) := by decide +kernel
theorem d_PS_time_27 : decode prog_1_method_15_code 27 = .ok (.goto 12, 3) := by decide +kernel
theorem d_PS_time_30 : decode prog_1_method_15_code 30 = .ok (.aload 4, 2) := by decide +kernel
theorem d_PS_time_32 : decode prog_1_method_15_code 32 = .ok (.getfield 142, 3) := by decide +kernel
theorem d_PS_time_35 : decode prog_1_method_15_code 35 = .ok (.lload_n 2, 1) := by decide +kernel
theorem d_PS_time_36 : decode prog_1_method_15_code 36 = .ok (.invokevirtual 158, 3) := by decide +kernel
theorem d_PS_time_39 : decode prog_1_method_15_code 39 = .ok (.lreturn, 1) := by decide +kernel
-- PlayStates.time(IJ)J 
def ws_PS_time (G : gG) (a_t a_t_right a_t_table a_t_joining a_t_units a_t_draft a_t_reader a_t_persons a_w a_w_board a_w_clock : Nat)  (x_t_placeCount : Int32) (x_t_personCount : Int32) (x_t_unitCount : Int32) (x_t_persons : Nat → Option Nat) (x_w_number : Int32) (x_w_present : Int32) (x_w_helpCount : Int32) (x_w_clock_running : Int32) (x_w_clock_lastTold : Int64) (x_w_clock_counted : Int64) : va_W := [(a_t, .inr (5, [.int x_t_placeCount, .ref a_t_right, .ref a_t_persons, .int x_t_personCount, .ref a_t_table, .ref a_t_joining, .ref a_t_units, .int x_t_unitCount, .ref a_t_draft, .ref a_t_reader])), (a_t_persons, .inl (G.2 3, 8, .inr (.inr (.inr (.inr x_t_persons))))), (a_w, .inr (2, [.int x_w_number, .ref a_w_board, .ref a_w_clock, .int x_w_present, .int x_w_helpCount])), (a_w_clock, .inr (1, [.int x_w_clock_running, .long x_w_clock_lastTold, .long x_w_clock_counted]))]
def f_PS_time  (p0 : Int32) (p1 : Int64) (x_t_placeCount : Int32) (x_t_personCount : Int32) (x_t_unitCount : Int32) (x_t_persons : Nat → Option Nat) (x_w_number : Int32) (x_w_present : Int32) (x_w_helpCount : Int32) (x_w_clock_running : Int32) (x_w_clock_lastTold : Int64) (x_w_clock_counted : Int64) : Option (Int64) :=
  ((f_Ck_mayBeTold p1 x_w_clock_running x_w_clock_lastTold x_w_clock_counted).bind fun y1 => (if y1 = 0 then some (-1 : Int64) else ((f_Ck_countUpTo p1 x_w_clock_running x_w_clock_lastTold x_w_clock_counted).bind fun y3 => some y3)))
set_option maxHeartbeats 4000000 in
set_option maxRecDepth 100000 in
theorem c_PS_time (l : Launch) (G : gG) (sz : Nat) (a_t a_t_right a_t_table a_t_joining a_t_units a_t_draft a_t_reader a_t_persons a_w a_w_board a_w_clock : Nat)  (p0 : Int32) (p1 : Int64) (x_t_placeCount : Int32) (x_t_personCount : Int32) (x_t_unitCount : Int32) (x_t_persons : Nat → Option Nat) (x_w_number : Int32) (x_w_present : Int32) (x_w_helpCount : Int32) (x_w_clock_running : Int32) (x_w_clock_lastTold : Int64) (x_w_clock_counted : Int64) (r : Int64) (h : f_PS_time p0 p1 x_t_placeCount x_t_personCount x_t_unitCount x_t_persons x_w_number x_w_present x_w_helpCount x_w_clock_running x_w_clock_lastTold x_w_clock_counted = some r)  (hw : f_PS_find p0 x_t_placeCount x_t_personCount x_t_unitCount x_t_persons = some (some a_w)) : cN l y_PS_time w_PS_time { frames := 1, cells := 0, slots := 0, locals := 22 } G sz [.ref a_t, .int p0, .long p1] (ws_PS_time G a_t a_t_right a_t_table a_t_joining a_t_units a_t_draft a_t_reader a_t_persons a_w a_w_board a_w_clock x_t_placeCount x_t_personCount x_t_unitCount x_t_persons x_w_number x_w_present x_w_helpCount x_w_clock_running x_w_clock_lastTold x_w_clock_counted) (some (.long r)) (wB G (ws_PS_time G a_t a_t_right a_t_table a_t_joining a_t_units a_t_draft a_t_reader a_t_persons a_w a_w_board a_w_clock x_t_placeCount x_t_personCount x_t_unitCount x_t_persons x_w_number x_w_present x_w_helpCount x_w_clock_running x_w_clock_lastTold x_w_clock_counted)) 0 0 := by
  refine cN_ofW (cc := prog_1_method_15_code) (maxL := 5) (ret := (some .long)) (by decide) rfl (Nat.le_of_ble_eq_true rfl) ?_
  intro p e s m args below meth c A H locs ls hx hb hr hts hown hlocks hin hml hK hN hP hD hA hS hl
  replace hl : lv_has ls 5 [(0, .ref a_t), (1, .int p0), (2, .long p1)] := hl
  replace hown : s.vm.findClass "PlayStates" = some m.cls := hown
  unfold f_PS_time at h
  refine lv_aload_n hx hb d_PS_time_0 rfl (lv_at hl 0 rfl) ?_
  refine lv_iload_n hx hb d_PS_time_1 rfl (lv_at hl 1 rfl) ?_
  have hPc := hP.sub (ws' := (ws_PS_find G a_t a_t_right a_t_table a_t_joining a_t_units a_t_draft a_t_reader a_t_persons x_t_placeCount x_t_personCount x_t_unitCount x_t_persons)) [0, 1] rfl
  have hDc := hD.sub (ws' := (ws_PS_find G a_t a_t_right a_t_table a_t_joining a_t_units a_t_draft a_t_reader a_t_persons x_t_placeCount x_t_personCount x_t_unitCount x_t_persons)) [0, 1] (by decide) rfl
  have hFc := va_free (wc := (ws_PS_find G a_t a_t_right a_t_table a_t_joining a_t_units a_t_draft a_t_reader a_t_persons x_t_placeCount x_t_personCount x_t_unitCount x_t_persons)) hD hS hA [0, 1] rfl
  refine q_call1 (va_runV (As := [.int p0]) (rest := []) ⟨hx, hb, hml, hown, hts⟩ (c_PS_find l G H.size a_t a_t_right a_t_table a_t_joining a_t_units a_t_draft a_t_reader a_t_persons p0 x_t_placeCount x_t_personCount x_t_unitCount x_t_persons _ hw) (cwV 1 hts (gV gw_163 gw_164 gw_2 gw_31 gw_165) rfl rfl rfl (by decide +kernel) ⟨Nat.le_of_ble_eq_true rfl, Nat.le_of_ble_eq_true rfl⟩) (pV hK hN hPc hDc (ci := 5) (q0 := 0) rfl rfl) rfl rfl hl.1 rfl (lv_room (Nat.le_of_ble_eq_true rfl)) d_PS_time_2 ⟨Nat.le_of_ble_eq_true rfl, Nat.le_of_ble_eq_true rfl⟩) hS (fun q _ h => hFc q h) hFc (fun H1 locs hB hz hk hS => ?_)
  obtain ⟨hP, hD⟩ := q_join (wr := [(a_w, .inr (2, [.int x_w_number, .ref a_w_board, .ref a_w_clock, .int x_w_present, .int x_w_helpCount])), (a_w_clock, .inr (1, [.int x_w_clock_running, .long x_w_clock_lastTold, .long x_w_clock_counted]))]) (wn := (ws_PS_time G a_t a_t_right a_t_table a_t_joining a_t_units a_t_draft a_t_reader a_t_persons a_w a_w_board a_w_clock x_t_placeCount x_t_personCount x_t_unitCount x_t_persons x_w_number x_w_present x_w_helpCount x_w_clock_running x_w_clock_lastTold x_w_clock_counted)) hP hD [0, 1] [2, 3] [2, 3, 0, 1] rfl rfl (by decide) (by decide) rfl (by decide) hk hFc hB.1 hB.2
  generalize H1 = H at hP hS ⊢
  replace hP : va_P G.1 vwCl (ws_PS_time G a_t a_t_right a_t_table a_t_joining a_t_units a_t_draft a_t_reader a_t_persons a_w a_w_board a_w_clock x_t_placeCount x_t_personCount x_t_unitCount x_t_persons x_w_number x_w_present x_w_helpCount x_w_clock_running x_w_clock_lastTold x_w_clock_counted) H := hP
  replace hD : va_D A (ws_PS_time G a_t a_t_right a_t_table a_t_joining a_t_units a_t_draft a_t_reader a_t_persons a_w a_w_board a_w_clock x_t_placeCount x_t_personCount x_t_unitCount x_t_persons x_w_number x_w_present x_w_helpCount x_w_clock_running x_w_clock_lastTold x_w_clock_counted) := hD
  refine lv_astore (lv' := [(4, .ref a_w), (0, .ref a_t), (1, .int p0), (2, .long p1)]) hx hb d_PS_time_5 hl (by decide) rfl (fun ls hl => ?_)
  refine lv_aload hx hb d_PS_time_7 (lv_at hl 0 rfl) ?_
  refine lv_ifnull hx hb d_PS_time_9 ?_
  refine lv_aload hx hb d_PS_time_12 (lv_at hl 0 rfl) ?_
  refine va_getN (D := G.1) (ci := 2) (v := .ref a_w_clock) (C := "PlayStates$Person") (T := TPn) (N := 5) hx hb hts iw_2 hown hK hP 2 rfl rfl 2 (by decide) (va_Nw.use rfl (hN.1 ("PlayStates", 142, "PlayStates$Person", "clock", "LPlayStates$Clock;", "PlayStates") (by decide +kernel))) (fun _ h9 => h9) rfl d_PS_time_14 ?_
  refine lv_lload_n hx hb d_PS_time_17 rfl (lv_at hl 3 rfl) ?_
  obtain ⟨y1, hy1, h⟩ := o_bind h
  have hPc := hP.sub (ws' := (ws_Ck_mayBeTold G a_w_clock x_w_clock_running x_w_clock_lastTold x_w_clock_counted)) [3] rfl
  have hDc := hD.sub (ws' := (ws_Ck_mayBeTold G a_w_clock x_w_clock_running x_w_clock_lastTold x_w_clock_counted)) [3] (by decide) rfl
  have hFc := va_free (wc := (ws_Ck_mayBeTold G a_w_clock x_w_clock_running x_w_clock_lastTold x_w_clock_counted)) hD hS hA [3] rfl
  refine q_call1 (va_runV (As := [.long p1]) (rest := []) ⟨hx, hb, hml, hown, hts⟩ (c_Ck_mayBeTold l G H.size a_w_clock p1 x_w_clock_running x_w_clock_lastTold x_w_clock_counted _ hy1) (cwV 1 hts (gV gw_260 gw_261 gw_262 gw_38 gw_263) rfl rfl rfl (by decide +kernel) ⟨Nat.le_of_ble_eq_true rfl, Nat.le_of_ble_eq_true rfl⟩) (pV hK hN hPc hDc (ci := 1) (q0 := 0) rfl rfl) rfl rfl hl.1 rfl (lv_room (Nat.le_of_ble_eq_true rfl)) d_PS_time_18 ⟨Nat.le_of_ble_eq_true rfl, Nat.le_of_ble_eq_true rfl⟩) hS (fun q _ h => hFc q h) hFc (fun H1 locs hB hz hk hS => ?_)
  obtain ⟨hP, hD⟩ := q_join (wr := [(a_t, .inr (5, [.int x_t_placeCount, .ref a_t_right, .ref a_t_persons, .int x_t_personCount, .ref a_t_table, .ref a_t_joining, .ref a_t_units, .int x_t_unitCount, .ref a_t_draft, .ref a_t_reader])), (a_t_persons, .inl (G.2 3, 8, .inr (.inr (.inr (.inr x_t_persons))))), (a_w, .inr (2, [.int x_w_number, .ref a_w_board, .ref a_w_clock, .int x_w_present, .int x_w_helpCount]))]) (wn := (ws_PS_time G a_t a_t_right a_t_table a_t_joining a_t_units a_t_draft a_t_reader a_t_persons a_w a_w_board a_w_clock x_t_placeCount x_t_personCount x_t_unitCount x_t_persons x_w_number x_w_present x_w_helpCount x_w_clock_running x_w_clock_lastTold x_w_clock_counted)) hP hD [3] [0, 1, 2] [0, 1, 2, 3] rfl rfl (by decide) (by decide) rfl (by decide) hk hFc hB.1 hB.2
  generalize H1 = H at hP hS ⊢
  replace hP : va_P G.1 vwCl (ws_PS_time G a_t a_t_right a_t_table a_t_joining a_t_units a_t_draft a_t_reader a_t_persons a_w a_w_board a_w_clock x_t_placeCount x_t_personCount x_t_unitCount x_t_persons x_w_number x_w_present x_w_helpCount x_w_clock_running x_w_clock_lastTold x_w_clock_counted) H := hP
  replace hD : va_D A (ws_PS_time G a_t a_t_right a_t_table a_t_joining a_t_units a_t_draft a_t_reader a_t_persons a_w a_w_board a_w_clock x_t_placeCount x_t_personCount x_t_unitCount x_t_persons x_w_number x_w_present x_w_helpCount x_w_clock_running x_w_clock_lastTold x_w_clock_counted) := hD
  refine lv_if_ne (tgt := 30) hx hb d_PS_time_21 (by decide) (fun c2 => ?_) (fun c2 => ?_)
  · replace h := (if_neg c2).symm.trans h
    refine lv_aload hx hb d_PS_time_30 (lv_at hl 0 rfl) ?_
    refine va_getN (D := G.1) (ci := 2) (v := .ref a_w_clock) (C := "PlayStates$Person") (T := TPn) (N := 5) hx hb hts iw_2 hown hK hP 2 rfl rfl 2 (by decide) (va_Nw.use rfl (hN.1 ("PlayStates", 142, "PlayStates$Person", "clock", "LPlayStates$Clock;", "PlayStates") (by decide +kernel))) (fun _ h9 => h9) rfl d_PS_time_32 ?_
    refine lv_lload_n hx hb d_PS_time_35 rfl (lv_at hl 3 rfl) ?_
    obtain ⟨y3, hy3, h⟩ := o_bind h
    have hPc := hP.sub (ws' := (ws_Ck_countUpTo G a_w_clock x_w_clock_running x_w_clock_lastTold x_w_clock_counted)) [3] rfl
    have hDc := hD.sub (ws' := (ws_Ck_countUpTo G a_w_clock x_w_clock_running x_w_clock_lastTold x_w_clock_counted)) [3] (by decide) rfl
    have hFc := va_free (wc := (ws_Ck_countUpTo G a_w_clock x_w_clock_running x_w_clock_lastTold x_w_clock_counted)) hD hS hA [3] rfl
    refine q_call1 (va_runV (As := [.long p1]) (rest := []) ⟨hx, hb, hml, hown, hts⟩ (c_Ck_countUpTo l G H.size a_w_clock p1 x_w_clock_running x_w_clock_lastTold x_w_clock_counted _ hy3) (cwV 1 hts (gV gw_277 gw_269 gw_270 gw_38 gw_271) rfl rfl rfl (by decide +kernel) ⟨Nat.le_of_ble_eq_true rfl, Nat.le_of_ble_eq_true rfl⟩) (pV hK hN hPc hDc (ci := 1) (q0 := 0) rfl rfl) rfl rfl hl.1 rfl (lv_room (Nat.le_of_ble_eq_true rfl)) d_PS_time_36 ⟨Nat.le_of_ble_eq_true rfl, Nat.le_of_ble_eq_true rfl⟩) hS (fun q _ h => hFc q h) hFc (fun H1 locs hB hz hk hS => ?_)
    obtain ⟨hP, hD⟩ := q_join (wr := [(a_t, .inr (5, [.int x_t_placeCount, .ref a_t_right, .ref a_t_persons, .int x_t_personCount, .ref a_t_table, .ref a_t_joining, .ref a_t_units, .int x_t_unitCount, .ref a_t_draft, .ref a_t_reader])), (a_t_persons, .inl (G.2 3, 8, .inr (.inr (.inr (.inr x_t_persons))))), (a_w, .inr (2, [.int x_w_number, .ref a_w_board, .ref a_w_clock, .int x_w_present, .int x_w_helpCount]))]) (wn := (ws_PS_time G a_t a_t_right a_t_table a_t_joining a_t_units a_t_draft a_t_reader a_t_persons a_w a_w_board a_w_clock x_t_placeCount x_t_personCount x_t_unitCount x_t_persons x_w_number x_w_present x_w_helpCount x_w_clock_running x_w_clock_lastTold x_w_clock_counted)) hP hD [3] [0, 1, 2] [0, 1, 2, 3] rfl rfl (by decide) (by decide) rfl (by decide) hk hFc hB.1 hB.2
    generalize H1 = H at hP hS ⊢
    replace hP : va_P G.1 vwCl (ws_PS_time G a_t a_t_right a_t_table a_t_joining a_t_units a_t_draft a_t_reader a_t_persons a_w a_w_board a_w_clock x_t_placeCount x_t_personCount x_t_unitCount x_t_persons x_w_number x_w_present x_w_helpCount x_w_clock_running x_w_clock_lastTold x_w_clock_counted) H := hP
    replace hD : va_D A (ws_PS_time G a_t a_t_right a_t_table a_t_joining a_t_units a_t_draft a_t_reader a_t_persons a_w a_w_board a_w_clock x_t_placeCount x_t_personCount x_t_unitCount x_t_persons x_w_number x_w_present x_w_helpCount x_w_clock_running x_w_clock_lastTold x_w_clock_counted) := hD
    cases h
    exact q_lretW hx hb hr hlocks hP hD hS d_PS_time_39
  · replace h := (if_pos c2).symm.trans h
    refine lv_ldc2 (v := (-1 : Int64)) hx hb hown (hts _ gw_276) d_PS_time_24 ?_
    refine lv_goto (tgt := 39) hx hb d_PS_time_27 (by decide) ?_
    cases h
    exact q_lretW hx hb hr hlocks hP hD hS d_PS_time_39


-- PlayStates.time(IJ)J 
def ws_PS_time_no (G : gG) (a_t a_t_right a_t_table a_t_joining a_t_units a_t_draft a_t_reader a_t_persons : Nat)  (x_t_placeCount : Int32) (x_t_personCount : Int32) (x_t_unitCount : Int32) (x_t_persons : Nat → Option Nat) : va_W := [(a_t, .inr (5, [.int x_t_placeCount, .ref a_t_right, .ref a_t_persons, .int x_t_personCount, .ref a_t_table, .ref a_t_joining, .ref a_t_units, .int x_t_unitCount, .ref a_t_draft, .ref a_t_reader])), (a_t_persons, .inl (G.2 3, 8, .inr (.inr (.inr (.inr x_t_persons)))))]
def f_PS_time_no  (p0 : Int32) (p1 : Int64) (x_t_placeCount : Int32) (x_t_personCount : Int32) (x_t_unitCount : Int32) (x_t_persons : Nat → Option Nat) : Option (Int64) :=
  some (-1 : Int64)
set_option maxHeartbeats 4000000 in
set_option maxRecDepth 100000 in
theorem c_PS_time_no (l : Launch) (G : gG) (sz : Nat) (a_t a_t_right a_t_table a_t_joining a_t_units a_t_draft a_t_reader a_t_persons : Nat)  (p0 : Int32) (p1 : Int64) (x_t_placeCount : Int32) (x_t_personCount : Int32) (x_t_unitCount : Int32) (x_t_persons : Nat → Option Nat) (r : Int64) (h : f_PS_time_no p0 p1 x_t_placeCount x_t_personCount x_t_unitCount x_t_persons = some r)  (hw : f_PS_find p0 x_t_placeCount x_t_personCount x_t_unitCount x_t_persons = some none) : cN l y_PS_time w_PS_time { frames := 1, cells := 0, slots := 0, locals := 21 } G sz [.ref a_t, .int p0, .long p1] (ws_PS_time_no G a_t a_t_right a_t_table a_t_joining a_t_units a_t_draft a_t_reader a_t_persons x_t_placeCount x_t_personCount x_t_unitCount x_t_persons) (some (.long r)) (wB G (ws_PS_time_no G a_t a_t_right a_t_table a_t_joining a_t_units a_t_draft a_t_reader a_t_persons x_t_placeCount x_t_personCount x_t_unitCount x_t_persons)) 0 0 := by
  refine cN_ofW (cc := prog_1_method_15_code) (maxL := 5) (ret := (some .long)) (by decide) rfl (Nat.le_of_ble_eq_true rfl) ?_
  intro p e s m args below meth c A H locs ls hx hb hr hts hown hlocks hin hml hK hN hP hD hA hS hl
  replace hl : lv_has ls 5 [(0, .ref a_t), (1, .int p0), (2, .long p1)] := hl
  replace hown : s.vm.findClass "PlayStates" = some m.cls := hown
  unfold f_PS_time_no at h
  refine lv_aload_n hx hb d_PS_time_0 rfl (lv_at hl 0 rfl) ?_
  refine lv_iload_n hx hb d_PS_time_1 rfl (lv_at hl 1 rfl) ?_
  have hPc := hP.sub (ws' := (ws_PS_find G a_t a_t_right a_t_table a_t_joining a_t_units a_t_draft a_t_reader a_t_persons x_t_placeCount x_t_personCount x_t_unitCount x_t_persons)) [0, 1] rfl
  have hDc := hD.sub (ws' := (ws_PS_find G a_t a_t_right a_t_table a_t_joining a_t_units a_t_draft a_t_reader a_t_persons x_t_placeCount x_t_personCount x_t_unitCount x_t_persons)) [0, 1] (by decide) rfl
  have hFc := va_free (wc := (ws_PS_find G a_t a_t_right a_t_table a_t_joining a_t_units a_t_draft a_t_reader a_t_persons x_t_placeCount x_t_personCount x_t_unitCount x_t_persons)) hD hS hA [0, 1] rfl
  refine q_call1 (va_runV (As := [.int p0]) (rest := []) ⟨hx, hb, hml, hown, hts⟩ (c_PS_find l G H.size a_t a_t_right a_t_table a_t_joining a_t_units a_t_draft a_t_reader a_t_persons p0 x_t_placeCount x_t_personCount x_t_unitCount x_t_persons _ hw) (cwV 1 hts (gV gw_163 gw_164 gw_2 gw_31 gw_165) rfl rfl rfl (by decide +kernel) ⟨Nat.le_of_ble_eq_true rfl, Nat.le_of_ble_eq_true rfl⟩) (pV hK hN hPc hDc (ci := 5) (q0 := 0) rfl rfl) rfl rfl hl.1 rfl (lv_room (Nat.le_of_ble_eq_true rfl)) d_PS_time_2 ⟨Nat.le_of_ble_eq_true rfl, Nat.le_of_ble_eq_true rfl⟩) hS (fun q _ h => hFc q h) hFc (fun H1 locs hB hz hk hS => ?_)
  obtain ⟨hP, hD⟩ := q_joinA hFc hB.1 hB.2
  generalize H1 = H at hP hS ⊢
  replace hP : va_P G.1 vwCl (ws_PS_time_no G a_t a_t_right a_t_table a_t_joining a_t_units a_t_draft a_t_reader a_t_persons x_t_placeCount x_t_personCount x_t_unitCount x_t_persons) H := hP
  replace hD : va_D A (ws_PS_time_no G a_t a_t_right a_t_table a_t_joining a_t_units a_t_draft a_t_reader a_t_persons x_t_placeCount x_t_personCount x_t_unitCount x_t_persons) := hD
  refine lv_astoreN (lv' := [(4, .null), (0, .ref a_t), (1, .int p0), (2, .long p1)]) hx hb d_PS_time_5 hl (by decide) rfl (fun ls hl => ?_)
  refine lv_aloadN hx hb d_PS_time_7 (lv_at hl 0 rfl) ?_
  refine lv_ifnullN (tgt := 24) hx hb d_PS_time_9 (by decide) ?_
  refine lv_ldc2 (v := (-1 : Int64)) hx hb hown (hts _ gw_276) d_PS_time_24 ?_
  refine lv_goto (tgt := 39) hx hb d_PS_time_27 (by decide) ?_
  cases h
  exact q_lretW hx hb hr hlocks hP hD hS d_PS_time_39
