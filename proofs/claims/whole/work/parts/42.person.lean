theorem gw_128 : (.code ⟨"PlayStates", "hasRoomForPerson", "()Z"⟩ prog_1_method_26_code 1 (some .boolean) : Cond) ∈ GW := gT 134 (by decide +kernel) (by decide +kernel)
theorem gw_126 : (.methodLink "PlayStates" 64 ⟨"PlayStates", "hasRoomForPerson", "()Z"⟩ : Cond) ∈ GW := gT 131 (by decide +kernel) (by decide +kernel)
theorem gw_127 : (.instanceMethod ⟨"PlayStates", "hasRoomForPerson", "()Z"⟩ : Cond) ∈ GW := gT 133 (by decide +kernel) (by decide +kernel)
theorem gw_0 : (.selects "PlayStates" ⟨"PlayStates", "hasRoomForPerson", "()Z"⟩ ⟨"PlayStates", "hasRoomForPerson", "()Z"⟩ : Cond) ∈ GW := gP 0 (by decide +kernel) (by decide +kernel)
theorem gw_130 : (.instanceMethod ⟨"PlayStates", "addPerson", "()LPlayStates$Person;"⟩ : Cond) ∈ GW := gT 137 (by decide +kernel) (by decide +kernel)
theorem gw_131 : (.code ⟨"PlayStates", "addPerson", "()LPlayStates$Person;"⟩ prog_1_method_27_code 2 (some (.object "PlayStates$Person")) : Cond) ∈ GW := gT 138 (by decide +kernel) (by decide +kernel)
theorem gw_129 : (.methodLink "PlayStates" 68 ⟨"PlayStates", "addPerson", "()LPlayStates$Person;"⟩ : Cond) ∈ GW := gT 135 (by decide +kernel) (by decide +kernel)
theorem gw_1 : (.selects "PlayStates" ⟨"PlayStates", "addPerson", "()LPlayStates$Person;"⟩ ⟨"PlayStates", "addPerson", "()LPlayStates$Person;"⟩ : Cond) ∈ GW := gP 1 (by decide +kernel) (by decide +kernel)
theorem d_PS_person_0 : decode prog_1_method_2_code 0 = .ok (.aload_n 0, 1) := by decide +kernel
theorem d_PS_person_1 : decode prog_1_method_2_code 1 = .ok (.invokevirtual 64, 3) := by decide +kernel
theorem d_PS_person_4 : decode prog_1_method_2_code 4 = .ok (.ifCond .eq 13, 3) := by decide +kernel
theorem d_PS_person_7 : decode prog_1_method_2_code 7 = .ok (.aload_n 0, 1) := by decide +kernel
theorem d_PS_person_8 : decode prog_1_method_2_code 8 = .ok (.invokevirtual 68, 3) := by decide +kernel
theorem d_PS_person_11 : decode prog_1_method_2_code 11 = .ok (.getfield 72, 3) := by decide +kernel
theorem d_PS_person_14 : decode prog_1_method_2_code 14 = .ok (.goto 4, 3) := by decide +kernel
theorem d_PS_person_17 : decode prog_1_method_2_code 17 = .ok (.iconst (-1), 1) := by decide +kernel
theorem d_PS_person_18 : decode prog_1_method_2_code 18 = .ok (.ireturn, 1) := by decide +kernel
-- PlayStates.person()I 
set_option maxHeartbeats 4000000 in
set_option maxRecDepth 100000 in
theorem c_PS_person (l : Launch) (G : gG) (sz : Nat) (a_t a_t_right a_t_table a_t_joining a_t_units a_t_draft a_t_reader a_t_persons : Nat) (n k : Nat) (h81 : n ≤ 81) (hk8 : k < 8)   (x_t_unitCount : Int32) (x_t_persons : Nat → Option Nat)  (y1 : Int32) (hy1 : f_PS_hasRoomForPerson (nI n) (nI k) x_t_unitCount = some y1) (c2 : ¬ y1 = 0) : cN l y_PS_person w_PS_person { frames := 4, cells := 5, slots := 172, locals := 84 } G sz [.ref a_t] [(a_t, .inr (5, [.int (nI n), .ref a_t_right, .ref a_t_persons, .int (nI k), .ref a_t_table, .ref a_t_joining, .ref a_t_units, .int x_t_unitCount, .ref a_t_draft, .ref a_t_reader])), (a_t_persons, .inl (G.2 3, 8, .inr (.inr (.inr (.inr x_t_persons)))))] (some (.int (nI k))) (fun (A : Nat → Prop) (H : Heap) => ∃ q3 q4 q5 q6 q7 : Nat, va_P G.1 vwCl [(a_t, .inr (5, [.int (nI n), .ref a_t_right, .ref a_t_persons, .int ((nI k) + (1 : Int32)), .ref a_t_table, .ref a_t_joining, .ref a_t_units, .int x_t_unitCount, .ref a_t_draft, .ref a_t_reader])), (a_t_persons, .inl (G.2 3, 8, .inr (.inr (.inr (.inr (va_up x_t_persons (nI k).toNatClampNeg (some q3))))))), (q3, .inr (2, [.int (nI k), .ref q4, .ref q7, .int ((-1 : Int32) - (nI k)), .int (0 : Int32)])), (q4, .inr (0, [.ref q5, .ref q6])), (q5, .inl (G.2 0, n, .inl (fun _ => 0))), (q6, .inl (G.2 0, n, .inl (fun _ => 0))), (q7, .inr (1, [.int (0 : Int32), .long (0 : Int64), .long (0 : Int64)]))] H ∧ va_D A [(a_t, .inr (5, [.int (nI n), .ref a_t_right, .ref a_t_persons, .int ((nI k) + (1 : Int32)), .ref a_t_table, .ref a_t_joining, .ref a_t_units, .int x_t_unitCount, .ref a_t_draft, .ref a_t_reader])), (a_t_persons, .inl (G.2 3, 8, .inr (.inr (.inr (.inr (va_up x_t_persons (nI k).toNatClampNeg (some q3))))))), (q3, .inr (2, [.int (nI k), .ref q4, .ref q7, .int ((-1 : Int32) - (nI k)), .int (0 : Int32)])), (q4, .inr (0, [.ref q5, .ref q6])), (q5, .inl (G.2 0, n, .inl (fun _ => 0))), (q6, .inl (G.2 0, n, .inl (fun _ => 0))), (q7, .inr (1, [.int (0 : Int32), .long (0 : Int64), .long (0 : Int64)]))]) 5 172 := by
  refine cN_ofW (cc := prog_1_method_2_code) (maxL := 1) (ret := (some .int)) (by decide) rfl (Nat.le_of_ble_eq_true rfl) ?_
  intro p e s m args below meth c A H locs ls hx hb hr hts hown hlocks hin hml hK hN hP hD hA hS hl
  replace hl : lv_has ls 1 [(0, .ref a_t)] := hl
  replace hown : s.vm.findClass "PlayStates" = some m.cls := hown
  refine lv_aload_n hx hb d_PS_person_0 rfl (lv_at hl 0 rfl) ?_
  have hPc := hP.sub (ws' := (ws_PS_hasRoomForPerson G a_t a_t_right a_t_persons a_t_table a_t_joining a_t_units a_t_draft a_t_reader (nI n) (nI k) x_t_unitCount)) [0] rfl
  have hDc := hD.sub (ws' := (ws_PS_hasRoomForPerson G a_t a_t_right a_t_persons a_t_table a_t_joining a_t_units a_t_draft a_t_reader (nI n) (nI k) x_t_unitCount)) [0] (by decide) rfl
  have hFc := va_free (wc := (ws_PS_hasRoomForPerson G a_t a_t_right a_t_persons a_t_table a_t_joining a_t_units a_t_draft a_t_reader (nI n) (nI k) x_t_unitCount)) hD hS hA [0] rfl
  refine q_call1 (va_runV (As := []) (rest := []) ⟨hx, hb, hml, hown, hts⟩ (c_PS_hasRoomForPerson l G H.size a_t a_t_right a_t_persons a_t_table a_t_joining a_t_units a_t_draft a_t_reader (nI n) (nI k) x_t_unitCount _ hy1) (cwV 0 hts (gV gw_126 gw_127 gw_0 gw_31 gw_128) rfl rfl rfl (by decide +kernel) ⟨Nat.le_of_ble_eq_true rfl, Nat.le_of_ble_eq_true rfl⟩) (pV hK hN hPc hDc (ci := 5) (q0 := 0) rfl rfl) rfl rfl hl.1 rfl (lv_room (Nat.le_of_ble_eq_true rfl)) d_PS_person_1 ⟨Nat.le_of_ble_eq_true rfl, Nat.le_of_ble_eq_true rfl⟩) hS (fun q _ h => hFc q h) hFc (fun H1 locs hB hz hk hS => ?_)
  obtain ⟨hP, hD⟩ := q_join (wr := [(a_t_persons, .inl (G.2 3, 8, .inr (.inr (.inr (.inr x_t_persons)))))]) (wn := [(a_t, .inr (5, [.int (nI n), .ref a_t_right, .ref a_t_persons, .int (nI k), .ref a_t_table, .ref a_t_joining, .ref a_t_units, .int x_t_unitCount, .ref a_t_draft, .ref a_t_reader])), (a_t_persons, .inl (G.2 3, 8, .inr (.inr (.inr (.inr x_t_persons)))))]) hP hD [0] [1] [1, 0] rfl rfl (by decide) (by decide) rfl (by decide) hk hFc hB.1 hB.2
  generalize H1 = H at hP hS ⊢
  replace hP : va_P G.1 vwCl [(a_t, .inr (5, [.int (nI n), .ref a_t_right, .ref a_t_persons, .int (nI k), .ref a_t_table, .ref a_t_joining, .ref a_t_units, .int x_t_unitCount, .ref a_t_draft, .ref a_t_reader])), (a_t_persons, .inl (G.2 3, 8, .inr (.inr (.inr (.inr x_t_persons)))))] H := hP
  replace hD : va_D A [(a_t, .inr (5, [.int (nI n), .ref a_t_right, .ref a_t_persons, .int (nI k), .ref a_t_table, .ref a_t_joining, .ref a_t_units, .int x_t_unitCount, .ref a_t_draft, .ref a_t_reader])), (a_t_persons, .inl (G.2 3, 8, .inr (.inr (.inr (.inr x_t_persons)))))] := hD
  refine lv_if_eq (tgt := 17) hx hb d_PS_person_4 (by decide) (fun z9 => False.elim (by first | exact z9 c2 | exact c2 z9)) (fun z9 => ?_)
  refine lv_aload_n hx hb d_PS_person_7 rfl (lv_at hl 0 rfl) ?_
  have hPc := hP.sub (ws' := [(a_t, .inr (5, [.int (nI n), .ref a_t_right, .ref a_t_persons, .int (nI k), .ref a_t_table, .ref a_t_joining, .ref a_t_units, .int x_t_unitCount, .ref a_t_draft, .ref a_t_reader])), (a_t_persons, .inl (G.2 3, 8, .inr (.inr (.inr (.inr x_t_persons)))))]) [0, 1] rfl
  have hDc := hD.sub (ws' := [(a_t, .inr (5, [.int (nI n), .ref a_t_right, .ref a_t_persons, .int (nI k), .ref a_t_table, .ref a_t_joining, .ref a_t_units, .int x_t_unitCount, .ref a_t_draft, .ref a_t_reader])), (a_t_persons, .inl (G.2 3, 8, .inr (.inr (.inr (.inr x_t_persons)))))]) [0, 1] (by decide) rfl
  have hFc := va_free (wc := [(a_t, .inr (5, [.int (nI n), .ref a_t_right, .ref a_t_persons, .int (nI k), .ref a_t_table, .ref a_t_joining, .ref a_t_units, .int x_t_unitCount, .ref a_t_draft, .ref a_t_reader])), (a_t_persons, .inl (G.2 3, 8, .inr (.inr (.inr (.inr x_t_persons)))))]) hD hS hA [0, 1] rfl
  refine q_callE (va_runV (As := []) (rest := []) ⟨hx, hb, hml, hown, hts⟩ (c_PS_addPerson l G H.size a_t a_t_right a_t_table a_t_joining a_t_units a_t_draft a_t_reader a_t_persons n k h81 hk8 x_t_unitCount x_t_persons) (cwV 0 hts (gV gw_129 gw_130 gw_1 gw_31 gw_131) rfl rfl rfl (by decide +kernel) ⟨Nat.le_of_ble_eq_true rfl, Nat.le_of_ble_eq_true rfl⟩) (pV hK hN hPc hDc (ci := 5) (q0 := 0) rfl rfl) rfl rfl hl.1 rfl (lv_room (Nat.le_of_ble_eq_true rfl)) d_PS_person_8 ⟨(by decide), (by decide)⟩) hS (fun q _ h => hFc q h) hFc (fun rv H1 locs hB hz hk hS => ?_)
  obtain ⟨q3, q4, q5, q6, q7, rfl, hP1, hD1⟩ := hB
  obtain ⟨hP, hD⟩ := q_join (wr := []) (wn := [(a_t, .inr (5, [.int (nI n), .ref a_t_right, .ref a_t_persons, .int ((nI k) + (1 : Int32)), .ref a_t_table, .ref a_t_joining, .ref a_t_units, .int x_t_unitCount, .ref a_t_draft, .ref a_t_reader])), (a_t_persons, .inl (G.2 3, 8, .inr (.inr (.inr (.inr (va_up x_t_persons (nI k).toNatClampNeg (some q3))))))), (q3, .inr (2, [.int (nI k), .ref q4, .ref q7, .int ((-1 : Int32) - (nI k)), .int (0 : Int32)])), (q4, .inr (0, [.ref q5, .ref q6])), (q5, .inl (G.2 0, n, .inl (fun _ => 0))), (q6, .inl (G.2 0, n, .inl (fun _ => 0))), (q7, .inr (1, [.int (0 : Int32), .long (0 : Int64), .long (0 : Int64)]))]) hP hD [0, 1] [] [0, 1, 2, 3, 4, 5, 6] rfl rfl (by decide) (by decide) rfl (by decide) hk hFc hP1 hD1
  generalize H1 = H at hP hS ⊢
  refine W.widen (k := 5) (n := 172) (by omega) (by omega) ?_
  replace hP : va_P G.1 vwCl [(a_t, .inr (5, [.int (nI n), .ref a_t_right, .ref a_t_persons, .int ((nI k) + (1 : Int32)), .ref a_t_table, .ref a_t_joining, .ref a_t_units, .int x_t_unitCount, .ref a_t_draft, .ref a_t_reader])), (a_t_persons, .inl (G.2 3, 8, .inr (.inr (.inr (.inr (va_up x_t_persons (nI k).toNatClampNeg (some q3))))))), (q3, .inr (2, [.int (nI k), .ref q4, .ref q7, .int ((-1 : Int32) - (nI k)), .int (0 : Int32)])), (q4, .inr (0, [.ref q5, .ref q6])), (q5, .inl (G.2 0, n, .inl (fun _ => 0))), (q6, .inl (G.2 0, n, .inl (fun _ => 0))), (q7, .inr (1, [.int (0 : Int32), .long (0 : Int64), .long (0 : Int64)]))] H := hP
  replace hD : va_D A [(a_t, .inr (5, [.int (nI n), .ref a_t_right, .ref a_t_persons, .int ((nI k) + (1 : Int32)), .ref a_t_table, .ref a_t_joining, .ref a_t_units, .int x_t_unitCount, .ref a_t_draft, .ref a_t_reader])), (a_t_persons, .inl (G.2 3, 8, .inr (.inr (.inr (.inr (va_up x_t_persons (nI k).toNatClampNeg (some q3))))))), (q3, .inr (2, [.int (nI k), .ref q4, .ref q7, .int ((-1 : Int32) - (nI k)), .int (0 : Int32)])), (q4, .inr (0, [.ref q5, .ref q6])), (q5, .inl (G.2 0, n, .inl (fun _ => 0))), (q6, .inl (G.2 0, n, .inl (fun _ => 0))), (q7, .inr (1, [.int (0 : Int32), .long (0 : Int64), .long (0 : Int64)]))] := hD
  refine va_getN (D := G.1) (ci := 2) (v := .int (nI k)) (C := "PlayStates$Person") (T := TPn) (N := 5) hx hb hts iw_2 hown hK hP 2 rfl rfl 0 (by decide) (va_Nw.use rfl (hN.1 ("PlayStates", 72, "PlayStates$Person", "number", "I", "PlayStates") (by decide +kernel))) (fun _ h9 => h9) rfl d_PS_person_11 ?_
  refine lv_goto (tgt := 18) hx hb d_PS_person_14 (by decide) ?_
  refine q_iretB hx hb hr hlocks ?_ hS d_PS_person_18
  exact ⟨q3, q4, q5, q6, q7, hP, hD⟩


-- PlayStates.person()I 
set_option maxHeartbeats 4000000 in
set_option maxRecDepth 100000 in
theorem c_PS_person_no (l : Launch) (G : gG) (sz : Nat) (a_t a_t_right a_t_persons a_t_table a_t_joining a_t_units a_t_draft a_t_reader : Nat)    (x_t_placeCount : Int32) (x_t_personCount : Int32) (x_t_unitCount : Int32)  (y1 : Int32) (hy1 : f_PS_hasRoomForPerson x_t_placeCount x_t_personCount x_t_unitCount = some y1) (c2 : y1 = 0) : cN l y_PS_person w_PS_person { frames := 1, cells := 0, slots := 0, locals := 20 } G sz [.ref a_t] [(a_t, .inr (5, [.int x_t_placeCount, .ref a_t_right, .ref a_t_persons, .int x_t_personCount, .ref a_t_table, .ref a_t_joining, .ref a_t_units, .int x_t_unitCount, .ref a_t_draft, .ref a_t_reader]))] (some (.int (-1 : Int32))) (fun (A : Nat → Prop) (H : Heap) => va_P G.1 vwCl [(a_t, .inr (5, [.int x_t_placeCount, .ref a_t_right, .ref a_t_persons, .int x_t_personCount, .ref a_t_table, .ref a_t_joining, .ref a_t_units, .int x_t_unitCount, .ref a_t_draft, .ref a_t_reader]))] H ∧ va_D A [(a_t, .inr (5, [.int x_t_placeCount, .ref a_t_right, .ref a_t_persons, .int x_t_personCount, .ref a_t_table, .ref a_t_joining, .ref a_t_units, .int x_t_unitCount, .ref a_t_draft, .ref a_t_reader]))]) 0 0 := by
  refine cN_ofW (cc := prog_1_method_2_code) (maxL := 1) (ret := (some .int)) (by decide) rfl (Nat.le_of_ble_eq_true rfl) ?_
  intro p e s m args below meth c A H locs ls hx hb hr hts hown hlocks hin hml hK hN hP hD hA hS hl
  replace hl : lv_has ls 1 [(0, .ref a_t)] := hl
  replace hown : s.vm.findClass "PlayStates" = some m.cls := hown
  refine lv_aload_n hx hb d_PS_person_0 rfl (lv_at hl 0 rfl) ?_
  have hPc := hP.sub (ws' := (ws_PS_hasRoomForPerson G a_t a_t_right a_t_persons a_t_table a_t_joining a_t_units a_t_draft a_t_reader x_t_placeCount x_t_personCount x_t_unitCount)) [0] rfl
  have hDc := hD.sub (ws' := (ws_PS_hasRoomForPerson G a_t a_t_right a_t_persons a_t_table a_t_joining a_t_units a_t_draft a_t_reader x_t_placeCount x_t_personCount x_t_unitCount)) [0] (by decide) rfl
  have hFc := va_free (wc := (ws_PS_hasRoomForPerson G a_t a_t_right a_t_persons a_t_table a_t_joining a_t_units a_t_draft a_t_reader x_t_placeCount x_t_personCount x_t_unitCount)) hD hS hA [0] rfl
  refine q_call1 (va_runV (As := []) (rest := []) ⟨hx, hb, hml, hown, hts⟩ (c_PS_hasRoomForPerson l G H.size a_t a_t_right a_t_persons a_t_table a_t_joining a_t_units a_t_draft a_t_reader x_t_placeCount x_t_personCount x_t_unitCount _ hy1) (cwV 0 hts (gV gw_126 gw_127 gw_0 gw_31 gw_128) rfl rfl rfl (by decide +kernel) ⟨Nat.le_of_ble_eq_true rfl, Nat.le_of_ble_eq_true rfl⟩) (pV hK hN hPc hDc (ci := 5) (q0 := 0) rfl rfl) rfl rfl hl.1 rfl (lv_room (Nat.le_of_ble_eq_true rfl)) d_PS_person_1 ⟨Nat.le_of_ble_eq_true rfl, Nat.le_of_ble_eq_true rfl⟩) hS (fun q _ h => hFc q h) hFc (fun H1 locs hB hz hk hS => ?_)
  obtain ⟨hP, hD⟩ := q_joinA hFc hB.1 hB.2
  generalize H1 = H at hP hS ⊢
  replace hP : va_P G.1 vwCl [(a_t, .inr (5, [.int x_t_placeCount, .ref a_t_right, .ref a_t_persons, .int x_t_personCount, .ref a_t_table, .ref a_t_joining, .ref a_t_units, .int x_t_unitCount, .ref a_t_draft, .ref a_t_reader]))] H := hP
  replace hD : va_D A [(a_t, .inr (5, [.int x_t_placeCount, .ref a_t_right, .ref a_t_persons, .int x_t_personCount, .ref a_t_table, .ref a_t_joining, .ref a_t_units, .int x_t_unitCount, .ref a_t_draft, .ref a_t_reader]))] := hD
  refine lv_if_eq (tgt := 17) hx hb d_PS_person_4 (by decide) (fun z9 => ?_) (fun z9 => False.elim (by first | exact z9 c2 | exact c2 z9))
  refine lv_iconst (v := (-1 : Int32)) hx hb d_PS_person_17 (by decide) ?_
  refine q_iretB hx hb hr hlocks ?_ hS d_PS_person_18
  exact ⟨hP, hD⟩

theorem d_PS_join_0 : decode prog_1_method_16_code 0 = .ok (.aload_n 0, 1) := by decide +kernel
theorem d_PS_join_1 : decode prog_1_method_16_code 1 = .ok (.iload_n 1, 1) := by decide +kernel
theorem d_PS_join_2 : decode prog_1_method_16_code 2 = .ok (.invokevirtual 75, 3) := by decide +kernel
theorem d_PS_join_5 : decode prog_1_method_16_code 5 = .ok (.astore_n 3, 1) := by decide +kernel
theorem d_PS_join_6 : decode prog_1_method_16_code 6 = .ok (.aload_n 0, 1) := by decide +kernel
theorem d_PS_join_7 : decode prog_1_method_16_code 7 = .ok (.iload_n 2, 1) := by decide +kernel
theorem d_PS_join_8 : decode prog_1_method_16_code 8 = .ok (.invokevirtual 75, 3) := by decide +kernel
theorem d_PS_join_11 : decode prog_1_method_16_code 11 = .ok (.astore 4, 2) := by decide +kernel
theorem d_PS_join_13 : decode prog_1_method_16_code 13 = .ok (.aload_n 3, 1) := by decide +kernel
theorem d_PS_join_14 : decode prog_1_method_16_code 14 = .ok (.ifnull 20, 3) := by decide +kernel
theorem d_PS_join_17 : decode prog_1_method_16_code 17 = .ok (.aload 4, 2) := by decide +kernel
theorem d_PS_join_19 : decode prog_1_method_16_code 19 = .ok (.ifnull 15, 3) := by decide +kernel
theorem d_PS_join_22 : decode prog_1_method_16_code 22 = .ok (.iload_n 1, 1) := by decide +kernel
theorem d_PS_join_23 : decode prog_1_method_16_code 23 = .ok (.iload_n 2, 1) := by decide +kernel
theorem d_PS_join_24 : decode prog_1_method_16_code 24 = .ok (.if_icmp .eq 10, 3) := by decide +kernel
theorem d_PS_join_27 : decode prog_1_method_16_code 27 = .ok (.aload_n 0, 1) := by decide +kernel
theorem d_PS_join_28 : decode prog_1_method_16_code 28 = .ok (.invokevirtual 64, 3) := by decide +kernel
theorem d_PS_join_31 : decode prog_1_method_16_code 31 = .ok (.ifCond .ne 5, 3) := by decide +kernel
theorem d_PS_join_34 : decode prog_1_method_16_code 34 = .ok (.iconst (-1), 1) := by decide +kernel
theorem d_PS_join_35 : decode prog_1_method_16_code 35 = .ok (.ireturn, 1) := by decide +kernel
theorem d_PS_join_36 : decode prog_1_method_16_code 36 = .ok (.aload_n 0, 1) := by decide +kernel
theorem d_PS_join_37 : decode prog_1_method_16_code 37 = .ok (.aload_n 3, 1) := by decide +kernel
theorem d_PS_join_38 : decode prog_1_method_16_code 38 = .ok (.getfield 93, 3) := by decide +kernel
theorem d_PS_join_41 : decode prog_1_method_16_code 41 = .ok (.aload 4, 2) := by decide +kernel
theorem d_PS_join_43 : decode prog_1_method_16_code 43 = .ok (.getfield 93, 3) := by decide +kernel
theorem d_PS_join_46 : decode prog_1_method_16_code 46 = .ok (.invokevirtual 162, 3) := by decide +kernel
theorem d_PS_join_49 : decode prog_1_method_16_code 49 = .ok (.aload_n 0, 1) := by decide +kernel
theorem d_PS_join_50 : decode prog_1_method_16_code 50 = .ok (.getfield 35, 3) := by decide +kernel
theorem d_PS_join_53 : decode prog_1_method_16_code 53 = .ok (.aload_n 0, 1) := by decide +kernel
theorem d_PS_join_54 : decode prog_1_method_16_code 54 = .ok (.invokevirtual 165, 3) := by decide +kernel
theorem d_PS_join_57 : decode prog_1_method_16_code 57 = .ok (.invokevirtual 169, 3) := by decide +kernel
theorem d_PS_join_60 : decode prog_1_method_16_code 60 = .ok (.ifCond .ne 5, 3) := by decide +kernel
theorem d_PS_join_63 : decode prog_1_method_16_code 63 = .ok (.iconst (-1), 1) := by decide +kernel
theorem d_PS_join_64 : decode prog_1_method_16_code 64 = .ok (.ireturn, 1) := by decide +kernel
theorem d_PS_join_65 : decode prog_1_method_16_code 65 = .ok (.aload_n 0, 1) := by decide +kernel
theorem d_PS_join_66 : decode prog_1_method_16_code 66 = .ok (.invokevirtual 68, 3) := by decide +kernel
theorem d_PS_join_69 : decode prog_1_method_16_code 69 = .ok (.astore 5, 2) := by decide +kernel
theorem d_PS_join_71 : decode prog_1_method_16_code 71 = .ok (.aload_n 0, 1) := by decide +kernel
theorem d_PS_join_72 : decode prog_1_method_16_code 72 = .ok (.aload 5, 2) := by decide +kernel
theorem d_PS_join_74 : decode prog_1_method_16_code 74 = .ok (.invokevirtual 172, 3) := by decide +kernel
theorem d_PS_join_77 : decode prog_1_method_16_code 77 = .ok (.aload 5, 2) := by decide +kernel
theorem d_PS_join_79 : decode prog_1_method_16_code 79 = .ok (.getfield 72, 3) := by decide +kernel
theorem d_PS_join_82 : decode prog_1_method_16_code 82 = .ok (.ireturn, 1) := by decide +kernel
-- PlayStates.join(II)I 
set_option maxHeartbeats 4000000 in
set_option maxRecDepth 100000 in
theorem c_PS_join_a1 (l : Launch) (G : gG) (sz : Nat) (a_t a_t_right a_t_table a_t_joining a_t_units a_t_draft a_t_reader a_t_persons : Nat)   (p0 : Int32) (p1 : Int32) (x_t_placeCount : Int32) (x_t_personCount : Int32) (x_t_unitCount : Int32) (x_t_persons : Nat → Option Nat)  (hw : f_PS_find p0 x_t_placeCount x_t_personCount x_t_unitCount x_t_persons = some none) (hv : f_PS_find p1 x_t_placeCount x_t_personCount x_t_unitCount x_t_persons = some none) : cN l y_PS_join w_PS_join { frames := 1, cells := 0, slots := 0, locals := 21 } G sz [.ref a_t, .int p0, .int p1] [(a_t, .inr (5, [.int x_t_placeCount, .ref a_t_right, .ref a_t_persons, .int x_t_personCount, .ref a_t_table, .ref a_t_joining, .ref a_t_units, .int x_t_unitCount, .ref a_t_draft, .ref a_t_reader])), (a_t_persons, .inl (G.2 3, 8, .inr (.inr (.inr (.inr x_t_persons)))))] (some (.int (-1 : Int32))) (fun (A : Nat → Prop) (H : Heap) => va_P G.1 vwCl [(a_t, .inr (5, [.int x_t_placeCount, .ref a_t_right, .ref a_t_persons, .int x_t_personCount, .ref a_t_table, .ref a_t_joining, .ref a_t_units, .int x_t_unitCount, .ref a_t_draft, .ref a_t_reader])), (a_t_persons, .inl (G.2 3, 8, .inr (.inr (.inr (.inr x_t_persons)))))] H ∧ va_D A [(a_t, .inr (5, [.int x_t_placeCount, .ref a_t_right, .ref a_t_persons, .int x_t_personCount, .ref a_t_table, .ref a_t_joining, .ref a_t_units, .int x_t_unitCount, .ref a_t_draft, .ref a_t_reader])), (a_t_persons, .inl (G.2 3, 8, .inr (.inr (.inr (.inr x_t_persons)))))]) 0 0 := by
  refine cN_ofW (cc := prog_1_method_16_code) (maxL := 6) (ret := (some .int)) (by decide) rfl (Nat.le_of_ble_eq_true rfl) ?_
  intro p e s m args below meth c A H locs ls hx hb hr hts hown hlocks hin hml hK hN hP hD hA hS hl
  replace hl : lv_has ls 6 [(0, .ref a_t), (1, .int p0), (2, .int p1)] := hl
  replace hown : s.vm.findClass "PlayStates" = some m.cls := hown
  refine lv_aload_n hx hb d_PS_join_0 rfl (lv_at hl 0 rfl) ?_
  refine lv_iload_n hx hb d_PS_join_1 rfl (lv_at hl 1 rfl) ?_
  have hPc := hP.sub (ws' := (ws_PS_find G a_t a_t_right a_t_table a_t_joining a_t_units a_t_draft a_t_reader a_t_persons x_t_placeCount x_t_personCount x_t_unitCount x_t_persons)) [0, 1] rfl
  have hDc := hD.sub (ws' := (ws_PS_find G a_t a_t_right a_t_table a_t_joining a_t_units a_t_draft a_t_reader a_t_persons x_t_placeCount x_t_personCount x_t_unitCount x_t_persons)) [0, 1] (by decide) rfl
  have hFc := va_free (wc := (ws_PS_find G a_t a_t_right a_t_table a_t_joining a_t_units a_t_draft a_t_reader a_t_persons x_t_placeCount x_t_personCount x_t_unitCount x_t_persons)) hD hS hA [0, 1] rfl
  refine q_call1 (va_runV (As := [.int p0]) (rest := []) ⟨hx, hb, hml, hown, hts⟩ (c_PS_find l G H.size a_t a_t_right a_t_table a_t_joining a_t_units a_t_draft a_t_reader a_t_persons p0 x_t_placeCount x_t_personCount x_t_unitCount x_t_persons _ hw) (cwV 1 hts (gV gw_163 gw_164 gw_2 gw_31 gw_165) rfl rfl rfl (by decide +kernel) ⟨Nat.le_of_ble_eq_true rfl, Nat.le_of_ble_eq_true rfl⟩) (pV hK hN hPc hDc (ci := 5) (q0 := 0) rfl rfl) rfl rfl hl.1 rfl (lv_room (Nat.le_of_ble_eq_true rfl)) d_PS_join_2 ⟨Nat.le_of_ble_eq_true rfl, Nat.le_of_ble_eq_true rfl⟩) hS (fun q _ h => hFc q h) hFc (fun H1 locs hB hz hk hS => ?_)
  obtain ⟨hP, hD⟩ := q_joinA hFc hB.1 hB.2
  generalize H1 = H at hP hS ⊢
  replace hP : va_P G.1 vwCl [(a_t, .inr (5, [.int x_t_placeCount, .ref a_t_right, .ref a_t_persons, .int x_t_personCount, .ref a_t_table, .ref a_t_joining, .ref a_t_units, .int x_t_unitCount, .ref a_t_draft, .ref a_t_reader])), (a_t_persons, .inl (G.2 3, 8, .inr (.inr (.inr (.inr x_t_persons)))))] H := hP
  replace hD : va_D A [(a_t, .inr (5, [.int x_t_placeCount, .ref a_t_right, .ref a_t_persons, .int x_t_personCount, .ref a_t_table, .ref a_t_joining, .ref a_t_units, .int x_t_unitCount, .ref a_t_draft, .ref a_t_reader])), (a_t_persons, .inl (G.2 3, 8, .inr (.inr (.inr (.inr x_t_persons)))))] := hD
  refine lv_astore_nN (lv' := [(3, .null), (0, .ref a_t), (1, .int p0), (2, .int p1)]) hx hb d_PS_join_5 rfl hl (by decide) rfl (fun ls hl => ?_)
  refine lv_aload_n hx hb d_PS_join_6 rfl (lv_at hl 1 rfl) ?_
  refine lv_iload_n hx hb d_PS_join_7 rfl (lv_at hl 3 rfl) ?_
  have hPc := hP.sub (ws' := (ws_PS_find G a_t a_t_right a_t_table a_t_joining a_t_units a_t_draft a_t_reader a_t_persons x_t_placeCount x_t_personCount x_t_unitCount x_t_persons)) [0, 1] rfl
  have hDc := hD.sub (ws' := (ws_PS_find G a_t a_t_right a_t_table a_t_joining a_t_units a_t_draft a_t_reader a_t_persons x_t_placeCount x_t_personCount x_t_unitCount x_t_persons)) [0, 1] (by decide) rfl
  have hFc := va_free (wc := (ws_PS_find G a_t a_t_right a_t_table a_t_joining a_t_units a_t_draft a_t_reader a_t_persons x_t_placeCount x_t_personCount x_t_unitCount x_t_persons)) hD hS hA [0, 1] rfl
  refine q_call1 (va_runV (As := [.int p1]) (rest := []) ⟨hx, hb, hml, hown, hts⟩ (c_PS_find l G H.size a_t a_t_right a_t_table a_t_joining a_t_units a_t_draft a_t_reader a_t_persons p1 x_t_placeCount x_t_personCount x_t_unitCount x_t_persons _ hv) (cwV 1 hts (gV gw_163 gw_164 gw_2 gw_31 gw_165) rfl rfl rfl (by decide +kernel) ⟨Nat.le_of_ble_eq_true rfl, Nat.le_of_ble_eq_true rfl⟩) (pV hK hN hPc hDc (ci := 5) (q0 := 0) rfl rfl) rfl rfl hl.1 rfl (lv_room (Nat.le_of_ble_eq_true rfl)) d_PS_join_8 ⟨Nat.le_of_ble_eq_true rfl, Nat.le_of_ble_eq_true rfl⟩) hS (fun q _ h => hFc q h) hFc (fun H1 locs hB hz hk hS => ?_)
  obtain ⟨hP, hD⟩ := q_joinA hFc hB.1 hB.2
  generalize H1 = H at hP hS ⊢
  replace hP : va_P G.1 vwCl [(a_t, .inr (5, [.int x_t_placeCount, .ref a_t_right, .ref a_t_persons, .int x_t_personCount, .ref a_t_table, .ref a_t_joining, .ref a_t_units, .int x_t_unitCount, .ref a_t_draft, .ref a_t_reader])), (a_t_persons, .inl (G.2 3, 8, .inr (.inr (.inr (.inr x_t_persons)))))] H := hP
  replace hD : va_D A [(a_t, .inr (5, [.int x_t_placeCount, .ref a_t_right, .ref a_t_persons, .int x_t_personCount, .ref a_t_table, .ref a_t_joining, .ref a_t_units, .int x_t_unitCount, .ref a_t_draft, .ref a_t_reader])), (a_t_persons, .inl (G.2 3, 8, .inr (.inr (.inr (.inr x_t_persons)))))] := hD
  refine lv_astoreN (lv' := [(4, .null), (3, .null), (0, .ref a_t), (1, .int p0), (2, .int p1)]) hx hb d_PS_join_11 hl (by decide) rfl (fun ls hl => ?_)
  refine lv_aload_nN hx hb d_PS_join_13 rfl (lv_at hl 1 rfl) ?_
  refine lv_ifnullN (tgt := 34) hx hb d_PS_join_14 (by decide) ?_
  refine lv_iconst (v := (-1 : Int32)) hx hb d_PS_join_34 (by decide) ?_
  refine q_iretB hx hb hr hlocks ?_ hS d_PS_join_35
  exact ⟨hP, hD⟩


-- PlayStates.join(II)I 
set_option maxHeartbeats 4000000 in
set_option maxRecDepth 100000 in
theorem c_PS_join_a2 (l : Launch) (G : gG) (sz : Nat) (a_t a_t_right a_t_table a_t_joining a_t_units a_t_draft a_t_reader a_t_persons a_v : Nat)   (p0 : Int32) (p1 : Int32) (x_t_placeCount : Int32) (x_t_personCount : Int32) (x_t_unitCount : Int32) (x_t_persons : Nat → Option Nat)  (hw : f_PS_find p0 x_t_placeCount x_t_personCount x_t_unitCount x_t_persons = some none) (hv : f_PS_find p1 x_t_placeCount x_t_personCount x_t_unitCount x_t_persons = some (some a_v)) : cN l y_PS_join w_PS_join { frames := 1, cells := 0, slots := 0, locals := 21 } G sz [.ref a_t, .int p0, .int p1] [(a_t, .inr (5, [.int x_t_placeCount, .ref a_t_right, .ref a_t_persons, .int x_t_personCount, .ref a_t_table, .ref a_t_joining, .ref a_t_units, .int x_t_unitCount, .ref a_t_draft, .ref a_t_reader])), (a_t_persons, .inl (G.2 3, 8, .inr (.inr (.inr (.inr x_t_persons)))))] (some (.int (-1 : Int32))) (fun (A : Nat → Prop) (H : Heap) => va_P G.1 vwCl [(a_t, .inr (5, [.int x_t_placeCount, .ref a_t_right, .ref a_t_persons, .int x_t_personCount, .ref a_t_table, .ref a_t_joining, .ref a_t_units, .int x_t_unitCount, .ref a_t_draft, .ref a_t_reader])), (a_t_persons, .inl (G.2 3, 8, .inr (.inr (.inr (.inr x_t_persons)))))] H ∧ va_D A [(a_t, .inr (5, [.int x_t_placeCount, .ref a_t_right, .ref a_t_persons, .int x_t_personCount, .ref a_t_table, .ref a_t_joining, .ref a_t_units, .int x_t_unitCount, .ref a_t_draft, .ref a_t_reader])), (a_t_persons, .inl (G.2 3, 8, .inr (.inr (.inr (.inr x_t_persons)))))]) 0 0 := by
  refine cN_ofW (cc := prog_1_method_16_code) (maxL := 6) (ret := (some .int)) (by decide) rfl (Nat.le_of_ble_eq_true rfl) ?_
  intro p e s m args below meth c A H locs ls hx hb hr hts hown hlocks hin hml hK hN hP hD hA hS hl
  replace hl : lv_has ls 6 [(0, .ref a_t), (1, .int p0), (2, .int p1)] := hl
  replace hown : s.vm.findClass "PlayStates" = some m.cls := hown
  refine lv_aload_n hx hb d_PS_join_0 rfl (lv_at hl 0 rfl) ?_
  refine lv_iload_n hx hb d_PS_join_1 rfl (lv_at hl 1 rfl) ?_
  have hPc := hP.sub (ws' := (ws_PS_find G a_t a_t_right a_t_table a_t_joining a_t_units a_t_draft a_t_reader a_t_persons x_t_placeCount x_t_personCount x_t_unitCount x_t_persons)) [0, 1] rfl
  have hDc := hD.sub (ws' := (ws_PS_find G a_t a_t_right a_t_table a_t_joining a_t_units a_t_draft a_t_reader a_t_persons x_t_placeCount x_t_personCount x_t_unitCount x_t_persons)) [0, 1] (by decide) rfl
  have hFc := va_free (wc := (ws_PS_find G a_t a_t_right a_t_table a_t_joining a_t_units a_t_draft a_t_reader a_t_persons x_t_placeCount x_t_personCount x_t_unitCount x_t_persons)) hD hS hA [0, 1] rfl
  refine q_call1 (va_runV (As := [.int p0]) (rest := []) ⟨hx, hb, hml, hown, hts⟩ (c_PS_find l G H.size a_t a_t_right a_t_table a_t_joining a_t_units a_t_draft a_t_reader a_t_persons p0 x_t_placeCount x_t_personCount x_t_unitCount x_t_persons _ hw) (cwV 1 hts (gV gw_163 gw_164 gw_2 gw_31 gw_165) rfl rfl rfl (by decide +kernel) ⟨Nat.le_of_ble_eq_true rfl, Nat.le_of_ble_eq_true rfl⟩) (pV hK hN hPc hDc (ci := 5) (q0 := 0) rfl rfl) rfl rfl hl.1 rfl (lv_room (Nat.le_of_ble_eq_true rfl)) d_PS_join_2 ⟨Nat.le_of_ble_eq_true rfl, Nat.le_of_ble_eq_true rfl⟩) hS (fun q _ h => hFc q h) hFc (fun H1 locs hB hz hk hS => ?_)
  obtain ⟨hP, hD⟩ := q_joinA hFc hB.1 hB.2
  generalize H1 = H at hP hS ⊢
  replace hP : va_P G.1 vwCl [(a_t, .inr (5, [.int x_t_placeCount, .ref a_t_right, .ref a_t_persons, .int x_t_personCount, .ref a_t_table, .ref a_t_joining, .ref a_t_units, .int x_t_unitCount, .ref a_t_draft, .ref a_t_reader])), (a_t_persons, .inl (G.2 3, 8, .inr (.inr (.inr (.inr x_t_persons)))))] H := hP
  replace hD : va_D A [(a_t, .inr (5, [.int x_t_placeCount, .ref a_t_right, .ref a_t_persons, .int x_t_personCount, .ref a_t_table, .ref a_t_joining, .ref a_t_units, .int x_t_unitCount, .ref a_t_draft, .ref a_t_reader])), (a_t_persons, .inl (G.2 3, 8, .inr (.inr (.inr (.inr x_t_persons)))))] := hD
  refine lv_astore_nN (lv' := [(3, .null), (0, .ref a_t), (1, .int p0), (2, .int p1)]) hx hb d_PS_join_5 rfl hl (by decide) rfl (fun ls hl => ?_)
  refine lv_aload_n hx hb d_PS_join_6 rfl (lv_at hl 1 rfl) ?_
  refine lv_iload_n hx hb d_PS_join_7 rfl (lv_at hl 3 rfl) ?_
  have hPc := hP.sub (ws' := (ws_PS_find G a_t a_t_right a_t_table a_t_joining a_t_units a_t_draft a_t_reader a_t_persons x_t_placeCount x_t_personCount x_t_unitCount x_t_persons)) [0, 1] rfl
  have hDc := hD.sub (ws' := (ws_PS_find G a_t a_t_right a_t_table a_t_joining a_t_units a_t_draft a_t_reader a_t_persons x_t_placeCount x_t_personCount x_t_unitCount x_t_persons)) [0, 1] (by decide) rfl
  have hFc := va_free (wc := (ws_PS_find G a_t a_t_right a_t_table a_t_joining a_t_units a_t_draft a_t_reader a_t_persons x_t_placeCount x_t_personCount x_t_unitCount x_t_persons)) hD hS hA [0, 1] rfl
  refine q_call1 (va_runV (As := [.int p1]) (rest := []) ⟨hx, hb, hml, hown, hts⟩ (c_PS_find l G H.size a_t a_t_right a_t_table a_t_joining a_t_units a_t_draft a_t_reader a_t_persons p1 x_t_placeCount x_t_personCount x_t_unitCount x_t_persons _ hv) (cwV 1 hts (gV gw_163 gw_164 gw_2 gw_31 gw_165) rfl rfl rfl (by decide +kernel) ⟨Nat.le_of_ble_eq_true rfl, Nat.le_of_ble_eq_true rfl⟩) (pV hK hN hPc hDc (ci := 5) (q0 := 0) rfl rfl) rfl rfl hl.1 rfl (lv_room (Nat.le_of_ble_eq_true rfl)) d_PS_join_8 ⟨Nat.le_of_ble_eq_true rfl, Nat.le_of_ble_eq_true rfl⟩) hS (fun q _ h => hFc q h) hFc (fun H1 locs hB hz hk hS => ?_)
  obtain ⟨hP, hD⟩ := q_joinA hFc hB.1 hB.2
  generalize H1 = H at hP hS ⊢
  replace hP : va_P G.1 vwCl [(a_t, .inr (5, [.int x_t_placeCount, .ref a_t_right, .ref a_t_persons, .int x_t_personCount, .ref a_t_table, .ref a_t_joining, .ref a_t_units, .int x_t_unitCount, .ref a_t_draft, .ref a_t_reader])), (a_t_persons, .inl (G.2 3, 8, .inr (.inr (.inr (.inr x_t_persons)))))] H := hP
  replace hD : va_D A [(a_t, .inr (5, [.int x_t_placeCount, .ref a_t_right, .ref a_t_persons, .int x_t_personCount, .ref a_t_table, .ref a_t_joining, .ref a_t_units, .int x_t_unitCount, .ref a_t_draft, .ref a_t_reader])), (a_t_persons, .inl (G.2 3, 8, .inr (.inr (.inr (.inr x_t_persons)))))] := hD
  refine lv_astore (lv' := [(4, .ref a_v), (3, .null), (0, .ref a_t), (1, .int p0), (2, .int p1)]) hx hb d_PS_join_11 hl (by decide) rfl (fun ls hl => ?_)
  refine lv_aload_nN hx hb d_PS_join_13 rfl (lv_at hl 1 rfl) ?_
  refine lv_ifnullN (tgt := 34) hx hb d_PS_join_14 (by decide) ?_
  refine lv_iconst (v := (-1 : Int32)) hx hb d_PS_join_34 (by decide) ?_
  refine q_iretB hx hb hr hlocks ?_ hS d_PS_join_35
  exact ⟨hP, hD⟩


-- PlayStates.join(II)I 
set_option maxHeartbeats 4000000 in
set_option maxRecDepth 100000 in
theorem c_PS_join_b (l : Launch) (G : gG) (sz : Nat) (a_t a_t_right a_t_table a_t_joining a_t_units a_t_draft a_t_reader a_t_persons a_w : Nat)   (p0 : Int32) (p1 : Int32) (x_t_placeCount : Int32) (x_t_personCount : Int32) (x_t_unitCount : Int32) (x_t_persons : Nat → Option Nat)  (hw : f_PS_find p0 x_t_placeCount x_t_personCount x_t_unitCount x_t_persons = some (some a_w)) (hv : f_PS_find p1 x_t_placeCount x_t_personCount x_t_unitCount x_t_persons = some none) : cN l y_PS_join w_PS_join { frames := 1, cells := 0, slots := 0, locals := 21 } G sz [.ref a_t, .int p0, .int p1] [(a_t, .inr (5, [.int x_t_placeCount, .ref a_t_right, .ref a_t_persons, .int x_t_personCount, .ref a_t_table, .ref a_t_joining, .ref a_t_units, .int x_t_unitCount, .ref a_t_draft, .ref a_t_reader])), (a_t_persons, .inl (G.2 3, 8, .inr (.inr (.inr (.inr x_t_persons)))))] (some (.int (-1 : Int32))) (fun (A : Nat → Prop) (H : Heap) => va_P G.1 vwCl [(a_t, .inr (5, [.int x_t_placeCount, .ref a_t_right, .ref a_t_persons, .int x_t_personCount, .ref a_t_table, .ref a_t_joining, .ref a_t_units, .int x_t_unitCount, .ref a_t_draft, .ref a_t_reader])), (a_t_persons, .inl (G.2 3, 8, .inr (.inr (.inr (.inr x_t_persons)))))] H ∧ va_D A [(a_t, .inr (5, [.int x_t_placeCount, .ref a_t_right, .ref a_t_persons, .int x_t_personCount, .ref a_t_table, .ref a_t_joining, .ref a_t_units, .int x_t_unitCount, .ref a_t_draft, .ref a_t_reader])), (a_t_persons, .inl (G.2 3, 8, .inr (.inr (.inr (.inr x_t_persons)))))]) 0 0 := by
  refine cN_ofW (cc := prog_1_method_16_code) (maxL := 6) (ret := (some .int)) (by decide) rfl (Nat.le_of_ble_eq_true rfl) ?_
  intro p e s m args below meth c A H locs ls hx hb hr hts hown hlocks hin hml hK hN hP hD hA hS hl
  replace hl : lv_has ls 6 [(0, .ref a_t), (1, .int p0), (2, .int p1)] := hl
  replace hown : s.vm.findClass "PlayStates" = some m.cls := hown
  refine lv_aload_n hx hb d_PS_join_0 rfl (lv_at hl 0 rfl) ?_
  refine lv_iload_n hx hb d_PS_join_1 rfl (lv_at hl 1 rfl) ?_
  have hPc := hP.sub (ws' := (ws_PS_find G a_t a_t_right a_t_table a_t_joining a_t_units a_t_draft a_t_reader a_t_persons x_t_placeCount x_t_personCount x_t_unitCount x_t_persons)) [0, 1] rfl
  have hDc := hD.sub (ws' := (ws_PS_find G a_t a_t_right a_t_table a_t_joining a_t_units a_t_draft a_t_reader a_t_persons x_t_placeCount x_t_personCount x_t_unitCount x_t_persons)) [0, 1] (by decide) rfl
  have hFc := va_free (wc := (ws_PS_find G a_t a_t_right a_t_table a_t_joining a_t_units a_t_draft a_t_reader a_t_persons x_t_placeCount x_t_personCount x_t_unitCount x_t_persons)) hD hS hA [0, 1] rfl
  refine q_call1 (va_runV (As := [.int p0]) (rest := []) ⟨hx, hb, hml, hown, hts⟩ (c_PS_find l G H.size a_t a_t_right a_t_table a_t_joining a_t_units a_t_draft a_t_reader a_t_persons p0 x_t_placeCount x_t_personCount x_t_unitCount x_t_persons _ hw) (cwV 1 hts (gV gw_163 gw_164 gw_2 gw_31 gw_165) rfl rfl rfl (by decide +kernel) ⟨Nat.le_of_ble_eq_true rfl, Nat.le_of_ble_eq_true rfl⟩) (pV hK hN hPc hDc (ci := 5) (q0 := 0) rfl rfl) rfl rfl hl.1 rfl (lv_room (Nat.le_of_ble_eq_true rfl)) d_PS_join_2 ⟨Nat.le_of_ble_eq_true rfl, Nat.le_of_ble_eq_true rfl⟩) hS (fun q _ h => hFc q h) hFc (fun H1 locs hB hz hk hS => ?_)
  obtain ⟨hP, hD⟩ := q_joinA hFc hB.1 hB.2
  generalize H1 = H at hP hS ⊢
  replace hP : va_P G.1 vwCl [(a_t, .inr (5, [.int x_t_placeCount, .ref a_t_right, .ref a_t_persons, .int x_t_personCount, .ref a_t_table, .ref a_t_joining, .ref a_t_units, .int x_t_unitCount, .ref a_t_draft, .ref a_t_reader])), (a_t_persons, .inl (G.2 3, 8, .inr (.inr (.inr (.inr x_t_persons)))))] H := hP
  replace hD : va_D A [(a_t, .inr (5, [.int x_t_placeCount, .ref a_t_right, .ref a_t_persons, .int x_t_personCount, .ref a_t_table, .ref a_t_joining, .ref a_t_units, .int x_t_unitCount, .ref a_t_draft, .ref a_t_reader])), (a_t_persons, .inl (G.2 3, 8, .inr (.inr (.inr (.inr x_t_persons)))))] := hD
  refine lv_astore_n (lv' := [(3, .ref a_w), (0, .ref a_t), (1, .int p0), (2, .int p1)]) hx hb d_PS_join_5 rfl hl (by decide) rfl (fun ls hl => ?_)
  refine lv_aload_n hx hb d_PS_join_6 rfl (lv_at hl 1 rfl) ?_
  refine lv_iload_n hx hb d_PS_join_7 rfl (lv_at hl 3 rfl) ?_
  have hPc := hP.sub (ws' := (ws_PS_find G a_t a_t_right a_t_table a_t_joining a_t_units a_t_draft a_t_reader a_t_persons x_t_placeCount x_t_personCount x_t_unitCount x_t_persons)) [0, 1] rfl
  have hDc := hD.sub (ws' := (ws_PS_find G a_t a_t_right a_t_table a_t_joining a_t_units a_t_draft a_t_reader a_t_persons x_t_placeCount x_t_personCount x_t_unitCount x_t_persons)) [0, 1] (by decide) rfl
  have hFc := va_free (wc := (ws_PS_find G a_t a_t_right a_t_table a_t_joining a_t_units a_t_draft a_t_reader a_t_persons x_t_placeCount x_t_personCount x_t_unitCount x_t_persons)) hD hS hA [0, 1] rfl
  refine q_call1 (va_runV (As := [.int p1]) (rest := []) ⟨hx, hb, hml, hown, hts⟩ (c_PS_find l G H.size a_t a_t_right a_t_table a_t_joining a_t_units a_t_draft a_t_reader a_t_persons p1 x_t_placeCount x_t_personCount x_t_unitCount x_t_persons _ hv) (cwV 1 hts (gV gw_163 gw_164 gw_2 gw_31 gw_165) rfl rfl rfl (by decide +kernel) ⟨Nat.le_of_ble_eq_true rfl, Nat.le_of_ble_eq_true rfl⟩) (pV hK hN hPc hDc (ci := 5) (q0 := 0) rfl rfl) rfl rfl hl.1 rfl (lv_room (Nat.le_of_ble_eq_true rfl)) d_PS_join_8 ⟨Nat.le_of_ble_eq_true rfl, Nat.le_of_ble_eq_true rfl⟩) hS (fun q _ h => hFc q h) hFc (fun H1 locs hB hz hk hS => ?_)
  obtain ⟨hP, hD⟩ := q_joinA hFc hB.1 hB.2
  generalize H1 = H at hP hS ⊢
  replace hP : va_P G.1 vwCl [(a_t, .inr (5, [.int x_t_placeCount, .ref a_t_right, .ref a_t_persons, .int x_t_personCount, .ref a_t_table, .ref a_t_joining, .ref a_t_units, .int x_t_unitCount, .ref a_t_draft, .ref a_t_reader])), (a_t_persons, .inl (G.2 3, 8, .inr (.inr (.inr (.inr x_t_persons)))))] H := hP
  replace hD : va_D A [(a_t, .inr (5, [.int x_t_placeCount, .ref a_t_right, .ref a_t_persons, .int x_t_personCount, .ref a_t_table, .ref a_t_joining, .ref a_t_units, .int x_t_unitCount, .ref a_t_draft, .ref a_t_reader])), (a_t_persons, .inl (G.2 3, 8, .inr (.inr (.inr (.inr x_t_persons)))))] := hD
  refine lv_astoreN (lv' := [(4, .null), (3, .ref a_w), (0, .ref a_t), (1, .int p0), (2, .int p1)]) hx hb d_PS_join_11 hl (by decide) rfl (fun ls hl => ?_)
  refine lv_aload_n hx hb d_PS_join_13 rfl (lv_at hl 1 rfl) ?_
  refine lv_ifnull hx hb d_PS_join_14 ?_
  refine lv_aloadN hx hb d_PS_join_17 (lv_at hl 0 rfl) ?_
  refine lv_ifnullN (tgt := 34) hx hb d_PS_join_19 (by decide) ?_
  refine lv_iconst (v := (-1 : Int32)) hx hb d_PS_join_34 (by decide) ?_
  refine q_iretB hx hb hr hlocks ?_ hS d_PS_join_35
  exact ⟨hP, hD⟩


-- PlayStates.join(II)I 
set_option maxHeartbeats 4000000 in
set_option maxRecDepth 100000 in
theorem c_PS_join_c (l : Launch) (G : gG) (sz : Nat) (a_t a_t_right a_t_table a_t_joining a_t_units a_t_draft a_t_reader a_t_persons a_w a_v : Nat)   (p0 : Int32) (p1 : Int32) (x_t_placeCount : Int32) (x_t_personCount : Int32) (x_t_unitCount : Int32) (x_t_persons : Nat → Option Nat)  (hw : f_PS_find p0 x_t_placeCount x_t_personCount x_t_unitCount x_t_persons = some (some a_w)) (hv : f_PS_find p1 x_t_placeCount x_t_personCount x_t_unitCount x_t_persons = some (some a_v)) (c1 : p0 = p1) : cN l y_PS_join w_PS_join { frames := 1, cells := 0, slots := 0, locals := 21 } G sz [.ref a_t, .int p0, .int p1] [(a_t, .inr (5, [.int x_t_placeCount, .ref a_t_right, .ref a_t_persons, .int x_t_personCount, .ref a_t_table, .ref a_t_joining, .ref a_t_units, .int x_t_unitCount, .ref a_t_draft, .ref a_t_reader])), (a_t_persons, .inl (G.2 3, 8, .inr (.inr (.inr (.inr x_t_persons)))))] (some (.int (-1 : Int32))) (fun (A : Nat → Prop) (H : Heap) => va_P G.1 vwCl [(a_t, .inr (5, [.int x_t_placeCount, .ref a_t_right, .ref a_t_persons, .int x_t_personCount, .ref a_t_table, .ref a_t_joining, .ref a_t_units, .int x_t_unitCount, .ref a_t_draft, .ref a_t_reader])), (a_t_persons, .inl (G.2 3, 8, .inr (.inr (.inr (.inr x_t_persons)))))] H ∧ va_D A [(a_t, .inr (5, [.int x_t_placeCount, .ref a_t_right, .ref a_t_persons, .int x_t_personCount, .ref a_t_table, .ref a_t_joining, .ref a_t_units, .int x_t_unitCount, .ref a_t_draft, .ref a_t_reader])), (a_t_persons, .inl (G.2 3, 8, .inr (.inr (.inr (.inr x_t_persons)))))]) 0 0 := by
  refine cN_ofW (cc := prog_1_method_16_code) (maxL := 6) (ret := (some .int)) (by decide) rfl (Nat.le_of_ble_eq_true rfl) ?_
  intro p e s m args below meth c A H locs ls hx hb hr hts hown hlocks hin hml hK hN hP hD hA hS hl
  replace hl : lv_has ls 6 [(0, .ref a_t), (1, .int p0), (2, .int p1)] := hl
  replace hown : s.vm.findClass "PlayStates" = some m.cls := hown
  refine lv_aload_n hx hb d_PS_join_0 rfl (lv_at hl 0 rfl) ?_
  refine lv_iload_n hx hb d_PS_join_1 rfl (lv_at hl 1 rfl) ?_
  have hPc := hP.sub (ws' := (ws_PS_find G a_t a_t_right a_t_table a_t_joining a_t_units a_t_draft a_t_reader a_t_persons x_t_placeCount x_t_personCount x_t_unitCount x_t_persons)) [0, 1] rfl
  have hDc := hD.sub (ws' := (ws_PS_find G a_t a_t_right a_t_table a_t_joining a_t_units a_t_draft a_t_reader a_t_persons x_t_placeCount x_t_personCount x_t_unitCount x_t_persons)) [0, 1] (by decide) rfl
  have hFc := va_free (wc := (ws_PS_find G a_t a_t_right a_t_table a_t_joining a_t_units a_t_draft a_t_reader a_t_persons x_t_placeCount x_t_personCount x_t_unitCount x_t_persons)) hD hS hA [0, 1] rfl
  refine q_call1 (va_runV (As := [.int p0]) (rest := []) ⟨hx, hb, hml, hown, hts⟩ (c_PS_find l G H.size a_t a_t_right a_t_table a_t_joining a_t_units a_t_draft a_t_reader a_t_persons p0 x_t_placeCount x_t_personCount x_t_unitCount x_t_persons _ hw) (cwV 1 hts (gV gw_163 gw_164 gw_2 gw_31 gw_165) rfl rfl rfl (by decide +kernel) ⟨Nat.le_of_ble_eq_true rfl, Nat.le_of_ble_eq_true rfl⟩) (pV hK hN hPc hDc (ci := 5) (q0 := 0) rfl rfl) rfl rfl hl.1 rfl (lv_room (Nat.le_of_ble_eq_true rfl)) d_PS_join_2 ⟨Nat.le_of_ble_eq_true rfl, Nat.le_of_ble_eq_true rfl⟩) hS (fun q _ h => hFc q h) hFc (fun H1 locs hB hz hk hS => ?_)
  obtain ⟨hP, hD⟩ := q_joinA hFc hB.1 hB.2
  generalize H1 = H at hP hS ⊢
  replace hP : va_P G.1 vwCl [(a_t, .inr (5, [.int x_t_placeCount, .ref a_t_right, .ref a_t_persons, .int x_t_personCount, .ref a_t_table, .ref a_t_joining, .ref a_t_units, .int x_t_unitCount, .ref a_t_draft, .ref a_t_reader])), (a_t_persons, .inl (G.2 3, 8, .inr (.inr (.inr (.inr x_t_persons)))))] H := hP
  replace hD : va_D A [(a_t, .inr (5, [.int x_t_placeCount, .ref a_t_right, .ref a_t_persons, .int x_t_personCount, .ref a_t_table, .ref a_t_joining, .ref a_t_units, .int x_t_unitCount, .ref a_t_draft, .ref a_t_reader])), (a_t_persons, .inl (G.2 3, 8, .inr (.inr (.inr (.inr x_t_persons)))))] := hD
  refine lv_astore_n (lv' := [(3, .ref a_w), (0, .ref a_t), (1, .int p0), (2, .int p1)]) hx hb d_PS_join_5 rfl hl (by decide) rfl (fun ls hl => ?_)
  refine lv_aload_n hx hb d_PS_join_6 rfl (lv_at hl 1 rfl) ?_
  refine lv_iload_n hx hb d_PS_join_7 rfl (lv_at hl 3 rfl) ?_
  have hPc := hP.sub (ws' := (ws_PS_find G a_t a_t_right a_t_table a_t_joining a_t_units a_t_draft a_t_reader a_t_persons x_t_placeCount x_t_personCount x_t_unitCount x_t_persons)) [0, 1] rfl
  have hDc := hD.sub (ws' := (ws_PS_find G a_t a_t_right a_t_table a_t_joining a_t_units a_t_draft a_t_reader a_t_persons x_t_placeCount x_t_personCount x_t_unitCount x_t_persons)) [0, 1] (by decide) rfl
  have hFc := va_free (wc := (ws_PS_find G a_t a_t_right a_t_table a_t_joining a_t_units a_t_draft a_t_reader a_t_persons x_t_placeCount x_t_personCount x_t_unitCount x_t_persons)) hD hS hA [0, 1] rfl
  refine q_call1 (va_runV (As := [.int p1]) (rest := []) ⟨hx, hb, hml, hown, hts⟩ (c_PS_find l G H.size a_t a_t_right a_t_table a_t_joining a_t_units a_t_draft a_t_reader a_t_persons p1 x_t_placeCount x_t_personCount x_t_unitCount x_t_persons _ hv) (cwV 1 hts (gV gw_163 gw_164 gw_2 gw_31 gw_165) rfl rfl rfl (by decide +kernel) ⟨Nat.le_of_ble_eq_true rfl, Nat.le_of_ble_eq_true rfl⟩) (pV hK hN hPc hDc (ci := 5) (q0 := 0) rfl rfl) rfl rfl hl.1 rfl (lv_room (Nat.le_of_ble_eq_true rfl)) d_PS_join_8 ⟨Nat.le_of_ble_eq_true rfl, Nat.le_of_ble_eq_true rfl⟩) hS (fun q _ h => hFc q h) hFc (fun H1 locs hB hz hk hS => ?_)
  obtain ⟨hP, hD⟩ := q_joinA hFc hB.1 hB.2
  generalize H1 = H at hP hS ⊢
  replace hP : va_P G.1 vwCl [(a_t, .inr (5, [.int x_t_placeCount, .ref a_t_right, .ref a_t_persons, .int x_t_personCount, .ref a_t_table, .ref a_t_joining, .ref a_t_units, .int x_t_unitCount, .ref a_t_draft, .ref a_t_reader])), (a_t_persons, .inl (G.2 3, 8, .inr (.inr (.inr (.inr x_t_persons)))))] H := hP
  replace hD : va_D A [(a_t, .inr (5, [.int x_t_placeCount, .ref a_t_right, .ref a_t_persons, .int x_t_personCount, .ref a_t_table, .ref a_t_joining, .ref a_t_units, .int x_t_unitCount, .ref a_t_draft, .ref a_t_reader])), (a_t_persons, .inl (G.2 3, 8, .inr (.inr (.inr (.inr x_t_persons)))))] := hD
  refine lv_astore (lv' := [(4, .ref a_v), (3, .ref a_w), (0, .ref a_t), (1, .int p0), (2, .int p1)]) hx hb d_PS_join_11 hl (by decide) rfl (fun ls hl => ?_)
  refine lv_aload_n hx hb d_PS_join_13 rfl (lv_at hl 1 rfl) ?_
  refine lv_ifnull hx hb d_PS_join_14 ?_
  refine lv_aload hx hb d_PS_join_17 (lv_at hl 0 rfl) ?_
  refine lv_ifnull hx hb d_PS_join_19 ?_
  refine lv_iload_n hx hb d_PS_join_22 rfl (lv_at hl 3 rfl) ?_
  refine lv_iload_n hx hb d_PS_join_23 rfl (lv_at hl 4 rfl) ?_
  refine lv_icmp_eq (tgt := 34) hx hb d_PS_join_24 (by decide) (fun z9 => ?_) (fun z9 => False.elim (by first | exact z9 c1 | exact c1 z9))
  refine lv_iconst (v := (-1 : Int32)) hx hb d_PS_join_34 (by decide) ?_
  refine q_iretB hx hb hr hlocks ?_ hS d_PS_join_35
  exact ⟨hP, hD⟩


-- PlayStates.join(II)I 
set_option maxHeartbeats 4000000 in
set_option maxRecDepth 100000 in
theorem c_PS_join_d (l : Launch) (G : gG) (sz : Nat) (a_t a_t_right a_t_table a_t_joining a_t_units a_t_draft a_t_reader a_t_persons a_w a_v : Nat)   (p0 : Int32) (p1 : Int32) (x_t_placeCount : Int32) (x_t_personCount : Int32) (x_t_unitCount : Int32) (x_t_persons : Nat → Option Nat)  (hw : f_PS_find p0 x_t_placeCount x_t_personCount x_t_unitCount x_t_persons = some (some a_w)) (hv : f_PS_find p1 x_t_placeCount x_t_personCount x_t_unitCount x_t_persons = some (some a_v)) (c1 : ¬ p0 = p1) (y2 : Int32) (hy2 : f_PS_hasRoomForPerson x_t_placeCount x_t_personCount x_t_unitCount = some y2) (c3 : y2 = 0) : cN l y_PS_join w_PS_join { frames := 1, cells := 0, slots := 0, locals := 21 } G sz [.ref a_t, .int p0, .int p1] [(a_t, .inr (5, [.int x_t_placeCount, .ref a_t_right, .ref a_t_persons, .int x_t_personCount, .ref a_t_table, .ref a_t_joining, .ref a_t_units, .int x_t_unitCount, .ref a_t_draft, .ref a_t_reader])), (a_t_persons, .inl (G.2 3, 8, .inr (.inr (.inr (.inr x_t_persons)))))] (some (.int (-1 : Int32))) (fun (A : Nat → Prop) (H : Heap) => va_P G.1 vwCl [(a_t, .inr (5, [.int x_t_placeCount, .ref a_t_right, .ref a_t_persons, .int x_t_personCount, .ref a_t_table, .ref a_t_joining, .ref a_t_units, .int x_t_unitCount, .ref a_t_draft, .ref a_t_reader])), (a_t_persons, .inl (G.2 3, 8, .inr (.inr (.inr (.inr x_t_persons)))))] H ∧ va_D A [(a_t, .inr (5, [.int x_t_placeCount, .ref a_t_right, .ref a_t_persons, .int x_t_personCount, .ref a_t_table, .ref a_t_joining, .ref a_t_units, .int x_t_unitCount, .ref a_t_draft, .ref a_t_reader])), (a_t_persons, .inl (G.2 3, 8, .inr (.inr (.inr (.inr x_t_persons)))))]) 0 0 := by
  refine cN_ofW (cc := prog_1_method_16_code) (maxL := 6) (ret := (some .int)) (by decide) rfl (Nat.le_of_ble_eq_true rfl) ?_
  intro p e s m args below meth c A H locs ls hx hb hr hts hown hlocks hin hml hK hN hP hD hA hS hl
  replace hl : lv_has ls 6 [(0, .ref a_t), (1, .int p0), (2, .int p1)] := hl
  replace hown : s.vm.findClass "PlayStates" = some m.cls := hown
  refine lv_aload_n hx hb d_PS_join_0 rfl (lv_at hl 0 rfl) ?_
  refine lv_iload_n hx hb d_PS_join_1 rfl (lv_at hl 1 rfl) ?_
  have hPc := hP.sub (ws' := (ws_PS_find G a_t a_t_right a_t_table a_t_joining a_t_units a_t_draft a_t_reader a_t_persons x_t_placeCount x_t_personCount x_t_unitCount x_t_persons)) [0, 1] rfl
  have hDc := hD.sub (ws' := (ws_PS_find G a_t a_t_right a_t_table a_t_joining a_t_units a_t_draft a_t_reader a_t_persons x_t_placeCount x_t_personCount x_t_unitCount x_t_persons)) [0, 1] (by decide) rfl
  have hFc := va_free (wc := (ws_PS_find G a_t a_t_right a_t_table a_t_joining a_t_units a_t_draft a_t_reader a_t_persons x_t_placeCount x_t_personCount x_t_unitCount x_t_persons)) hD hS hA [0, 1] rfl
  refine q_call1 (va_runV (As := [.int p0]) (rest := []) ⟨hx, hb, hml, hown, hts⟩ (c_PS_find l G H.size a_t a_t_right a_t_table a_t_joining a_t_units a_t_draft a_t_reader a_t_persons p0 x_t_placeCount x_t_personCount x_t_unitCount x_t_persons _ hw) (cwV 1 hts (gV gw_163 gw_164 gw_2 gw_31 gw_165) rfl rfl rfl (by decide +kernel) ⟨Nat.le_of_ble_eq_true rfl, Nat.le_of_ble_eq_true rfl⟩) (pV hK hN hPc hDc (ci := 5) (q0 := 0) rfl rfl) rfl rfl hl.1 rfl (lv_room (Nat.le_of_ble_eq_true rfl)) d_PS_join_2 ⟨Nat.le_of_ble_eq_true rfl, Nat.le_of_ble_eq_true rfl⟩) hS (fun q _ h => hFc q h) hFc (fun H1 locs hB hz hk hS => ?_)
  obtain ⟨hP, hD⟩ := q_joinA hFc hB.1 hB.2
  generalize H1 = H at hP hS ⊢
  replace hP : va_P G.1 vwCl [(a_t, .inr (5, [.int x_t_placeCount, .ref a_t_right, .ref a_t_persons, .int x_t_personCount, .ref a_t_table, .ref a_t_joining, .ref a_t_units, .int x_t_unitCount, .ref a_t_draft, .ref a_t_reader])), (a_t_persons, .inl (G.2 3, 8, .inr (.inr (.inr (.inr x_t_persons)))))] H := hP
  replace hD : va_D A [(a_t, .inr (5, [.int x_t_placeCount, .ref a_t_right, .ref a_t_persons, .int x_t_personCount, .ref a_t_table, .ref a_t_joining, .ref a_t_units, .int x_t_unitCount, .ref a_t_draft, .ref a_t_reader])), (a_t_persons, .inl (G.2 3, 8, .inr (.inr (.inr (.inr x_t_persons)))))] := hD
  refine lv_astore_n (lv' := [(3, .ref a_w), (0, .ref a_t), (1, .int p0), (2, .int p1)]) hx hb d_PS_join_5 rfl hl (by decide) rfl (fun ls hl => ?_)
  refine lv_aload_n hx hb d_PS_join_6 rfl (lv_at hl 1 rfl) ?_
  refine lv_iload_n hx hb d_PS_join_7 rfl (lv_at hl 3 rfl) ?_
  have hPc := hP.sub (ws' := (ws_PS_find G a_t a_t_right a_t_table a_t_joining a_t_units a_t_draft a_t_reader a_t_persons x_t_placeCount x_t_personCount x_t_unitCount x_t_persons)) [0, 1] rfl
  have hDc := hD.sub (ws' := (ws_PS_find G a_t a_t_right a_t_table a_t_joining a_t_units a_t_draft a_t_reader a_t_persons x_t_placeCount x_t_personCount x_t_unitCount x_t_persons)) [0, 1] (by decide) rfl
  have hFc := va_free (wc := (ws_PS_find G a_t a_t_right a_t_table a_t_joining a_t_units a_t_draft a_t_reader a_t_persons x_t_placeCount x_t_personCount x_t_unitCount x_t_persons)) hD hS hA [0, 1] rfl
  refine q_call1 (va_runV (As := [.int p1]) (rest := []) ⟨hx, hb, hml, hown, hts⟩ (c_PS_find l G H.size a_t a_t_right a_t_table a_t_joining a_t_units a_t_draft a_t_reader a_t_persons p1 x_t_placeCount x_t_personCount x_t_unitCount x_t_persons _ hv) (cwV 1 hts (gV gw_163 gw_164 gw_2 gw_31 gw_165) rfl rfl rfl (by decide +kernel) ⟨Nat.le_of_ble_eq_true rfl, Nat.le_of_ble_eq_true rfl⟩) (pV hK hN hPc hDc (ci := 5) (q0 := 0) rfl rfl) rfl rfl hl.1 rfl (lv_room (Nat.le_of_ble_eq_true rfl)) d_PS_join_8 ⟨Nat.le_of_ble_eq_true rfl, Nat.le_of_ble_eq_true rfl⟩) hS (fun q _ h => hFc q h) hFc (fun H1 locs hB hz hk hS => ?_)
  obtain ⟨hP, hD⟩ := q_joinA hFc hB.1 hB.2
  generalize H1 = H at hP hS ⊢
  replace hP : va_P G.1 vwCl [(a_t, .inr (5, [.int x_t_placeCount, .ref a_t_right, .ref a_t_persons, .int x_t_personCount, .ref a_t_table, .ref a_t_joining, .ref a_t_units, .int x_t_unitCount, .ref a_t_draft, .ref a_t_reader])), (a_t_persons, .inl (G.2 3, 8, .inr (.inr (.inr (.inr x_t_persons)))))] H := hP
  replace hD : va_D A [(a_t, .inr (5, [.int x_t_placeCount, .ref a_t_right, .ref a_t_persons, .int x_t_personCount, .ref a_t_table, .ref a_t_joining, .ref a_t_units, .int x_t_unitCount, .ref a_t_draft, .ref a_t_reader])), (a_t_persons, .inl (G.2 3, 8, .inr (.inr (.inr (.inr x_t_persons)))))] := hD
  refine lv_astore (lv' := [(4, .ref a_v), (3, .ref a_w), (0, .ref a_t), (1, .int p0), (2, .int p1)]) hx hb d_PS_join_11 hl (by decide) rfl (fun ls hl => ?_)
  refine lv_aload_n hx hb d_PS_join_13 rfl (lv_at hl 1 rfl) ?_
  refine lv_ifnull hx hb d_PS_join_14 ?_
  refine lv_aload hx hb d_PS_join_17 (lv_at hl 0 rfl) ?_
  refine lv_ifnull hx hb d_PS_join_19 ?_
  refine lv_iload_n hx hb d_PS_join_22 rfl (lv_at hl 3 rfl) ?_
  refine lv_iload_n hx hb d_PS_join_23 rfl (lv_at hl 4 rfl) ?_
  refine lv_icmp_eq (tgt := 34) hx hb d_PS_join_24 (by decide) (fun z9 => False.elim (by first | exact z9 c1 | exact c1 z9)) (fun z9 => ?_)
  refine lv_aload_n hx hb d_PS_join_27 rfl (lv_at hl 2 rfl) ?_
  have hPc := hP.sub (ws' := (ws_PS_hasRoomForPerson G a_t a_t_right a_t_persons a_t_table a_t_joining a_t_units a_t_draft a_t_reader x_t_placeCount x_t_personCount x_t_unitCount)) [0] rfl
  have hDc := hD.sub (ws' := (ws_PS_hasRoomForPerson G a_t a_t_right a_t_persons a_t_table a_t_joining a_t_units a_t_draft a_t_reader x_t_placeCount x_t_personCount x_t_unitCount)) [0] (by decide) rfl
  have hFc := va_free (wc := (ws_PS_hasRoomForPerson G a_t a_t_right a_t_persons a_t_table a_t_joining a_t_units a_t_draft a_t_reader x_t_placeCount x_t_personCount x_t_unitCount)) hD hS hA [0] rfl
  refine q_call1 (va_runV (As := []) (rest := []) ⟨hx, hb, hml, hown, hts⟩ (c_PS_hasRoomForPerson l G H.size a_t a_t_right a_t_persons a_t_table a_t_joining a_t_units a_t_draft a_t_reader x_t_placeCount x_t_personCount x_t_unitCount _ hy2) (cwV 0 hts (gV gw_126 gw_127 gw_0 gw_31 gw_128) rfl rfl rfl (by decide +kernel) ⟨Nat.le_of_ble_eq_true rfl, Nat.le_of_ble_eq_true rfl⟩) (pV hK hN hPc hDc (ci := 5) (q0 := 0) rfl rfl) rfl rfl hl.1 rfl (lv_room (Nat.le_of_ble_eq_true rfl)) d_PS_join_28 ⟨Nat.le_of_ble_eq_true rfl, Nat.le_of_ble_eq_true rfl⟩) hS (fun q _ h => hFc q h) hFc (fun H1 locs hB hz hk hS => ?_)
  obtain ⟨hP, hD⟩ := q_join (wr := [(a_t_persons, .inl (G.2 3, 8, .inr (.inr (.inr (.inr x_t_persons)))))]) (wn := [(a_t, .inr (5, [.int x_t_placeCount, .ref a_t_right, .ref a_t_persons, .int x_t_personCount, .ref a_t_table, .ref a_t_joining, .ref a_t_units, .int x_t_unitCount, .ref a_t_draft, .ref a_t_reader])), (a_t_persons, .inl (G.2 3, 8, .inr (.inr (.inr (.inr x_t_persons)))))]) hP hD [0] [1] [1, 0] rfl rfl (by decide) (by decide) rfl (by decide) hk hFc hB.1 hB.2
  generalize H1 = H at hP hS ⊢
  replace hP : va_P G.1 vwCl [(a_t, .inr (5, [.int x_t_placeCount, .ref a_t_right, .ref a_t_persons, .int x_t_personCount, .ref a_t_table, .ref a_t_joining, .ref a_t_units, .int x_t_unitCount, .ref a_t_draft, .ref a_t_reader])), (a_t_persons, .inl (G.2 3, 8, .inr (.inr (.inr (.inr x_t_persons)))))] H := hP
  replace hD : va_D A [(a_t, .inr (5, [.int x_t_placeCount, .ref a_t_right, .ref a_t_persons, .int x_t_personCount, .ref a_t_table, .ref a_t_joining, .ref a_t_units, .int x_t_unitCount, .ref a_t_draft, .ref a_t_reader])), (a_t_persons, .inl (G.2 3, 8, .inr (.inr (.inr (.inr x_t_persons)))))] := hD
  refine lv_if_ne (tgt := 36) hx hb d_PS_join_31 (by decide) (fun z9 => False.elim (by first | exact z9 c3 | exact c3 z9)) (fun z9 => ?_)
  refine lv_iconst (v := (-1 : Int32)) hx hb d_PS_join_34 (by decide) ?_
  refine q_iretB hx hb hr hlocks ?_ hS d_PS_join_35
  exact ⟨hP, hD⟩
