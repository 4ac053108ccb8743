theorem d_PS_isZeroToNine_0 : decode prog_1_method_21_code 0 = .ok (.iload_n 0, 1) := by decide +kernel
theorem d_PS_isZeroToNine_1 : decode prog_1_method_21_code 1 = .ok (.ifCond .lt 13, 3) := by decide +kernel
theorem d_PS_isZeroToNine_4 : decode prog_1_method_21_code 4 = .ok (.iload_n 0, 1) := by decide +kernel
theorem d_PS_isZeroToNine_5 : decode prog_1_method_21_code 5 = .ok (.bipush 9, 2) := by decide +kernel
theorem d_PS_isZeroToNine_7 : decode prog_1_method_21_code 7 = .ok (.if_icmp .gt 7, 3) := by decide +kernel
theorem d_PS_isZeroToNine_10 : decode prog_1_method_21_code 10 = .ok (.iconst 1, 1) := by decide +kernel
theorem d_PS_isZeroToNine_11 : decode prog_1_method_21_code 11 = .ok (.goto 4, 3) := by decide +kernel
theorem d_PS_isZeroToNine_14 : decode prog_1_method_21_code 14 = .ok (.iconst 0, 1) := by decide +kernel
theorem d_PS_isZeroToNine_15 : decode prog_1_method_21_code 15 = .ok (.ireturn, 1) := by decide +kernel
-- PlayStates.isZeroToNine(I)Z 
def ws_PS_isZeroToNine (G : gG)    : va_W := []
def f_PS_isZeroToNine  (p0 : Int32)  : Option (Int32) :=
  (if p0 < 0 then some (0 : Int32) else (if (9 : Int32) < p0 then some (0 : Int32) else some (1 : Int32)))
set_option maxHeartbeats 4000000 in
set_option maxRecDepth 100000 in
theorem c_PS_isZeroToNine (l : Launch) (G : gG) (sz : Nat)   (p0 : Int32)  (r : Int32) (h : f_PS_isZeroToNine p0 = some r)  : cN l y_PS_isZeroToNine w_PS_isZeroToNine { frames := 0, cells := 0, slots := 0, locals := 0 } G sz [.int p0] (ws_PS_isZeroToNine G) (some (.int r)) (wB G (ws_PS_isZeroToNine G)) 0 0 := by
  refine cN_ofW (cc := prog_1_method_21_code) (maxL := 1) (ret := (some .boolean)) (by decide) rfl (Nat.le_of_ble_eq_true rfl) ?_
  intro p e s m args below meth c A H locs ls hx hb hr hts hown hlocks hin hml hK hN hP hD hA hS hl
  replace hl : lv_has ls 1 [(0, .int p0)] := hl
  replace hown : s.vm.findClass "PlayStates" = some m.cls := hown
  unfold f_PS_isZeroToNine at h
  refine lv_iload_n hx hb d_PS_isZeroToNine_0 rfl (lv_at hl 0 rfl) ?_
  refine lv_if_lt (tgt := 14) hx hb d_PS_isZeroToNine_1 (by decide) (fun c1 => ?_) (fun c1 => ?_)
  · replace h := (if_pos c1).symm.trans h
    refine lv_iconst (v := (0 : Int32)) hx hb d_PS_isZeroToNine_14 (by decide) ?_
    cases h
    exact q_zretW hx hb hr hlocks (by decide) hP hD hS d_PS_isZeroToNine_15
  · replace h := (if_neg c1).symm.trans h
    refine lv_iload_n hx hb d_PS_isZeroToNine_4 rfl (lv_at hl 0 rfl) ?_
    refine lv_bipush (v := (9 : Int32)) hx hb d_PS_isZeroToNine_5 (by decide) ?_
    refine lv_icmp_gt (tgt := 14) hx hb d_PS_isZeroToNine_7 (by decide) (fun c2 => ?_) (fun c2 => ?_)
    · replace h := (if_pos c2).symm.trans h
      refine lv_iconst (v := (0 : Int32)) hx hb d_PS_isZeroToNine_14 (by decide) ?_
      cases h
      exact q_zretW hx hb hr hlocks (by decide) hP hD hS d_PS_isZeroToNine_15
    · replace h := (if_neg c2).symm.trans h
      refine lv_iconst (v := (1 : Int32)) hx hb d_PS_isZeroToNine_10 (by decide) ?_
      refine lv_goto (tgt := 15) hx hb d_PS_isZeroToNine_11 (by decide) ?_
      cases h
      exact q_zretW hx hb hr hlocks (by decide) hP hD hS d_PS_isZeroToNine_15

theorem d_PS_isOneToNine_0 : decode prog_1_method_22_code 0 = .ok (.iload_n 0, 1) := by decide +kernel
theorem d_PS_isOneToNine_1 : decode prog_1_method_22_code 1 = .ok (.iconst 1, 1) := by decide +kernel
theorem d_PS_isOneToNine_2 : decode prog_1_method_22_code 2 = .ok (.if_icmp .lt 13, 3) := by decide +kernel
theorem d_PS_isOneToNine_5 : decode prog_1_method_22_code 5 = .ok (.iload_n 0, 1) := by decide +kernel
theorem d_PS_isOneToNine_6 : decode prog_1_method_22_code 6 = .ok (.bipush 9, 2) := by decide +kernel
theorem d_PS_isOneToNine_8 : decode prog_1_method_22_code 8 = .ok (.if_icmp .gt 7, 3) := by decide +kernel
theorem d_PS_isOneToNine_11 : decode prog_1_method_22_code 11 = .ok (.iconst 1, 1) := by decide +kernel
theorem d_PS_isOneToNine_12 : decode prog_1_method_22_code 12 = .ok (.goto 4, 3) := by decide +kernel
theorem d_PS_isOneToNine_15 : decode prog_1_method_22_code 15 = .ok (.iconst 0, 1) := by decide +kernel
theorem d_PS_isOneToNine_16 : decode prog_1_method_22_code 16 = .ok (.ireturn, 1) := by decide +kernel
-- PlayStates.isOneToNine(I)Z 
def ws_PS_isOneToNine (G : gG)    : va_W := []
def f_PS_isOneToNine  (p0 : Int32)  : Option (Int32) :=
  (if p0 < (1 : Int32) then some (0 : Int32) else (if (9 : Int32) < p0 then some (0 : Int32) else some (1 : Int32)))
set_option maxHeartbeats 4000000 in
set_option maxRecDepth 100000 in
theorem c_PS_isOneToNine (l : Launch) (G : gG) (sz : Nat)   (p0 : Int32)  (r : Int32) (h : f_PS_isOneToNine p0 = some r)  : cN l y_PS_isOneToNine w_PS_isOneToNine { frames := 0, cells := 0, slots := 0, locals := 0 } G sz [.int p0] (ws_PS_isOneToNine G) (some (.int r)) (wB G (ws_PS_isOneToNine G)) 0 0 := by
  refine cN_ofW (cc := prog_1_method_22_code) (maxL := 1) (ret := (some .boolean)) (by decide) rfl (Nat.le_of_ble_eq_true rfl) ?_
  intro p e s m args below meth c A H locs ls hx hb hr hts hown hlocks hin hml hK hN hP hD hA hS hl
  replace hl : lv_has ls 1 [(0, .int p0)] := hl
  replace hown : s.vm.findClass "PlayStates" = some m.cls := hown
  unfold f_PS_isOneToNine at h
  refine lv_iload_n hx hb d_PS_isOneToNine_0 rfl (lv_at hl 0 rfl) ?_
  refine lv_iconst (v := (1 : Int32)) hx hb d_PS_isOneToNine_1 (by decide) ?_
  refine lv_icmp_lt (tgt := 15) hx hb d_PS_isOneToNine_2 (by decide) (fun c1 => ?_) (fun c1 => ?_)
  · replace h := (if_pos c1).symm.trans h
    refine lv_iconst (v := (0 : Int32)) hx hb d_PS_isOneToNine_15 (by decide) ?_
    cases h
    exact q_zretW hx hb hr hlocks (by decide) hP hD hS d_PS_isOneToNine_16
  · replace h := (if_neg c1).symm.trans h
    refine lv_iload_n hx hb d_PS_isOneToNine_5 rfl (lv_at hl 0 rfl) ?_
    refine lv_bipush (v := (9 : Int32)) hx hb d_PS_isOneToNine_6 (by decide) ?_
    refine lv_icmp_gt (tgt := 15) hx hb d_PS_isOneToNine_8 (by decide) (fun c2 => ?_) (fun c2 => ?_)
    · replace h := (if_pos c2).symm.trans h
      refine lv_iconst (v := (0 : Int32)) hx hb d_PS_isOneToNine_15 (by decide) ?_
      cases h
      exact q_zretW hx hb hr hlocks (by decide) hP hD hS d_PS_isOneToNine_16
    · replace h := (if_neg c2).symm.trans h
      refine lv_iconst (v := (1 : Int32)) hx hb d_PS_isOneToNine_11 (by decide) ?_
      refine lv_goto (tgt := 16) hx hb d_PS_isOneToNine_12 (by decide) ?_
      cases h
      exact q_zretW hx hb hr hlocks (by decide) hP hD hS d_PS_isOneToNine_16

theorem d_PS_isWrong_0 : decode prog_1_method_23_code 0 = .ok (.iload_n 0, 1) := by decide +kernel
theorem d_PS_isWrong_1 : decode prog_1_method_23_code 1 = .ok (.ifCond .eq 16, 3) := by decide +kernel
theorem d_PS_isWrong_4 : decode prog_1_method_23_code 4 = .ok (.iload_n 1, 1) := by decide +kernel
theorem d_PS_isWrong_5 : decode prog_1_method_23_code 5 = .ok (.ifCond .eq 12, 3) := by decide +kernel
theorem d_PS_isWrong_8 : decode prog_1_method_23_code 8 = .ok (.iload_n 1, 1) := by decide +kernel
theorem d_PS_isWrong_9 : decode prog_1_method_23_code 9 = .ok (.iload_n 0, 1) := by decide +kernel
theorem d_PS_isWrong_10 : decode prog_1_method_23_code 10 = .ok (.if_icmp .eq 7, 3) := by decide +kernel
theorem d_PS_isWrong_13 : decode prog_1_method_23_code 13 = .ok (.iconst 1, 1) := by decide +kernel
theorem d_PS_isWrong_14 : decode prog_1_method_23_code 14 = .ok (.goto 4, 3) := by decide +kernel
theorem d_PS_isWrong_17 : decode prog_1_method_23_code 17 = .ok (.iconst 0, 1) := by decide +kernel
theorem d_PS_isWrong_18 : decode prog_1_method_23_code 18 = .ok (.ireturn, 1) := by decide +kernel
-- PlayStates.isWrong(II)Z 
def ws_PS_isWrong (G : gG)    : va_W := []
def f_PS_isWrong  (p0 : Int32) (p1 : Int32)  : Option (Int32) :=
  (if p0 = 0 then some (0 : Int32) else (if p1 = 0 then some (0 : Int32) else (if p1 = p0 then some (0 : Int32) else some (1 : Int32))))
set_option maxHeartbeats 4000000 in
set_option maxRecDepth 100000 in
theorem c_PS_isWrong (l : Launch) (G : gG) (sz : Nat)   (p0 : Int32) (p1 : Int32)  (r : Int32) (h : f_PS_isWrong p0 p1 = some r)  : cN l y_PS_isWrong w_PS_isWrong { frames := 0, cells := 0, slots := 0, locals := 0 } G sz [.int p0, .int p1] (ws_PS_isWrong G) (some (.int r)) (wB G (ws_PS_isWrong G)) 0 0 := by
  refine cN_ofW (cc := prog_1_method_23_code) (maxL := 2) (ret := (some .boolean)) (by decide) rfl (Nat.le_of_ble_eq_true rfl) ?_
  intro p e s m args below meth c A H locs ls hx hb hr hts hown hlocks hin hml hK hN hP hD hA hS hl
  replace hl : lv_has ls 2 [(0, .int p0), (1, .int p1)] := hl
  replace hown : s.vm.findClass "PlayStates" = some m.cls := hown
  unfold f_PS_isWrong at h
  refine lv_iload_n hx hb d_PS_isWrong_0 rfl (lv_at hl 0 rfl) ?_
  refine lv_if_eq (tgt := 17) hx hb d_PS_isWrong_1 (by decide) (fun c1 => ?_) (fun c1 => ?_)
  · replace h := (if_pos c1).symm.trans h
    refine lv_iconst (v := (0 : Int32)) hx hb d_PS_isWrong_17 (by decide) ?_
    cases h
    exact q_zretW hx hb hr hlocks (by decide) hP hD hS d_PS_isWrong_18
  · replace h := (if_neg c1).symm.trans h
    refine lv_iload_n hx hb d_PS_isWrong_4 rfl (lv_at hl 1 rfl) ?_
    refine lv_if_eq (tgt := 17) hx hb d_PS_isWrong_5 (by decide) (fun c2 => ?_) (fun c2 => ?_)
    · replace h := (if_pos c2).symm.trans h
      refine lv_iconst (v := (0 : Int32)) hx hb d_PS_isWrong_17 (by decide) ?_
      cases h
      exact q_zretW hx hb hr hlocks (by decide) hP hD hS d_PS_isWrong_18
    · replace h := (if_neg c2).symm.trans h
      refine lv_iload_n hx hb d_PS_isWrong_8 rfl (lv_at hl 1 rfl) ?_
      refine lv_iload_n hx hb d_PS_isWrong_9 rfl (lv_at hl 0 rfl) ?_
      refine lv_icmp_eq (tgt := 17) hx hb d_PS_isWrong_10 (by decide) (fun c3 => ?_) (fun c3 => ?_)
      · replace h := (if_pos c3).symm.trans h
        refine lv_iconst (v := (0 : Int32)) hx hb d_PS_isWrong_17 (by decide) ?_
        cases h
        exact q_zretW hx hb hr hlocks (by decide) hP hD hS d_PS_isWrong_18
      · replace h := (if_neg c3).symm.trans h
        refine lv_iconst (v := (1 : Int32)) hx hb d_PS_isWrong_13 (by decide) ?_
        refine lv_goto (tgt := 18) hx hb d_PS_isWrong_14 (by decide) ?_
        cases h
        exact q_zretW hx hb hr hlocks (by decide) hP hD hS d_PS_isWrong_18

theorem gw_102 : (.fieldLink "PlayStates" 18 "PlayStates" "placeCount" "I" : Cond) ∈ GW := gT 96 (by decide +kernel) (by decide +kernel)
theorem d_PS_isPlace_0 : decode prog_1_method_24_code 0 = .ok (.iload_n 1, 1) := by decide +kernel
theorem d_PS_isPlace_1 : decode prog_1_method_24_code 1 = .ok (.ifCond .lt 15, 3) := by decide +kernel
theorem d_PS_isPlace_4 : decode prog_1_method_24_code 4 = .ok (.iload_n 1, 1) := by decide +kernel
theorem d_PS_isPlace_5 : decode prog_1_method_24_code 5 = .ok (.aload_n 0, 1) := by decide +kernel
theorem d_PS_isPlace_6 : decode prog_1_method_24_code 6 = .ok (.getfield 18, 3) := by decide +kernel
theorem d_PS_isPlace_9 : decode prog_1_method_24_code 9 = .ok (.if_icmp .ge 7, 3) := by decide +kernel
theorem d_PS_isPlace_12 : decode prog_1_method_24_code 12 = .ok (.iconst 1, 1) := by decide +kernel
theorem d_PS_isPlace_13 : decode prog_1_method_24_code 13 = .ok (.goto 4, 3) := by decide +kernel
theorem d_PS_isPlace_16 : decode prog_1_method_24_code 16 = .ok (.iconst 0, 1) := by decide +kernel
theorem d_PS_isPlace_17 : decode prog_1_method_24_code 17 = .ok (.ireturn, 1) := by decide +kernel
-- PlayStates.isPlace(I)Z 
def ws_PS_isPlace (G : gG) (a_t a_t_right a_t_persons a_t_table a_t_joining a_t_units a_t_draft a_t_reader : Nat)  (x_t_placeCount : Int32) (x_t_personCount : Int32) (x_t_unitCount : Int32) : va_W := [(a_t, .inr (5, [.int x_t_placeCount, .ref a_t_right, .ref a_t_persons, .int x_t_personCount, .ref a_t_table, .ref a_t_joining, .ref a_t_units, .int x_t_unitCount, .ref a_t_draft, .ref a_t_reader]))]
def f_PS_isPlace  (p0 : Int32) (x_t_placeCount : Int32) (x_t_personCount : Int32) (x_t_unitCount : Int32) : Option (Int32) :=
  (if p0 < 0 then some (0 : Int32) else (if x_t_placeCount ≤ p0 then some (0 : Int32) else some (1 : Int32)))
set_option maxHeartbeats 4000000 in
set_option maxRecDepth 100000 in
theorem c_PS_isPlace (l : Launch) (G : gG) (sz : Nat) (a_t a_t_right a_t_persons a_t_table a_t_joining a_t_units a_t_draft a_t_reader : Nat)  (p0 : Int32) (x_t_placeCount : Int32) (x_t_personCount : Int32) (x_t_unitCount : Int32) (r : Int32) (h : f_PS_isPlace p0 x_t_placeCount x_t_personCount x_t_unitCount = some r)  : cN l y_PS_isPlace w_PS_isPlace { frames := 0, cells := 0, slots := 0, locals := 0 } G sz [.ref a_t, .int p0] (ws_PS_isPlace G a_t a_t_right a_t_persons a_t_table a_t_joining a_t_units a_t_draft a_t_reader x_t_placeCount x_t_personCount x_t_unitCount) (some (.int r)) (wB G (ws_PS_isPlace G a_t a_t_right a_t_persons a_t_table a_t_joining a_t_units a_t_draft a_t_reader x_t_placeCount x_t_personCount x_t_unitCount)) 0 0 := by
  refine cN_ofW (cc := prog_1_method_24_code) (maxL := 2) (ret := (some .boolean)) (by decide) rfl (Nat.le_of_ble_eq_true rfl) ?_
  intro p e s m args below meth c A H locs ls hx hb hr hts hown hlocks hin hml hK hN hP hD hA hS hl
  replace hl : lv_has ls 2 [(0, .ref a_t), (1, .int p0)] := hl
  replace hown : s.vm.findClass "PlayStates" = some m.cls := hown
  unfold f_PS_isPlace at h
  refine lv_iload_n hx hb d_PS_isPlace_0 rfl (lv_at hl 1 rfl) ?_
  refine lv_if_lt (tgt := 16) hx hb d_PS_isPlace_1 (by decide) (fun c1 => ?_) (fun c1 => ?_)
  · replace h := (if_pos c1).symm.trans h
    refine lv_iconst (v := (0 : Int32)) hx hb d_PS_isPlace_16 (by decide) ?_
    cases h
    exact q_zretW hx hb hr hlocks (by decide) hP hD hS d_PS_isPlace_17
  · replace h := (if_neg c1).symm.trans h
    refine lv_iload_n hx hb d_PS_isPlace_4 rfl (lv_at hl 1 rfl) ?_
    refine lv_aload_n hx hb d_PS_isPlace_5 rfl (lv_at hl 0 rfl) ?_
    refine va_get (D := G.1) (ci := 5) (v := .int x_t_placeCount) (C := "PlayStates") (T := TPS) (N := 10) hx hb hts iw_5 hown hK hP 0 rfl rfl 0 (by decide) (hts _ gw_102) (fun _ h9 => h9) rfl d_PS_isPlace_6 ?_
    refine lv_icmp_ge (tgt := 16) hx hb d_PS_isPlace_9 (by decide) (fun c2 => ?_) (fun c2 => ?_)
    · replace h := (if_pos c2).symm.trans h
      refine lv_iconst (v := (0 : Int32)) hx hb d_PS_isPlace_16 (by decide) ?_
      cases h
      exact q_zretW hx hb hr hlocks (by decide) hP hD hS d_PS_isPlace_17
    · replace h := (if_neg c2).symm.trans h
      refine lv_iconst (v := (1 : Int32)) hx hb d_PS_isPlace_12 (by decide) ?_
      refine lv_goto (tgt := 17) hx hb d_PS_isPlace_13 (by decide) ?_
      cases h
      exact q_zretW hx hb hr hlocks (by decide) hP hD hS d_PS_isPlace_17

theorem gw_105 : (.fieldLink "PlayStates" 200 "PlayStates" "personCount" "I" : Cond) ∈ GW := gT 99 (by decide +kernel) (by decide +kernel)
theorem d_PS_hasRoomForPerson_0 : decode prog_1_method_26_code 0 = .ok (.aload_n 0, 1) := by decide +kernel
theorem d_PS_hasRoomForPerson_1 : decode prog_1_method_26_code 1 = .ok (.getfield 200, 3) := by decide +kernel
theorem d_PS_hasRoomForPerson_4 : decode prog_1_method_26_code 4 = .ok (.bipush 8, 2) := by decide +kernel
theorem d_PS_hasRoomForPerson_6 : decode prog_1_method_26_code 6 = .ok (.if_icmp .ge 7, 3) := by decide +kernel
theorem d_PS_hasRoomForPerson_9 : decode prog_1_method_26_code 9 = .ok (.iconst 1, 1) := by decide +kernel
theorem d_PS_hasRoomForPerson_10 : decode prog_1_method_26_code 10 = .ok (.goto 4, 3) := by decide +kernel
theorem d_PS_hasRoomForPerson_13 : decode prog_1_method_26_code 13 = .ok (.iconst 0, 1) := by decide +kernel
theorem d_PS_hasRoomForPerson_14 : decode prog_1_method_26_code 14 = .ok (.ireturn, 1) := by decide +kernel
-- PlayStates.hasRoomForPerson()Z 
def ws_PS_hasRoomForPerson (G : gG) (a_t a_t_right a_t_persons a_t_table a_t_joining a_t_units a_t_draft a_t_reader : Nat)  (x_t_placeCount : Int32) (x_t_personCount : Int32) (x_t_unitCount : Int32) : va_W := [(a_t, .inr (5, [.int x_t_placeCount, .ref a_t_right, .ref a_t_persons, .int x_t_personCount, .ref a_t_table, .ref a_t_joining, .ref a_t_units, .int x_t_unitCount, .ref a_t_draft, .ref a_t_reader]))]
def f_PS_hasRoomForPerson   (x_t_placeCount : Int32) (x_t_personCount : Int32) (x_t_unitCount : Int32) : Option (Int32) :=
  (if (8 : Int32) ≤ x_t_personCount then some (0 : Int32) else some (1 : Int32))
set_option maxHeartbeats 4000000 in
set_option maxRecDepth 100000 in
theorem c_PS_hasRoomForPerson (l : Launch) (G : gG) (sz : Nat) (a_t a_t_right a_t_persons a_t_table a_t_joining a_t_units a_t_draft a_t_reader : Nat)   (x_t_placeCount : Int32) (x_t_personCount : Int32) (x_t_unitCount : Int32) (r : Int32) (h : f_PS_hasRoomForPerson x_t_placeCount x_t_personCount x_t_unitCount = some r)  : cN l y_PS_hasRoomForPerson w_PS_hasRoomForPerson { frames := 0, cells := 0, slots := 0, locals := 0 } G sz [.ref a_t] (ws_PS_hasRoomForPerson G a_t a_t_right a_t_persons a_t_table a_t_joining a_t_units a_t_draft a_t_reader x_t_placeCount x_t_personCount x_t_unitCount) (some (.int r)) (wB G (ws_PS_hasRoomForPerson G a_t a_t_right a_t_persons a_t_table a_t_joining a_t_units a_t_draft a_t_reader x_t_placeCount x_t_personCount x_t_unitCount)) 0 0 := by
  refine cN_ofW (cc := prog_1_method_26_code) (maxL := 1) (ret := (some .boolean)) (by decide) rfl (Nat.le_of_ble_eq_true rfl) ?_
  intro p e s m args below meth c A H locs ls hx hb hr hts hown hlocks hin hml hK hN hP hD hA hS hl
  replace hl : lv_has ls 1 [(0, .ref a_t)] := hl
  replace hown : s.vm.findClass "PlayStates" = some m.cls := hown
  unfold f_PS_hasRoomForPerson at h
  refine lv_aload_n hx hb d_PS_hasRoomForPerson_0 rfl (lv_at hl 0 rfl) ?_
  refine va_get (D := G.1) (ci := 5) (v := .int x_t_personCount) (C := "PlayStates") (T := TPS) (N := 10) hx hb hts iw_5 hown hK hP 0 rfl rfl 3 (by decide) (hts _ gw_105) (fun _ h9 => h9) rfl d_PS_hasRoomForPerson_1 ?_
  refine lv_bipush (v := (8 : Int32)) hx hb d_PS_hasRoomForPerson_4 (by decide) ?_
  refine lv_icmp_ge (tgt := 13) hx hb d_PS_hasRoomForPerson_6 (by decide) (fun c1 => ?_) (fun c1 => ?_)
  · replace h := (if_pos c1).symm.trans h
    refine lv_iconst (v := (0 : Int32)) hx hb d_PS_hasRoomForPerson_13 (by decide) ?_
    cases h
    exact q_zretW hx hb hr hlocks (by decide) hP hD hS d_PS_hasRoomForPerson_14
  · replace h := (if_neg c1).symm.trans h
    refine lv_iconst (v := (1 : Int32)) hx hb d_PS_hasRoomForPerson_9 (by decide) ?_
    refine lv_goto (tgt := 14) hx hb d_PS_hasRoomForPerson_10 (by decide) ?_
    cases h
    exact q_zretW hx hb hr hlocks (by decide) hP hD hS d_PS_hasRoomForPerson_14

theorem gw_104 : (.fieldLink "PlayStates" 28 "PlayStates" "persons" "[LPlayStates$Person;" : Cond) ∈ GW := gT 98 (by decide +kernel) (by decide +kernel)
theorem d_PS_find_0 : decode prog_1_method_25_code 0 = .ok (.iload_n 1, 1) := by decide +kernel
theorem d_PS_find_1 : decode prog_1_method_25_code 1 = .ok (.ifCond .lt 20, 3) := by decide +kernel
theorem d_PS_find_4 : decode prog_1_method_25_code 4 = .ok (.iload_n 1, 1) := by decide +kernel
theorem d_PS_find_5 : decode prog_1_method_25_code 5 = .ok (.aload_n 0, 1) := by decide +kernel
theorem d_PS_find_6 : decode prog_1_method_25_code 6 = .ok (.getfield 200, 3) := by decide +kernel
theorem d_PS_find_9 : decode prog_1_method_25_code 9 = .ok (.if_icmp .ge 12, 3) := by decide +kernel
theorem d_PS_find_12 : decode prog_1_method_25_code 12 = .ok (.aload_n 0, 1) := by decide +kernel
theorem d_PS_find_13 : decode prog_1_method_25_code 13 = .ok (.getfield 28, 3) := by decide +kernel
theorem d_PS_find_16 : decode prog_1_method_25_code 16 = .ok (.iload_n 1, 1) := by decide +kernel
theorem d_PS_find_17 : decode prog_1_method_25_code 17 = .ok (.aaload, 1) := by decide +kernel
theorem d_PS_find_18 : decode prog_1_method_25_code 18 = .ok (.goto 4, 3) := by decide +kernel
theorem d_PS_find_21 : decode prog_1_method_25_code 21 = .ok (.aconst_null, 1) := by decide +kernel
theorem d_PS_find_22 : decode prog_1_method_25_code 22 = .ok (.areturn, 1) := by decide +kernel
-- PlayStates.find(I)LPlayStates$Person; 
def ws_PS_find (G : gG) (a_t a_t_right a_t_table a_t_joining a_t_units a_t_draft a_t_reader a_t_persons : Nat)  (x_t_placeCount : Int32) (x_t_personCount : Int32) (x_t_unitCount : Int32) (x_t_persons : Nat → Option Nat) : va_W := [(a_t, .inr (5, [.int x_t_placeCount, .ref a_t_right, .ref a_t_persons, .int x_t_personCount, .ref a_t_table, .ref a_t_joining, .ref a_t_units, .int x_t_unitCount, .ref a_t_draft, .ref a_t_reader])), (a_t_persons, .inl (G.2 3, 8, .inr (.inr (.inr (.inr x_t_persons)))))]
def f_PS_find  (p0 : Int32) (x_t_placeCount : Int32) (x_t_personCount : Int32) (x_t_unitCount : Int32) (x_t_persons : Nat → Option Nat) : Option ((Option Nat)) :=
  (if p0 < 0 then some none else (if x_t_personCount ≤ p0 then some none else (if inB p0 8 then some (x_t_persons p0.toNatClampNeg) else none)))
set_option maxHeartbeats 4000000 in
set_option maxRecDepth 100000 in
theorem c_PS_find (l : Launch) (G : gG) (sz : Nat) (a_t a_t_right a_t_table a_t_joining a_t_units a_t_draft a_t_reader a_t_persons : Nat)  (p0 : Int32) (x_t_placeCount : Int32) (x_t_personCount : Int32) (x_t_unitCount : Int32) (x_t_persons : Nat → Option Nat) (r : Option Nat) (h : f_PS_find p0 x_t_placeCount x_t_personCount x_t_unitCount x_t_persons = some r)  : cN l y_PS_find w_PS_find { frames := 0, cells := 0, slots := 0, locals := 0 } G sz [.ref a_t, .int p0] (ws_PS_find G a_t a_t_right a_t_table a_t_joining a_t_units a_t_draft a_t_reader a_t_persons x_t_placeCount x_t_personCount x_t_unitCount x_t_persons) (some (va_rf r)) (wB G (ws_PS_find G a_t a_t_right a_t_table a_t_joining a_t_units a_t_draft a_t_reader a_t_persons x_t_placeCount x_t_personCount x_t_unitCount x_t_persons)) 0 0 := by
  refine cN_ofW (cc := prog_1_method_25_code) (maxL := 2) (ret := (some (.object "PlayStates$Person"))) (by decide) rfl (Nat.le_of_ble_eq_true rfl) ?_
  intro p e s m args below meth c A H locs ls hx hb hr hts hown hlocks hin hml hK hN hP hD hA hS hl
  replace hl : lv_has ls 2 [(0, .ref a_t), (1, .int p0)] := hl
  replace hown : s.vm.findClass "PlayStates" = some m.cls := hown
  unfold f_PS_find at h
  refine lv_iload_n hx hb d_PS_find_0 rfl (lv_at hl 1 rfl) ?_
  refine lv_if_lt (tgt := 21) hx hb d_PS_find_1 (by decide) (fun c1 => ?_) (fun c1 => ?_)
  · replace h := (if_pos c1).symm.trans h
    refine lv_null hx hb d_PS_find_21 ?_
    cases h
    exact q_aretW hx hb hr hlocks (Or.inl rfl) hP hD hS d_PS_find_22
  · replace h := (if_neg c1).symm.trans h
    refine lv_iload_n hx hb d_PS_find_4 rfl (lv_at hl 1 rfl) ?_
    refine lv_aload_n hx hb d_PS_find_5 rfl (lv_at hl 0 rfl) ?_
    refine va_get (D := G.1) (ci := 5) (v := .int x_t_personCount) (C := "PlayStates") (T := TPS) (N := 10) hx hb hts iw_5 hown hK hP 0 rfl rfl 3 (by decide) (hts _ gw_105) (fun _ h9 => h9) rfl d_PS_find_6 ?_
    refine lv_icmp_ge (tgt := 21) hx hb d_PS_find_9 (by decide) (fun c2 => ?_) (fun c2 => ?_)
    · replace h := (if_pos c2).symm.trans h
      refine lv_null hx hb d_PS_find_21 ?_
      cases h
      exact q_aretW hx hb hr hlocks (Or.inl rfl) hP hD hS d_PS_find_22
    · replace h := (if_neg c2).symm.trans h
      refine lv_aload_n hx hb d_PS_find_12 rfl (lv_at hl 0 rfl) ?_
      refine va_get (D := G.1) (ci := 5) (v := .ref a_t_persons) (C := "PlayStates") (T := TPS) (N := 10) hx hb hts iw_5 hown hK hP 0 rfl rfl 2 (by decide) (hts _ gw_104) (fun _ h9 => h9) rfl d_PS_find_13 ?_
      refine lv_iload_n hx hb d_PS_find_16 rfl (lv_at hl 1 rfl) ?_
      obtain ⟨i3, h⟩ := o_if h
      refine va_aldq (n := 8) (f := x_t_persons) hx hb hK hP 1 3 rfl rfl i3 d_PS_find_17 ?_
      refine lv_goto (tgt := 22) hx hb d_PS_find_18 (by decide) ?_
      cases h
      exact q_aretW hx hb hr hlocks (va_rf_or _) hP hD hS d_PS_find_22

theorem gw_80 : (.fieldLink "PlayStates$Board" 15 "PlayStates$Board" "markBits" "[I" : Cond) ∈ GW := gT 63 (by decide +kernel) (by decide +kernel)
theorem d_Bd_hasMark_0 : decode prog_2_method_3_code 0 = .ok (.aload_n 0, 1) := by decide +kernel
theorem d_Bd_hasMark_1 : decode prog_2_method_3_code 1 = .ok (.getfield 15, 3) := by decide +kernel
theorem d_Bd_hasMark_4 : decode prog_2_method_3_code 4 = .ok (.iload_n 1, 1) := by decide +kernel
theorem d_Bd_hasMark_5 : decode prog_2_method_3_code 5 = .ok (.iaload, 1) := by decide +kernel
theorem d_Bd_hasMark_6 : decode prog_2_method_3_code 6 = .ok (.iconst 1, 1) := by decide +kernel
theorem d_Bd_hasMark_7 : decode prog_2_method_3_code 7 = .ok (.iload_n 2, 1) := by decide +kernel
theorem d_Bd_hasMark_8 : decode prog_2_method_3_code 8 = .ok (.ishl, 1) := by decide +kernel
theorem d_Bd_hasMark_9 : decode prog_2_method_3_code 9 = .ok (.iand, 1) := by decide +kernel
theorem d_Bd_hasMark_10 : decode prog_2_method_3_code 10 = .ok (.ifCond .eq 7, 3) := by decide +kernel
theorem d_Bd_hasMark_13 : decode prog_2_method_3_code 13 = .ok (.iconst 1, 1) := by decide +kernel
theorem d_Bd_hasMark_14 : decode prog_2_method_3_code 14 = .ok (.goto 4, 3) := by decide +kernel
theorem d_Bd_hasMark_17 : decode prog_2_method_3_code 17 = .ok (.iconst 0, 1) := by decide +kernel
theorem d_Bd_hasMark_18 : decode prog_2_method_3_code 18 = .ok (.ireturn, 1) := by decide +kernel
-- PlayStates$Board.hasMark(II)Z 
def ws_Bd_hasMark (G : gG) (a_t a_t_entries a_t_markBits : Nat) (n : Nat) (x_t_markBits : Nat → Int32) : va_W := [(a_t, .inr (0, [.ref a_t_entries, .ref a_t_markBits])), (a_t_markBits, .inl (G.2 0, n, .inl x_t_markBits))]
def f_Bd_hasMark (n : Nat) (p0 : Int32) (p1 : Int32) (x_t_markBits : Nat → Int32) : Option (Int32) :=
  (if inB p0 n then (if ((x_t_markBits p0.toNatClampNeg) &&& ((1 : Int32) <<< (p1 &&& 31))) = 0 then some (0 : Int32) else some (1 : Int32)) else none)
set_option maxHeartbeats 4000000 in
set_option maxRecDepth 100000 in
theorem c_Bd_hasMark (l : Launch) (G : gG) (sz : Nat) (a_t a_t_entries a_t_markBits : Nat) (n : Nat) (p0 : Int32) (p1 : Int32) (x_t_markBits : Nat → Int32) (r : Int32) (h : f_Bd_hasMark n p0 p1 x_t_markBits = some r)  : cN l y_Bd_hasMark w_Bd_hasMark { frames := 0, cells := 0, slots := 0, locals := 0 } G sz [.ref a_t, .int p0, .int p1] (ws_Bd_hasMark G a_t a_t_entries a_t_markBits n x_t_markBits) (some (.int r)) (wB G (ws_Bd_hasMark G a_t a_t_entries a_t_markBits n x_t_markBits)) 0 0 := by
  refine cN_ofW (cc := prog_2_method_3_code) (maxL := 3) (ret := (some .boolean)) (by decide) rfl (Nat.le_of_ble_eq_true rfl) ?_
  intro p e s m args below meth c A H locs ls hx hb hr hts hown hlocks hin hml hK hN hP hD hA hS hl
  replace hl : lv_has ls 3 [(0, .ref a_t), (1, .int p0), (2, .int p1)] := hl
  replace hown : s.vm.findClass "PlayStates$Board" = some m.cls := hown
  unfold f_Bd_hasMark at h
  refine lv_aload_n hx hb d_Bd_hasMark_0 rfl (lv_at hl 0 rfl) ?_
  refine va_get (D := G.1) (ci := 0) (v := .ref a_t_markBits) (C := "PlayStates$Board") (T := TBd) (N := 2) hx hb hts iw_0 hown hK hP 0 rfl rfl 1 (by decide) (hts _ gw_80) (fun _ h9 => h9) rfl d_Bd_hasMark_1 ?_
  refine lv_iload_n hx hb d_Bd_hasMark_4 rfl (lv_at hl 1 rfl) ?_
  obtain ⟨i1, h⟩ := o_if h
  refine va_iald (n := n) (f := x_t_markBits) hx hb hK hP 1 0 rfl rfl i1 d_Bd_hasMark_5 ?_
  refine lv_iconst (v := (1 : Int32)) hx hb d_Bd_hasMark_6 (by decide) ?_
  refine lv_iload_n hx hb d_Bd_hasMark_7 rfl (lv_at hl 2 rfl) ?_
  refine lv_ishl hx hb d_Bd_hasMark_8 ?_
  refine lv_iand hx hb d_Bd_hasMark_9 ?_
  refine lv_if_eq (tgt := 17) hx hb d_Bd_hasMark_10 (by decide) (fun c2 => ?_) (fun c2 => ?_)
  · replace h := (if_pos c2).symm.trans h
    refine lv_iconst (v := (0 : Int32)) hx hb d_Bd_hasMark_17 (by decide) ?_
    cases h
    exact q_zretW hx hb hr hlocks (by decide) hP hD hS d_Bd_hasMark_18
  · replace h := (if_neg c2).symm.trans h
    refine lv_iconst (v := (1 : Int32)) hx hb d_Bd_hasMark_13 (by decide) ?_
    refine lv_goto (tgt := 18) hx hb d_Bd_hasMark_14 (by decide) ?_
    cases h
    exact q_zretW hx hb hr hlocks (by decide) hP hD hS d_Bd_hasMark_18

theorem gw_182 : (.code ⟨"PlayStates$Board", "hasMark", "(II)Z"⟩ prog_2_method_3_code 3 (some .boolean) : Cond) ∈ GW := gT 208 (by decide +kernel) (by decide +kernel)
theorem gw_179 : (.methodLink "PlayStates$Board" 24 ⟨"PlayStates$Board", "hasMark", "(II)Z"⟩ : Cond) ∈ GW := gT 205 (by decide +kernel) (by decide +kernel)
theorem gw_34 : (.initialized "PlayStates$Board" : Cond) ∈ GW := gT 4 (by decide +kernel) (by decide +kernel)
theorem gw_180 : (.instanceMethod ⟨"PlayStates$Board", "hasMark", "(II)Z"⟩ : Cond) ∈ GW := gT 206 (by decide +kernel) (by decide +kernel)
theorem gw_181 : (.selects "PlayStates$Board" ⟨"PlayStates$Board", "hasMark", "(II)Z"⟩ ⟨"PlayStates$Board", "hasMark", "(II)Z"⟩ : Cond) ∈ GW := gT 207 (by decide +kernel) (by decide +kernel)
theorem gw_79 : (.fieldLink "PlayStates$Board" 9 "PlayStates$Board" "entries" "[I" : Cond) ∈ GW := gT 61 (by decide +kernel) (by decide +kernel)
theorem d_Bd_asItIs_0 : decode prog_2_method_4_code 0 = .ok (.iload_n 2, 1) := by decide +kernel
theorem d_Bd_asItIs_1 : decode prog_2_method_4_code 1 = .ok (.bipush 10, 2) := by decide +kernel
theorem d_Bd_asItIs_3 : decode prog_2_method_4_code 3 = .ok (.if_icmp .ge 10, 3) := by decide +kernel
theorem d_Bd_asItIs_6 : decode prog_2_method_4_code 6 = .ok (.aload_n 0, 1) := by decide +kernel
theorem d_Bd_asItIs_7 : decode prog_2_method_4_code 7 = .ok (.getfield 9, 3) := by decide +kernel
theorem d_Bd_asItIs_10 : decode prog_2_method_4_code 10 = .ok (.iload_n 1, 1) := by decide +kernel
theorem d_Bd_asItIs_11 : decode prog_2_method_4_code 11 = .ok (.iaload, 1) := by decide +kernel
theorem d_Bd_asItIs_12 : decode prog_2_method_4_code 12 = .ok (.ireturn, 1) := by decide +kernel
theorem d_Bd_asItIs_13 : decode prog_2_method_4_code 13 = .ok (.iload_n 2, 1) := by decide +kernel
theorem d_Bd_asItIs_14 : decode prog_2_method_4_code 14 = .ok (.bipush 20, 2) := by decide +kernel
theorem d_Bd_asItIs_16 : decode prog_2_method_4_code 16 = .ok (.if_icmp .ge 10, 3) := by decide +kernel
theorem d_Bd_asItIs_19 : decode prog_2_method_4_code 19 = .ok (.iload_n 2, 1) := by decide +kernel
theorem d_Bd_asItIs_20 : decode prog_2_method_4_code 20 = .ok (.bipush 10, 2) := by decide +kernel
theorem d_Bd_asItIs_22 : decode prog_2_method_4_code 22 = .ok (.isub, 1) := by decide +kernel
theorem d_Bd_asItIs_23 : decode prog_2_method_4_code 23 = .ok (.goto 7, 3) := by decide +kernel
theorem d_Bd_asItIs_26 : decode prog_2_method_4_code 26 = .ok (.iload_n 2, 1) := by decide +kernel
theorem d_Bd_asItIs_27 : decode prog_2_method_4_code 27 = .ok (.bipush 20, 2) := by decide +kernel
theorem d_Bd_asItIs_29 : decode prog_2_method_4_code 29 = .ok (.isub, 1) := by decide +kernel
theorem d_Bd_asItIs_30 : decode prog_2_method_4_code 30 = .ok (.istore_n 3, 1) := by decide +kernel
theorem d_Bd_asItIs_31 : decode prog_2_method_4_code 31 = .ok (.aload_n 0, 1) := by decide +kernel
theorem d_Bd_asItIs_32 : decode prog_2_method_4_code 32 = .ok (.iload_n 1, 1) := by decide +kernel
theorem d_Bd_asItIs_33 : decode prog_2_method_4_code 33 = .ok (.iload_n 3, 1) := by decide +kernel
theorem d_Bd_asItIs_34 : decode prog_2_method_4_code 34 = .ok (.invokevirtual 24, 3) := by decide +kernel
theorem d_Bd_asItIs_37 : decode prog_2_method_4_code 37 = .ok (.ifCond .eq 10, 3) := by decide +kernel
theorem d_Bd_asItIs_40 : decode prog_2_method_4_code 40 = .ok (.bipush 10, 2) := by decide +kernel
theorem d_Bd_asItIs_42 : decode prog_2_method_4_code 42 = .ok (.iload_n 3, 1) := by decide +kernel
theorem d_Bd_asItIs_43 : decode prog_2_method_4_code 43 = .ok (.iadd, 1) := by decide +kernel
theorem d_Bd_asItIs_44 : decode prog_2_method_4_code 44 = .ok (.goto 7, 3) := by decide +kernel
theorem d_Bd_asItIs_47 : decode prog_2_method_4_code 47 = .ok (.bipush 20, 2) := by decide +kernel
theorem d_Bd_asItIs_49 : decode prog_2_method_4_code 49 = .ok (.iload_n 3, 1) := by decide +kernel
theorem d_Bd_asItIs_50 : decode prog_2_method_4_code 50 = .ok (.iadd, 1) := by decide +kernel
theorem d_Bd_asItIs_51 : decode prog_2_method_4_code 51 = .ok (.ireturn, 1) := by decide +kernel
-- PlayStates$Board.asItIs(II)I 
def ws_Bd_asItIs (G : gG) (a_t a_t_entries a_t_markBits : Nat) (n : Nat) (x_t_entries : Nat → Int32) (x_t_markBits : Nat → Int32) : va_W := [(a_t, .inr (0, [.ref a_t_entries, .ref a_t_markBits])), (a_t_entries, .inl (G.2 0, n, .inl x_t_entries)), (a_t_markBits, .inl (G.2 0, n, .inl x_t_markBits))]
def f_Bd_asItIs (n : Nat) (p0 : Int32) (p1 : Int32) (x_t_entries : Nat → Int32) (x_t_markBits : Nat → Int32) : Option (Int32) :=
  (if (10 : Int32) ≤ p1 then (if (20 : Int32) ≤ p1 then ((f_Bd_hasMark n p0 (p1 - (20 : Int32)) x_t_markBits).bind fun y3 => (if y3 = 0 then some ((20 : Int32) + (p1 - (20 : Int32))) else some ((10 : Int32) + (p1 - (20 : Int32))))) else ((f_Bd_hasMark n p0 (p1 - (10 : Int32)) x_t_markBits).bind fun y5 => (if y5 = 0 then some ((20 : Int32) + (p1 - (10 : Int32))) else some ((10 : Int32) + (p1 - (10 : Int32)))))) else (if inB p0 n then some (x_t_entries p0.toNatClampNeg) else none))
set_option maxHeartbeats 4000000 in
set_option maxRecDepth 100000 in
theorem c_Bd_asItIs (l : Launch) (G : gG) (sz : Nat) (a_t a_t_entries a_t_markBits : Nat) (n : Nat) (p0 : Int32) (p1 : Int32) (x_t_entries : Nat → Int32) (x_t_markBits : Nat → Int32) (r : Int32) (h : f_Bd_asItIs n p0 p1 x_t_entries x_t_markBits = some r)  : cN l y_Bd_asItIs w_Bd_asItIs { frames := 1, cells := 0, slots := 0, locals := 22 } G sz [.ref a_t, .int p0, .int p1] (ws_Bd_asItIs G a_t a_t_entries a_t_markBits n x_t_entries x_t_markBits) (some (.int r)) (wB G (ws_Bd_asItIs G a_t a_t_entries a_t_markBits n x_t_entries x_t_markBits)) 0 0 := by
  refine cN_ofW (cc := prog_2_method_4_code) (maxL := 4) (ret := (some .int)) (by decide) rfl (Nat.le_of_ble_eq_true rfl) ?_
  intro p e s m args below meth c A H locs ls hx hb hr hts hown hlocks hin hml hK hN hP hD hA hS hl
  replace hl : lv_has ls 4 [(0, .ref a_t), (1, .int p0), (2, .int p1)] := hl
  replace hown : s.vm.findClass "PlayStates$Board" = some m.cls := hown
  unfold f_Bd_asItIs at h
  refine lv_iload_n hx hb d_Bd_asItIs_0 rfl (lv_at hl 2 rfl) ?_
  refine lv_bipush (v := (10 : Int32)) hx hb d_Bd_asItIs_1 (by decide) ?_
  refine lv_icmp_ge (tgt := 13) hx hb d_Bd_asItIs_3 (by decide) (fun c1 => ?_) (fun c1 => ?_)
  · replace h := (if_pos c1).symm.trans h
    refine lv_iload_n hx hb d_Bd_asItIs_13 rfl (lv_at hl 2 rfl) ?_
    refine lv_bipush (v := (20 : Int32)) hx hb d_Bd_asItIs_14 (by decide) ?_
    refine lv_icmp_ge (tgt := 26) hx hb d_Bd_asItIs_16 (by decide) (fun c2 => ?_) (fun c2 => ?_)
    · replace h := (if_pos c2).symm.trans h
      refine lv_iload_n hx hb d_Bd_asItIs_26 rfl (lv_at hl 2 rfl) ?_
      refine lv_bipush (v := (20 : Int32)) hx hb d_Bd_asItIs_27 (by decide) ?_
      refine lv_isub hx hb d_Bd_asItIs_29 ?_
      refine lv_istore_n (lv' := [(3, .int (p1 - (20 : Int32))), (0, .ref a_t), (1, .int p0), (2, .int p1)]) hx hb d_Bd_asItIs_30 rfl hl (by decide) rfl (fun ls hl => ?_)
      refine lv_aload_n hx hb d_Bd_asItIs_31 rfl (lv_at hl 1 rfl) ?_
      refine lv_iload_n hx hb d_Bd_asItIs_32 rfl (lv_at hl 2 rfl) ?_
      refine lv_iload_n hx hb d_Bd_asItIs_33 rfl (lv_at hl 0 rfl) ?_
      obtain ⟨y3, hy3, h⟩ := o_bind h
      have hPc := hP.sub (ws' := (ws_Bd_hasMark G a_t a_t_entries a_t_markBits n x_t_markBits)) [0, 2] rfl
      have hDc := hD.sub (ws' := (ws_Bd_hasMark G a_t a_t_entries a_t_markBits n x_t_markBits)) [0, 2] (by decide) rfl
      have hFc := va_free (wc := (ws_Bd_hasMark G a_t a_t_entries a_t_markBits n x_t_markBits)) hD hS hA [0, 2] rfl
      refine q_call1 (va_runV (As := [.int p0, .int (p1 - (20 : Int32))]) (rest := []) ⟨hx, hb, hml, hown, hts⟩ (c_Bd_hasMark l G H.size a_t a_t_entries a_t_markBits n p0 (p1 - (20 : Int32)) x_t_markBits _ hy3) (cwV 2 hts (gV gw_179 gw_180 gw_181 gw_34 gw_182) rfl rfl rfl (by decide +kernel) ⟨Nat.le_of_ble_eq_true rfl, Nat.le_of_ble_eq_true rfl⟩) (pV hK hN hPc hDc (ci := 0) (q0 := 0) rfl rfl) rfl rfl hl.1 rfl (lv_room (Nat.le_of_ble_eq_true rfl)) d_Bd_asItIs_34 ⟨Nat.le_of_ble_eq_true rfl, Nat.le_of_ble_eq_true rfl⟩) hS (fun q _ h => hFc q h) hFc (fun H1 locs hB hz hk hS => ?_)
      obtain ⟨hP, hD⟩ := q_join (wr := [(a_t_entries, .inl (G.2 0, n, .inl x_t_entries))]) (wn := (ws_Bd_asItIs G a_t a_t_entries a_t_markBits n x_t_entries x_t_markBits)) hP hD [0, 2] [1] [1, 0, 2] rfl rfl (by decide) (by decide) rfl (by decide) hk hFc hB.1 hB.2
      generalize H1 = H at hP hS ⊢
      replace hP : va_P G.1 vwCl (ws_Bd_asItIs G a_t a_t_entries a_t_markBits n x_t_entries x_t_markBits) H := hP
      replace hD : va_D A (ws_Bd_asItIs G a_t a_t_entries a_t_markBits n x_t_entries x_t_markBits) := hD
      refine lv_if_eq (tgt := 47) hx hb d_Bd_asItIs_37 (by decide) (fun c4 => ?_) (fun c4 => ?_)
      · replace h := (if_pos c4).symm.trans h
        refine lv_bipush (v := (20 : Int32)) hx hb d_Bd_asItIs_47 (by decide) ?_
        refine lv_iload_n hx hb d_Bd_asItIs_49 rfl (lv_at hl 0 rfl) ?_
        refine lv_iadd hx hb d_Bd_asItIs_50 ?_
        cases h
        exact q_iretW hx hb hr hlocks hP hD hS d_Bd_asItIs_51
      · replace h := (if_neg c4).symm.trans h
        refine lv_bipush (v := (10 : Int32)) hx hb d_Bd_asItIs_40 (by decide) ?_
        refine lv_iload_n hx hb d_Bd_asItIs_42 rfl (lv_at hl 0 rfl) ?_
        refine lv_iadd hx hb d_Bd_asItIs_43 ?_
        refine lv_goto (tgt := 51) hx hb d_Bd_asItIs_44 (by decide) ?_
        cases h
        exact q_iretW hx hb hr hlocks hP hD hS d_Bd_asItIs_51
    · replace h := (if_neg c2).symm.trans h
      refine lv_iload_n hx hb d_Bd_asItIs_19 rfl (lv_at hl 2 rfl) ?_
      refine lv_bipush (v := (10 : Int32)) hx hb d_Bd_asItIs_20 (by decide) ?_
      refine lv_isub hx hb d_Bd_asItIs_22 ?_
      refine lv_goto (tgt := 30) hx hb d_Bd_asItIs_23 (by decide) ?_
      refine lv_istore_n (lv' := [(3, .int (p1 - (10 : Int32))), (0, .ref a_t), (1, .int p0), (2, .int p1)]) hx hb d_Bd_asItIs_30 rfl hl (by decide) rfl (fun ls hl => ?_)
      refine lv_aload_n hx hb d_Bd_asItIs_31 rfl (lv_at hl 1 rfl) ?_
      refine lv_iload_n hx hb d_Bd_asItIs_32 rfl (lv_at hl 2 rfl) ?_
      refine lv_iload_n hx hb d_Bd_asItIs_33 rfl (lv_at hl 0 rfl) ?_
      obtain ⟨y5, hy5, h⟩ := o_bind h
      have hPc := hP.sub (ws' := (ws_Bd_hasMark G a_t a_t_entries a_t_markBits n x_t_markBits)) [0, 2] rfl
      have hDc := hD.sub (ws' := (ws_Bd_hasMark G a_t a_t_entries a_t_markBits n x_t_markBits)) [0, 2] (by decide) rfl
      have hFc := va_free (wc := (ws_Bd_hasMark G a_t a_t_entries a_t_markBits n x_t_markBits)) hD hS hA [0, 2] rfl
      refine q_call1 (va_runV (As := [.int p0, .int (p1 - (10 : Int32))]) (rest := []) ⟨hx, hb, hml, hown, hts⟩ (c_Bd_hasMark l G H.size a_t a_t_entries a_t_markBits n p0 (p1 - (10 : Int32)) x_t_markBits _ hy5) (cwV 2 hts (gV gw_179 gw_180 gw_181 gw_34 gw_182) rfl rfl rfl (by decide +kernel) ⟨Nat.le_of_ble_eq_true rfl, Nat.le_of_ble_eq_true rfl⟩) (pV hK hN hPc hDc (ci := 0) (q0 := 0) rfl rfl) rfl rfl hl.1 rfl (lv_room (Nat.le_of_ble_eq_true rfl)) d_Bd_asItIs_34 ⟨Nat.le_of_ble_eq_true rfl, Nat.le_of_ble_eq_true rfl⟩) hS (fun q _ h => hFc q h) hFc (fun H1 locs hB hz hk hS => ?_)
      obtain ⟨hP, hD⟩ := q_join (wr := [(a_t_entries, .inl (G.2 0, n, .inl x_t_entries))]) (wn := (ws_Bd_asItIs G a_t a_t_entries a_t_markBits n x_t_entries x_t_markBits)) hP hD [0, 2] [1] [1, 0, 2] rfl rfl (by decide) (by decide) rfl (by decide) hk hFc hB.1 hB.2
      generalize H1 = H at hP hS ⊢
      replace hP : va_P G.1 vwCl (ws_Bd_asItIs G a_t a_t_entries a_t_markBits n x_t_entries x_t_markBits) H := hP
      replace hD : va_D A (ws_Bd_asItIs G a_t a_t_entries a_t_markBits n x_t_entries x_t_markBits) := hD
      refine lv_if_eq (tgt := 47) hx hb d_Bd_asItIs_37 (by decide) (fun c6 => ?_) (fun c6 => ?_)
      · replace h := (if_pos c6).symm.trans h
        refine lv_bipush (v := (20 : Int32)) hx hb d_Bd_asItIs_47 (by decide) ?_
        refine lv_iload_n hx hb d_Bd_asItIs_49 rfl (lv_at hl 0 rfl) ?_
        refine lv_iadd hx hb d_Bd_asItIs_50 ?_
        cases h
        exact q_iretW hx hb hr hlocks hP hD hS d_Bd_asItIs_51
      · replace h := (if_neg c6).symm.trans h
        refine lv_bipush (v := (10 : Int32)) hx hb d_Bd_asItIs_40 (by decide) ?_
        refine lv_iload_n hx hb d_Bd_asItIs_42 rfl (lv_at hl 0 rfl) ?_
        refine lv_iadd hx hb d_Bd_asItIs_43 ?_
        refine lv_goto (tgt := 51) hx hb d_Bd_asItIs_44 (by decide) ?_
        cases h
        exact q_iretW hx hb hr hlocks hP hD hS d_Bd_asItIs_51
  · replace h := (if_neg c1).symm.trans h
    refine lv_aload_n hx hb d_Bd_asItIs_6 rfl (lv_at hl 0 rfl) ?_
    refine va_get (D := G.1) (ci := 0) (v := .ref a_t_entries) (C := "PlayStates$Board") (T := TBd) (N := 2) hx hb hts iw_0 hown hK hP 0 rfl rfl 0 (by decide) (hts _ gw_79) (fun _ h9 => h9) rfl d_Bd_asItIs_7 ?_
    refine lv_iload_n hx hb d_Bd_asItIs_10 rfl (lv_at hl 1 rfl) ?_
    obtain ⟨i7, h⟩ := o_if h
    refine va_iald (n := n) (f := x_t_entries) hx hb hK hP 1 0 rfl rfl i7 d_Bd_asItIs_11 ?_
    cases h
    exact q_iretW hx hb hr hlocks hP hD hS d_Bd_asItIs_12

theorem d_Bd_put_0 : decode prog_2_method_5_code 0 = .ok (.iload_n 2, 1) := by decide +kernel
theorem d_Bd_put_1 : decode prog_2_method_5_code 1 = .ok (.bipush 10, 2) := by decide +kernel
theorem d_Bd_put_3 : decode prog_2_method_5_code 3 = .ok (.if_icmp .ge 13, 3) := by decide +kernel
theorem d_Bd_put_6 : decode prog_2_method_5_code 6 = .ok (.aload_n 0, 1) := by decide +kernel
theorem d_Bd_put_7 : decode prog_2_method_5_code 7 = .ok (.getfield 9, 3) := by decide +kernel
theorem d_Bd_put_10 : decode prog_2_method_5_code 10 = .ok (.iload_n 1, 1) := by decide +kernel
theorem d_Bd_put_11 : decode prog_2_method_5_code 11 = .ok (.iload_n 2, 1) := by decide +kernel
theorem d_Bd_put_12 : decode prog_2_method_5_code 12 = .ok (.iastore, 1) := by decide +kernel
theorem d_Bd_put_13 : decode prog_2_method_5_code 13 = .ok (.goto 44, 3) := by decide +kernel
theorem d_Bd_put_16 : decode prog_2_method_5_code 16 = .ok (.iload_n 2, 1) := by decide +kernel
theorem d_Bd_put_17 : decode prog_2_method_5_code 17 = .ok (.bipush 20, 2) := by decide +kernel
theorem d_Bd_put_19 : decode prog_2_method_5_code 19 = .ok (.if_icmp .ge 21, 3) := by decide +kernel
theorem d_Bd_put_22 : decode prog_2_method_5_code 22 = .ok (.aload_n 0, 1) := by decide +kernel
theorem d_Bd_put_23 : decode prog_2_method_5_code 23 = .ok (.getfield 15, 3) := by decide +kernel
theorem d_Bd_put_26 : decode prog_2_method_5_code 26 = .ok (.iload_n 1, 1) := by decide +kernel
theorem d_Bd_put_27 : decode prog_2_method_5_code 27 = .ok (.dup2, 1) := by decide +kernel
theorem d_Bd_put_28 : decode prog_2_method_5_code 28 = .ok (.iaload, 1) := by decide +kernel
theorem d_Bd_put_29 : decode prog_2_method_5_code 29 = .ok (.iconst 1, 1) := by decide +kernel
theorem d_Bd_put_30 : decode prog_2_method_5_code 30 = .ok (.iload_n 2, 1) := by decide +kernel
theorem d_Bd_put_31 : decode prog_2_method_5_code 31 = .ok (.bipush 10, 2) := by decide +kernel
theorem d_Bd_put_33 : decode prog_2_method_5_code 33 = .ok (.isub, 1) := by decide +kernel
theorem d_Bd_put_34 : decode prog_2_method_5_code 34 = .ok (.ishl, 1) := by decide +kernel
theorem d_Bd_put_35 : decode prog_2_method_5_code 35 = .ok (.ior, 1) := by decide +kernel
theorem d_Bd_put_36 : decode prog_2_method_5_code 36 = .ok (.iastore, 1) := by decide +kernel
theorem d_Bd_put_37 : decode prog_2_method_5_code 37 = .ok (.goto 20, 3) := by decide +kernel
theorem d_Bd_put_40 : decode prog_2_method_5_code 40 = .ok (.aload_n 0, 1) := by decide +kernel
theorem d_Bd_put_41 : decode prog_2_method_5_code 41 = .ok (.getfield 15, 3) := by decide +kernel
theorem d_Bd_put_44 : decode prog_2_method_5_code 44 = .ok (.iload_n 1, 1) := by decide +kernel
theorem d_Bd_put_45 : decode prog_2_method_5_code 45 = .ok (.dup2, 1) := by decide +kernel
theorem d_Bd_put_46 : decode prog_2_method_5_code 46 = .ok (.iaload, 1) := by decide +kernel
theorem d_Bd_put_47 : decode prog_2_method_5_code 47 = .ok (.iconst 1, 1) := by decide +kernel
theorem d_Bd_put_48 : decode prog_2_method_5_code 48 = .ok (.iload_n 2, 1) := by decide +kernel
theorem d_Bd_put_49 : decode prog_2_method_5_code 49 = .ok (.bipush 20, 2) := by decide +kernel
theorem d_Bd_put_51 : decode prog_2_method_5_code 51 = .ok (.isub, 1) := by decide +kernel
theorem d_Bd_put_52 : decode prog_2_method_5_code 52 = .ok (.ishl, 1) := by decide +kernel
theorem d_Bd_put_53 : decode prog_2_method_5_code 53 = .ok (.iconst (-1), 1) := by decide +kernel
theorem d_Bd_put_54 : decode prog_2_method_5_code 54 = .ok (.ixor, 1) := by decide +kernel
theorem d_Bd_put_55 : decode prog_2_method_5_code 55 = .ok (.iand, 1) := by decide +kernel
theorem d_Bd_put_56 : decode prog_2_method_5_code 56 = .ok (.iastore, 1) := by decide +kernel
theorem d_Bd_put_57 : decode prog_2_method_5_code 57 = .ok (.return_, 1) := by decide +kernel
-- PlayStates$Board.put(II)V 
def ws_Bd_put (G : gG) (a_t a_t_entries a_t_markBits : Nat) (n : Nat) (x_t_entries : Nat → Int32) (x_t_markBits : Nat → Int32) : va_W := [(a_t, .inr (0, [.ref a_t_entries, .ref a_t_markBits])), (a_t_entries, .inl (G.2 0, n, .inl x_t_entries)), (a_t_markBits, .inl (G.2 0, n, .inl x_t_markBits))]
def f_Bd_put (n : Nat) (p0 : Int32) (p1 : Int32) (x_t_entries : Nat → Int32) (x_t_markBits : Nat → Int32) : Option ((Nat → Int32) × (Nat → Int32)) :=
  (if (10 : Int32) ≤ p1 then (if (20 : Int32) ≤ p1 then (if inB p0 n then (if inB p0 n then some (x_t_entries, (upd x_t_markBits p0.toNatClampNeg ((x_t_markBits p0.toNatClampNeg) &&& (((1 : Int32) <<< ((p1 - (20 : Int32)) &&& 31)) ^^^ (-1 : Int32))))) else none) else none) else (if inB p0 n then (if inB p0 n then some (x_t_entries, (upd x_t_markBits p0.toNatClampNeg ((x_t_markBits p0.toNatClampNeg) ||| ((1 : Int32) <<< ((p1 - (10 : Int32)) &&& 31))))) else none) else none)) else (if inB p0 n then some ((upd x_t_entries p0.toNatClampNeg p1), x_t_markBits) else none))
set_option maxHeartbeats 4000000 in
set_option maxRecDepth 100000 in
theorem c_Bd_put (l : Launch) (G : gG) (sz : Nat) (a_t a_t_entries a_t_markBits : Nat) (n : Nat) (p0 : Int32) (p1 : Int32) (x_t_entries : Nat → Int32) (x_t_markBits : Nat → Int32) (x_t_entries' : Nat → Int32) (x_t_markBits' : Nat → Int32) (h : f_Bd_put n p0 p1 x_t_entries x_t_markBits = some (x_t_entries', x_t_markBits'))  : cN l y_Bd_put w_Bd_put { frames := 0, cells := 0, slots := 0, locals := 0 } G sz [.ref a_t, .int p0, .int p1] (ws_Bd_put G a_t a_t_entries a_t_markBits n x_t_entries x_t_markBits) none (wB G (ws_Bd_put G a_t a_t_entries a_t_markBits n x_t_entries' x_t_markBits')) 0 0 := by
  refine cN_ofW (cc := prog_2_method_5_code) (maxL := 3) (ret := none) (by decide) rfl (Nat.le_of_ble_eq_true rfl) ?_
  intro p e s m args below meth c A H locs ls hx hb hr hts hown hlocks hin hml hK hN hP hD hA hS hl
  replace hl : lv_has ls 3 [(0, .ref a_t), (1, .int p0), (2, .int p1)] := hl
  replace hown : s.vm.findClass "PlayStates$Board" = some m.cls := hown
  unfold f_Bd_put at h
  refine lv_iload_n hx hb d_Bd_put_0 rfl (lv_at hl 2 rfl) ?_
  refine lv_bipush (v := (10 : Int32)) hx hb d_Bd_put_1 (by decide) ?_
  refine lv_icmp_ge (tgt := 16) hx hb d_Bd_put_3 (by decide) (fun c1 => ?_) (fun c1 => ?_)
  · replace h := (if_pos c1).symm.trans h
    refine lv_iload_n hx hb d_Bd_put_16 rfl (lv_at hl 2 rfl) ?_
    refine lv_bipush (v := (20 : Int32)) hx hb d_Bd_put_17 (by decide) ?_
    refine lv_icmp_ge (tgt := 40) hx hb d_Bd_put_19 (by decide) (fun c2 => ?_) (fun c2 => ?_)
    · replace h := (if_pos c2).symm.trans h
      refine lv_aload_n hx hb d_Bd_put_40 rfl (lv_at hl 0 rfl) ?_
      refine va_get (D := G.1) (ci := 0) (v := .ref a_t_markBits) (C := "PlayStates$Board") (T := TBd) (N := 2) hx hb hts iw_0 hown hK hP 0 rfl rfl 1 (by decide) (hts _ gw_80) (fun _ h9 => h9) rfl d_Bd_put_41 ?_
      refine lv_iload_n hx hb d_Bd_put_44 rfl (lv_at hl 1 rfl) ?_
      refine lv_dup2_11 hx hb d_Bd_put_45 rfl rfl ?_
      obtain ⟨i3, h⟩ := o_if h
      refine va_iald (n := n) (f := x_t_markBits) hx hb hK hP 2 0 rfl rfl i3 d_Bd_put_46 ?_
      refine lv_iconst (v := (1 : Int32)) hx hb d_Bd_put_47 (by decide) ?_
      refine lv_iload_n hx hb d_Bd_put_48 rfl (lv_at hl 2 rfl) ?_
      refine lv_bipush (v := (20 : Int32)) hx hb d_Bd_put_49 (by decide) ?_
      refine lv_isub hx hb d_Bd_put_51 ?_
      refine lv_ishl hx hb d_Bd_put_52 ?_
      refine lv_iconst (v := (-1 : Int32)) hx hb d_Bd_put_53 (by decide) ?_
      refine lv_ixor hx hb d_Bd_put_54 ?_
      refine lv_iand hx hb d_Bd_put_55 ?_
      obtain ⟨i4, h⟩ := o_if h
      refine va_iast (n := n) (f := x_t_markBits) hx hb hK hP hD hS 2 0 rfl rfl i4 d_Bd_put_56 (fun H locs hP hD hS => ?_)
      replace hP : va_P G.1 vwCl (ws_Bd_put G a_t a_t_entries a_t_markBits n x_t_entries (upd x_t_markBits p0.toNatClampNeg ((x_t_markBits p0.toNatClampNeg) &&& (((1 : Int32) <<< ((p1 - (20 : Int32)) &&& 31)) ^^^ (-1 : Int32))))) H := hP
      replace hD : va_D A (ws_Bd_put G a_t a_t_entries a_t_markBits n x_t_entries (upd x_t_markBits p0.toNatClampNeg ((x_t_markBits p0.toNatClampNeg) &&& (((1 : Int32) <<< ((p1 - (20 : Int32)) &&& 31)) ^^^ (-1 : Int32))))) := hD
      cases h
      exact q_vretW hx hb hr hlocks hP hD hS d_Bd_put_57
    · replace h := (if_neg c2).symm.trans h
      refine lv_aload_n hx hb d_Bd_put_22 rfl (lv_at hl 0 rfl) ?_
      refine va_get (D := G.1) (ci := 0) (v := .ref a_t_markBits) (C := "PlayStates$Board") (T := TBd) (N := 2) hx hb hts iw_0 hown hK hP 0 rfl rfl 1 (by decide) (hts _ gw_80) (fun _ h9 => h9) rfl d_Bd_put_23 ?_
      refine lv_iload_n hx hb d_Bd_put_26 rfl (lv_at hl 1 rfl) ?_
      refine lv_dup2_11 hx hb d_Bd_put_27 rfl rfl ?_
      obtain ⟨i5, h⟩ := o_if h
      refine va_iald (n := n) (f := x_t_markBits) hx hb hK hP 2 0 rfl rfl i5 d_Bd_put_28 ?_
      refine lv_iconst (v := (1 : Int32)) hx hb d_Bd_put_29 (by decide) ?_
      refine lv_iload_n hx hb d_Bd_put_30 rfl (lv_at hl 2 rfl) ?_
      refine lv_bipush (v := (10 : Int32)) hx hb d_Bd_put_31 (by decide) ?_
      refine lv_isub hx hb d_Bd_put_33 ?_
      refine lv_ishl hx hb d_Bd_put_34 ?_
      refine lv_ior hx hb d_Bd_put_35 ?_
      obtain ⟨i6, h⟩ := o_if h
      refine va_iast (n := n) (f := x_t_markBits) hx hb hK hP hD hS 2 0 rfl rfl i6 d_Bd_put_36 (fun H locs hP hD hS => ?_)
      replace hP : va_P G.1 vwCl (ws_Bd_put G a_t a_t_entries a_t_markBits n x_t_entries (upd x_t_markBits p0.toNatClampNeg ((x_t_markBits p0.toNatClampNeg) ||| ((1 : Int32) <<< ((p1 - (10 : Int32)) &&& 31))))) H := hP
      replace hD : va_D A (ws_Bd_put G a_t a_t_entries a_t_markBits n x_t_entries (upd x_t_markBits p0.toNatClampNeg ((x_t_markBits p0.toNatClampNeg) ||| ((1 : Int32) <<< ((p1 - (10 : Int32)) &&& 31))))) := hD
      refine lv_goto (tgt := 57) hx hb d_Bd_put_37 (by decide) ?_
      cases h
      exact q_vretW hx hb hr hlocks hP hD hS d_Bd_put_57
  · replace h := (if_neg c1).symm.trans h
    refine lv_aload_n hx hb d_Bd_put_6 rfl (lv_at hl 0 rfl) ?_
    refine va_get (D := G.1) (ci := 0) (v := .ref a_t_entries) (C := "PlayStates$Board") (T := TBd) (N := 2) hx hb hts iw_0 hown hK hP 0 rfl rfl 0 (by decide) (hts _ gw_79) (fun _ h9 => h9) rfl d_Bd_put_7 ?_
    refine lv_iload_n hx hb d_Bd_put_10 rfl (lv_at hl 1 rfl) ?_
    refine lv_iload_n hx hb d_Bd_put_11 rfl (lv_at hl 2 rfl) ?_
    obtain ⟨i7, h⟩ := o_if h
    refine va_iast (n := n) (f := x_t_entries) hx hb hK hP hD hS 1 0 rfl rfl i7 d_Bd_put_12 (fun H locs hP hD hS => ?_)
    replace hP : va_P G.1 vwCl (ws_Bd_put G a_t a_t_entries a_t_markBits n (upd x_t_entries p0.toNatClampNeg p1) x_t_markBits) H := hP
    replace hD : va_D A (ws_Bd_put G a_t a_t_entries a_t_markBits n (upd x_t_entries p0.toNatClampNeg p1) x_t_markBits) := hD
    refine lv_goto (tgt := 57) hx hb d_Bd_put_13 (by decide) ?_
    cases h
    exact q_vretW hx hb hr hlocks hP hD hS d_Bd_put_57

theorem gw_145 : (.fieldLink "PlayStates$Clock" 7 "PlayStates$Clock" "lastTold" "J" : Cond) ∈ GW := gT 153 (by decide +kernel) (by decide +kernel)
theorem d_Ck_mayBeTold_0 : decode prog_3_method_2_code 0 = .ok (.lload_n 1, 1) := by decide +kernel
theorem d_Ck_mayBeTold_1 : decode prog_3_method_2_code 1 = .ok (.aload_n 0, 1) := by decide +kernel
theorem d_Ck_mayBeTold_2 : decode prog_3_method_2_code 2 = .ok (.getfield 7, 3) := by decide +kernel
theorem d_Ck_mayBeTold_5 : decode prog_3_method_2_code 5 = .ok (.lcmp, 1) := by decide +kernel
theorem d_Ck_mayBeTold_6 : decode prog_3_method_2_code 6 = .ok (.ifCond .lt 7, 3) := by decide +kernel
theorem d_Ck_mayBeTold_9 : decode prog_3_method_2_code 9 = .ok (.iconst 1, 1) := by decide +kernel
theorem d_Ck_mayBeTold_10 : decode prog_3_method_2_code 10 = .ok (.goto 4, 3) := by decide +kernel
theorem d_Ck_mayBeTold_13 : decode prog_3_method_2_code 13 = .ok (.iconst 0, 1) := by decide +kernel
theorem d_Ck_mayBeTold_14 : decode prog_3_method_2_code 14 = .ok (.ireturn, 1) := by decide +kernel
-- PlayStates$Clock.mayBeTold(J)Z 
def ws_Ck_mayBeTold (G : gG) (a_t : Nat)  (x_t_running : Int32) (x_t_lastTold : Int64) (x_t_counted : Int64) : va_W := [(a_t, .inr (1, [.int x_t_running, .long x_t_lastTold, .long x_t_counted]))]
def f_Ck_mayBeTold  (p0 : Int64) (x_t_running : Int32) (x_t_lastTold : Int64) (x_t_counted : Int64) : Option (Int32) :=
  (if (lg_cmp p0 x_t_lastTold) < 0 then some (0 : Int32) else some (1 : Int32))
set_option maxHeartbeats 4000000 in
set_option maxRecDepth 100000 in
theorem c_Ck_mayBeTold (l : Launch) (G : gG) (sz : Nat) (a_t : Nat)  (p0 : Int64) (x_t_running : Int32) (x_t_lastTold : Int64) (x_t_counted : Int64) (r : Int32) (h : f_Ck_mayBeTold p0 x_t_running x_t_lastTold x_t_counted = some r)  : cN l y_Ck_mayBeTold w_Ck_mayBeTold { frames := 0, cells := 0, slots := 0, locals := 0 } G sz [.ref a_t, .long p0] (ws_Ck_mayBeTold G a_t x_t_running x_t_lastTold x_t_counted) (some (.int r)) (wB G (ws_Ck_mayBeTold G a_t x_t_running x_t_lastTold x_t_counted)) 0 0 := by
  refine cN_ofW (cc := prog_3_method_2_code) (maxL := 3) (ret := (some .boolean)) (by decide) rfl (Nat.le_of_ble_eq_true rfl) ?_
  intro p e s m args below meth c A H locs ls hx hb hr hts hown hlocks hin hml hK hN hP hD hA hS hl
  replace hl : lv_has ls 3 [(0, .ref a_t), (1, .long p0)] := hl
  replace hown : s.vm.findClass "PlayStates$Clock" = some m.cls := hown
  unfold f_Ck_mayBeTold at h
  refine lv_lload_n hx hb d_Ck_mayBeTold_0 rfl (lv_at hl 1 rfl) ?_
  refine lv_aload_n hx hb d_Ck_mayBeTold_1 rfl (lv_at hl 0 rfl) ?_
  refine va_get (D := G.1) (ci := 1) (v := .long x_t_lastTold) (C := "PlayStates$Clock") (T := TCk) (N := 3) hx hb hts iw_1 hown hK hP 0 rfl rfl 1 (by decide) (hts _ gw_145) (fun _ h9 => h9) rfl d_Ck_mayBeTold_2 ?_
  refine W.lcmp hx hb d_Ck_mayBeTold_5 ?_
  refine lv_if_lt (tgt := 13) hx hb d_Ck_mayBeTold_6 (by decide) (fun c1 => ?_) (fun c1 => ?_)
  · replace h := (if_pos c1).symm.trans h
    refine lv_iconst (v := (0 : Int32)) hx hb d_Ck_mayBeTold_13 (by decide) ?_
    cases h
    exact q_zretW hx hb hr hlocks (by decide) hP hD hS d_Ck_mayBeTold_14
  · replace h := (if_neg c1).symm.trans h
    refine lv_iconst (v := (1 : Int32)) hx hb d_Ck_mayBeTold_9 (by decide) ?_
    refine lv_goto (tgt := 14) hx hb d_Ck_mayBeTold_10 (by decide) ?_
    cases h
    exact q_zretW hx hb hr hlocks (by decide) hP hD hS d_Ck_mayBeTold_14

theorem gw_144 : (.fieldLink "PlayStates$Clock" 13 "PlayStates$Clock" "running" "Z" : Cond) ∈ GW := gT 152 (by decide +kernel) (by decide +kernel)
theorem gw_146 : (.fieldLink "PlayStates$Clock" 17 "PlayStates$Clock" "counted" "J" : Cond) ∈ GW := gT 154 (by decide +kernel) (by decide +kernel)
theorem d_Ck_countUpTo_0 : decode prog_3_method_3_code 0 = .ok (.aload_n 0, 1) := by decide +kernel
theorem d_Ck_countUpTo_1 : decode prog_3_method_3_code 1 = .ok (.getfield 13, 3) := by decide +kernel
theorem d_Ck_countUpTo_4 : decode prog_3_method_3_code 4 = .ok (.ifCond .eq 17, 3) := by decide +kernel
theorem d_Ck_countUpTo_7 : decode prog_3_method_3_code 7 = .ok (.aload_n 0, 1) := by decide +kernel
theorem d_Ck_countUpTo_8 : decode prog_3_method_3_code 8 = .ok (.getfield 17, 3) := by decide +kernel
theorem d_Ck_countUpTo_11 : decode prog_3_method_3_code 11 = .ok (.lload_n 1, 1) := by decide +kernel
theorem d_Ck_countUpTo_12 : decode prog_3_method_3_code 12 = .ok (.aload_n 0, 1) := by decide +kernel
theorem d_Ck_countUpTo_13 : decode prog_3_method_3_code 13 = .ok (.getfield 7, 3) := by decide +kernel
theorem d_Ck_countUpTo_16 : decode prog_3_method_3_code 16 = .ok (.lsub, 1) := by decide +kernel
theorem d_Ck_countUpTo_17 : decode prog_3_method_3_code 17 = .ok (.ladd, 1) := by decide +kernel
theorem d_Ck_countUpTo_18 : decode prog_3_method_3_code 18 = .ok (.goto 7, 3) := by decide +kernel
theorem d_Ck_countUpTo_21 : decode prog_3_method_3_code 21 = .ok (.aload_n 0, 1) := by decide +kernel
theorem d_Ck_countUpTo_22 : decode prog_3_method_3_code 22 = .ok (.getfield 17, 3) := by decide +kernel
theorem d_Ck_countUpTo_25 : decode prog_3_method_3_code 25 = .ok (.lreturn, 1) := by decide +kernel
-- PlayStates$Clock.countUpTo(J)J 
def ws_Ck_countUpTo (G : gG) (a_t : Nat)  (x_t_running : Int32) (x_t_lastTold : Int64) (x_t_counted : Int64) : va_W := [(a_t, .inr (1, [.int x_t_running, .long x_t_lastTold, .long x_t_counted]))]
def f_Ck_countUpTo  (p0 : Int64) (x_t_running : Int32) (x_t_lastTold : Int64) (x_t_counted : Int64) : Option (Int64) :=
  (if x_t_running = 0 then some x_t_counted else some (x_t_counted + (p0 - x_t_lastTold)))
set_option maxHeartbeats 4000000 in
set_option maxRecDepth 100000 in
theorem c_Ck_countUpTo (l : Launch) (G : gG) (sz : Nat) (a_t : Nat)  (p0 : Int64) (x_t_running : Int32) (x_t_lastTold : Int64) (x_t_counted : Int64) (r : Int64) (h : f_Ck_countUpTo p0 x_t_running x_t_lastTold x_t_counted = some r)  : cN l y_Ck_countUpTo w_Ck_countUpTo { frames := 0, cells := 0, slots := 0, locals := 0 } G sz [.ref a_t, .long p0] (ws_Ck_countUpTo G a_t x_t_running x_t_lastTold x_t_counted) (some (.long r)) (wB G (ws_Ck_countUpTo G a_t x_t_running x_t_lastTold x_t_counted)) 0 0 := by
  refine cN_ofW (cc := prog_3_method_3_code) (maxL := 3) (ret := (some .long)) (by decide) rfl (Nat.le_of_ble_eq_true rfl) ?_
  intro p e s m args below meth c A H locs ls hx hb hr hts hown hlocks hin hml hK hN hP hD hA hS hl
  replace hl : lv_has ls 3 [(0, .ref a_t), (1, .long p0)] := hl
  replace hown : s.vm.findClass "PlayStates$Clock" = some m.cls := hown
  unfold f_Ck_countUpTo at h
  refine lv_aload_n hx hb d_Ck_countUpTo_0 rfl (lv_at hl 0 rfl) ?_
  refine va_get (D := G.1) (ci := 1) (v := .int x_t_running) (C := "PlayStates$Clock") (T := TCk) (N := 3) hx hb hts iw_1 hown hK hP 0 rfl rfl 0 (by decide) (hts _ gw_144) (fun _ h9 => h9) rfl d_Ck_countUpTo_1 ?_
  refine lv_if_eq (tgt := 21) hx hb d_Ck_countUpTo_4 (by decide) (fun c1 => ?_) (fun c1 => ?_)
  · replace h := (if_pos c1).symm.trans h
    refine lv_aload_n hx hb d_Ck_countUpTo_21 rfl (lv_at hl 0 rfl) ?_
    refine va_get (D := G.1) (ci := 1) (v := .long x_t_counted) (C := "PlayStates$Clock") (T := TCk) (N := 3) hx hb hts iw_1 hown hK hP 0 rfl rfl 2 (by decide) (hts _ gw_146) (fun _ h9 => h9) rfl d_Ck_countUpTo_22 ?_
    cases h
    exact q_lretW hx hb hr hlocks hP hD hS d_Ck_countUpTo_25
  · replace h := (if_neg c1).symm.trans h
    refine lv_aload_n hx hb d_Ck_countUpTo_7 rfl (lv_at hl 0 rfl) ?_
    refine va_get (D := G.1) (ci := 1) (v := .long x_t_counted) (C := "PlayStates$Clock") (T := TCk) (N := 3) hx hb hts iw_1 hown hK hP 0 rfl rfl 2 (by decide) (hts _ gw_146) (fun _ h9 => h9) rfl d_Ck_countUpTo_8 ?_
    refine lv_lload_n hx hb d_Ck_countUpTo_11 rfl (lv_at hl 1 rfl) ?_
    refine lv_aload_n hx hb d_Ck_countUpTo_12 rfl (lv_at hl 0 rfl) ?_
    refine va_get (D := G.1) (ci := 1) (v := .long x_t_lastTold) (C := "PlayStates$Clock") (T := TCk) (N := 3) hx hb hts iw_1 hown hK hP 0 rfl rfl 1 (by decide) (hts _ gw_145) (fun _ h9 => h9) rfl d_Ck_countUpTo_13 ?_
    refine lv_lsub hx hb d_Ck_countUpTo_16 ?_
    refine lv_ladd hx hb d_Ck_countUpTo_17 ?_
    refine lv_goto (tgt := 25) hx hb d_Ck_countUpTo_18 (by decide) ?_
    cases h
    exact q_lretW hx hb hr hlocks hP hD hS d_Ck_countUpTo_25

theorem gw_271 : (.code ⟨"PlayStates$Clock", "countUpTo", "(J)J"⟩ prog_3_method_3_code 3 (some .long) : Cond) ∈ GW := gT 298 (by decide +kernel) (by decide +kernel)
theorem gw_268 : (.methodLink "PlayStates$Clock" 20 ⟨"PlayStates$Clock", "countUpTo", "(J)J"⟩ : Cond) ∈ GW := gT 295 (by decide +kernel) (by decide +kernel)
theorem gw_38 : (.initialized "PlayStates$Clock" : Cond) ∈ GW := gT 8 (by decide +kernel) (by decide +kernel)
theorem gw_269 : (.instanceMethod ⟨"PlayStates$Clock", "countUpTo", "(J)J"⟩ : Cond) ∈ GW := gT 296 (by decide +kernel) (by decide +kernel)
theorem gw_270 : (.selects "PlayStates$Clock" ⟨"PlayStates$Clock", "countUpTo", "(J)J"⟩ ⟨"PlayStates$Clock", "countUpTo", "(J)J"⟩ : Cond) ∈ GW := gT 297 (by decide +kernel) (by decide +kernel)
theorem d_Ck_tellTime_0 : decode prog_3_method_4_code 0 = .ok (.aload_n 0, 1) := by decide +kernel
theorem d_Ck_tellTime_1 : decode prog_3_method_4_code 1 = .ok (.aload_n 0, 1) := by decide +kernel
theorem d_Ck_tellTime_2 : decode prog_3_method_4_code 2 = .ok (.lload_n 1, 1) := by decide +kernel
theorem d_Ck_tellTime_3 : decode prog_3_method_4_code 3 = .ok (.invokevirtual 20, 3) := by decide +kernel
theorem d_Ck_tellTime_6 : decode prog_3_method_4_code 6 = .ok (.putfield 17, 3) := by decide +kernel
theorem d_Ck_tellTime_9 : decode prog_3_method_4_code 9 = .ok (.aload_n 0, 1) := by decide +kernel
theorem d_Ck_tellTime_10 : decode prog_3_method_4_code 10 = .ok (.lload_n 1, 1) := by decide +kernel
theorem d_Ck_tellTime_11 : decode prog_3_method_4_code 11 = .ok (.putfield 7, 3) := by decide +kernel
theorem d_Ck_tellTime_14 : decode prog_3_method_4_code 14 = .ok (.aload_n 0, 1) := by decide +kernel
theorem d_Ck_tellTime_15 : decode prog_3_method_4_code 15 = .ok (.iload_n 3, 1) := by decide +kernel
theorem d_Ck_tellTime_16 : decode prog_3_method_4_code 16 = .ok (.putfield 13, 3) := by decide +kernel
theorem d_Ck_tellTime_19 : decode prog_3_method_4_code 19 = .ok (.return_, 1) := by decide +kernel
-- PlayStates$Clock.tellTime(JZ)V 
def ws_Ck_tellTime (G : gG) (a_t : Nat)  (x_t_running : Int32) (x_t_lastTold : Int64) (x_t_counted : Int64) : va_W := [(a_t, .inr (1, [.int x_t_running, .long x_t_lastTold, .long x_t_counted]))]
def f_Ck_tellTime  (p0 : Int64) (p1 : Int32) (x_t_running : Int32) (x_t_lastTold : Int64) (x_t_counted : Int64) : Option (Int32 × Int64 × Int64) :=
  ((f_Ck_countUpTo p0 x_t_running x_t_lastTold x_t_counted).bind fun y1 => (if (p1 = 0 ∨ p1 = 1) then some (p1, p0, y1) else none))
set_option maxHeartbeats 4000000 in
set_option maxRecDepth 100000 in
theorem c_Ck_tellTime (l : Launch) (G : gG) (sz : Nat) (a_t : Nat)  (p0 : Int64) (p1 : Int32) (x_t_running : Int32) (x_t_lastTold : Int64) (x_t_counted : Int64) (x_t_running' : Int32) (x_t_lastTold' : Int64) (x_t_counted' : Int64) (h : f_Ck_tellTime p0 p1 x_t_running x_t_lastTold x_t_counted = some (x_t_running', x_t_lastTold', x_t_counted'))  : cN l y_Ck_tellTime w_Ck_tellTime { frames := 1, cells := 0, slots := 0, locals := 22 } G sz [.ref a_t, .long p0, .int p1] (ws_Ck_tellTime G a_t x_t_running x_t_lastTold x_t_counted) none (wB G (ws_Ck_tellTime G a_t x_t_running' x_t_lastTold' x_t_counted')) 0 0 := by
  refine cN_ofW (cc := prog_3_method_4_code) (maxL := 4) (ret := none) (by decide) rfl (Nat.le_of_ble_eq_true rfl) ?_
  intro p e s m args below meth c A H locs ls hx hb hr hts hown hlocks hin hml hK hN hP hD hA hS hl
  replace hl : lv_has ls 4 [(0, .ref a_t), (1, .long p0), (3, .int p1)] := hl
  replace hown : s.vm.findClass "PlayStates$Clock" = some m.cls := hown
  unfold f_Ck_tellTime at h
  refine lv_aload_n hx hb d_Ck_tellTime_0 rfl (lv_at hl 0 rfl) ?_
  refine lv_aload_n hx hb d_Ck_tellTime_1 rfl (lv_at hl 0 rfl) ?_
  refine lv_lload_n hx hb d_Ck_tellTime_2 rfl (lv_at hl 1 rfl) ?_
  obtain ⟨y1, hy1, h⟩ := o_bind h
  have hPc := hP.sub (ws' := (ws_Ck_countUpTo G a_t x_t_running x_t_lastTold x_t_counted)) [0] rfl
  have hDc := hD.sub (ws' := (ws_Ck_countUpTo G a_t x_t_running x_t_lastTold x_t_counted)) [0] (by decide) rfl
  have hFc := va_free (wc := (ws_Ck_countUpTo G a_t x_t_running x_t_lastTold x_t_counted)) hD hS hA [0] rfl
  refine q_call1 (va_runV (As := [.long p0]) (rest := [.ref a_t]) ⟨hx, hb, hml, hown, hts⟩ (c_Ck_countUpTo l G H.size a_t p0 x_t_running x_t_lastTold x_t_counted _ hy1) (cwV 1 hts (gV gw_268 gw_269 gw_270 gw_38 gw_271) rfl rfl rfl (by decide +kernel) ⟨Nat.le_of_ble_eq_true rfl, Nat.le_of_ble_eq_true rfl⟩) (pV hK hN hPc hDc (ci := 1) (q0 := 0) rfl rfl) rfl rfl hl.1 rfl (lv_room (Nat.le_of_ble_eq_true rfl)) d_Ck_tellTime_3 ⟨Nat.le_of_ble_eq_true rfl, Nat.le_of_ble_eq_true rfl⟩) hS (fun q _ h => hFc q h) hFc (fun H1 locs hB hz hk hS => ?_)
  obtain ⟨hP, hD⟩ := q_joinA hFc hB.1 hB.2
  generalize H1 = H at hP hS ⊢
  replace hP : va_P G.1 vwCl (ws_Ck_tellTime G a_t x_t_running x_t_lastTold x_t_counted) H := hP
  replace hD : va_D A (ws_Ck_tellTime G a_t x_t_running x_t_lastTold x_t_counted) := hD
  refine va_put (D := G.1) (ci := 1) (v := .long y1) (ty := .long) (C := "PlayStates$Clock") (T := TCk) (N := 3) hx hb hts iw_1 tyCk tyCk_ok nmCk hown hK hP hD hS 0 rfl rfl 2 (by decide) (hts _ gw_146) (fun _ h9 => h9) rfl (by decide +kernel) (by rfl) (by rfl) (Nat.le_of_ble_eq_true rfl) d_Ck_tellTime_6 (fun H locs hP hD hS => ?_)
  replace hP : va_P G.1 vwCl (ws_Ck_tellTime G a_t x_t_running x_t_lastTold y1) H := hP
  replace hD : va_D A (ws_Ck_tellTime G a_t x_t_running x_t_lastTold y1) := hD
  refine lv_aload_n hx hb d_Ck_tellTime_9 rfl (lv_at hl 0 rfl) ?_
  refine lv_lload_n hx hb d_Ck_tellTime_10 rfl (lv_at hl 1 rfl) ?_
  refine va_put (D := G.1) (ci := 1) (v := .long p0) (ty := .long) (C := "PlayStates$Clock") (T := TCk) (N := 3) hx hb hts iw_1 tyCk tyCk_ok nmCk hown hK hP hD hS 0 rfl rfl 1 (by decide) (hts _ gw_145) (fun _ h9 => h9) rfl (by decide +kernel) (by rfl) (by rfl) (Nat.le_of_ble_eq_true rfl) d_Ck_tellTime_11 (fun H locs hP hD hS => ?_)
  replace hP : va_P G.1 vwCl (ws_Ck_tellTime G a_t x_t_running p0 y1) H := hP
  replace hD : va_D A (ws_Ck_tellTime G a_t x_t_running p0 y1) := hD
  refine lv_aload_n hx hb d_Ck_tellTime_14 rfl (lv_at hl 0 rfl) ?_
  refine lv_iload_n hx hb d_Ck_tellTime_15 rfl (lv_at hl 2 rfl) ?_
  obtain ⟨b2, h⟩ := o_if h
  refine va_put (D := G.1) (ci := 1) (v := .int p1) (ty := .boolean) (C := "PlayStates$Clock") (T := TCk) (N := 3) hx hb hts iw_1 tyCk tyCk_ok nmCk hown hK hP hD hS 0 rfl rfl 0 (by decide) (hts _ gw_144) (fun _ h9 => h9) rfl (by decide +kernel) (bool01 b2).1 (bool01 b2).2 (Nat.le_of_ble_eq_true rfl) d_Ck_tellTime_16 (fun H locs hP hD hS => ?_)
  replace hP : va_P G.1 vwCl (ws_Ck_tellTime G a_t p1 p0 y1) H := hP
  replace hD : va_D A (ws_Ck_tellTime G a_t p1 p0 y1) := hD
  cases h
  exact q_vretW hx hb hr hlocks hP hD hS d_Ck_tellTime_19
