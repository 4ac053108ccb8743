theorem gw_66 : (.fieldLink "PlayStates$RowTable" 24 "PlayStates$RowTable" "count" "I" : Cond) ∈ GW := gT 41 (by decide +kernel) (by decide +kernel)
theorem d_Rt_holds_0 : decode prog_5_method_2_code 0 = .ok (.iload_n 1, 1) := by decide +kernel
theorem d_Rt_holds_1 : decode prog_5_method_2_code 1 = .ok (.ifCond .lt 15, 3) := by decide +kernel
theorem d_Rt_holds_4 : decode prog_5_method_2_code 4 = .ok (.iload_n 1, 1) := by decide +kernel
theorem d_Rt_holds_5 : decode prog_5_method_2_code 5 = .ok (.aload_n 0, 1) := by decide +kernel
theorem d_Rt_holds_6 : decode prog_5_method_2_code 6 = .ok (.getfield 24, 3) := by decide +kernel
theorem d_Rt_holds_9 : decode prog_5_method_2_code 9 = .ok (.if_icmp .ge 7, 3) := by decide +kernel
theorem d_Rt_holds_12 : decode prog_5_method_2_code 12 = .ok (.iconst 1, 1) := by decide +kernel
theorem d_Rt_holds_13 : decode prog_5_method_2_code 13 = .ok (.goto 4, 3) := by decide +kernel
theorem d_Rt_holds_16 : decode prog_5_method_2_code 16 = .ok (.iconst 0, 1) := by decide +kernel
theorem d_Rt_holds_17 : decode prog_5_method_2_code 17 = .ok (.ireturn, 1) := by decide +kernel
-- PlayStates$RowTable.holds(I)Z 
def ws_Rt_holds (G : gG) (a_t a_t_place a_t_told a_t_before a_t_behind : Nat)  (x_t_count : Int32) : va_W := [(a_t, .inr (3, [.ref a_t_place, .ref a_t_told, .ref a_t_before, .ref a_t_behind, .int x_t_count]))]
def f_Rt_holds  (p0 : Int32) (x_t_count : Int32) : Option (Int32) :=
  (if p0 < 0 then some (0 : Int32) else (if x_t_count ≤ p0 then some (0 : Int32) else some (1 : Int32)))
set_option maxHeartbeats 4000000 in
set_option maxRecDepth 100000 in
theorem c_Rt_holds (l : Launch) (G : gG) (sz : Nat) (a_t a_t_place a_t_told a_t_before a_t_behind : Nat)  (p0 : Int32) (x_t_count : Int32) (r : Int32) (h : f_Rt_holds p0 x_t_count = some r)  : cN l y_Rt_holds w_Rt_holds { frames := 0, cells := 0, slots := 0, locals := 0 } G sz [.ref a_t, .int p0] (ws_Rt_holds G a_t a_t_place a_t_told a_t_before a_t_behind x_t_count) (some (.int r)) (wB G (ws_Rt_holds G a_t a_t_place a_t_told a_t_before a_t_behind x_t_count)) 0 0 := by
  refine cN_ofW (cc := prog_5_method_2_code) (maxL := 2) (ret := (some .boolean)) (by decide) rfl (Nat.le_of_ble_eq_true rfl) ?_
  intro p e s m args below meth c A H locs ls hx hb hr hts hown hlocks hin hml hK hN hP hD hA hS hl
  replace hl : lv_has ls 2 [(0, .ref a_t), (1, .int p0)] := hl
  replace hown : s.vm.findClass "PlayStates$RowTable" = some m.cls := hown
  unfold f_Rt_holds at h
  refine lv_iload_n hx hb d_Rt_holds_0 rfl (lv_at hl 1 rfl) ?_
  refine lv_if_lt (tgt := 16) hx hb d_Rt_holds_1 (by decide) (fun c1 => ?_) (fun c1 => ?_)
  · replace h := (if_pos c1).symm.trans h
    refine lv_iconst (v := (0 : Int32)) hx hb d_Rt_holds_16 (by decide) ?_
    cases h
    exact q_zretW hx hb hr hlocks (by decide) hP hD hS d_Rt_holds_17
  · replace h := (if_neg c1).symm.trans h
    refine lv_iload_n hx hb d_Rt_holds_4 rfl (lv_at hl 1 rfl) ?_
    refine lv_aload_n hx hb d_Rt_holds_5 rfl (lv_at hl 0 rfl) ?_
    refine va_get (D := G.1) (ci := 3) (v := .int x_t_count) (C := "PlayStates$RowTable") (T := TRt) (N := 5) hx hb hts iw_3 hown hK hP 0 rfl rfl 4 (by decide) (hts _ gw_66) (fun _ h9 => h9) rfl d_Rt_holds_6 ?_
    refine lv_icmp_ge (tgt := 16) hx hb d_Rt_holds_9 (by decide) (fun c2 => ?_) (fun c2 => ?_)
    · replace h := (if_pos c2).symm.trans h
      refine lv_iconst (v := (0 : Int32)) hx hb d_Rt_holds_16 (by decide) ?_
      cases h
      exact q_zretW hx hb hr hlocks (by decide) hP hD hS d_Rt_holds_17
    · replace h := (if_neg c2).symm.trans h
      refine lv_iconst (v := (1 : Int32)) hx hb d_Rt_holds_12 (by decide) ?_
      refine lv_goto (tgt := 17) hx hb d_Rt_holds_13 (by decide) ?_
      cases h
      exact q_zretW hx hb hr hlocks (by decide) hP hD hS d_Rt_holds_17

theorem d_Rt_hasRoomFor_0 : decode prog_5_method_3_code 0 = .ok (.iload_n 1, 1) := by decide +kernel
theorem d_Rt_hasRoomFor_1 : decode prog_5_method_3_code 1 = .ok (.sipush 600, 3) := by decide +kernel
theorem d_Rt_hasRoomFor_4 : decode prog_5_method_3_code 4 = .ok (.aload_n 0, 1) := by decide +kernel
theorem d_Rt_hasRoomFor_5 : decode prog_5_method_3_code 5 = .ok (.getfield 24, 3) := by decide +kernel
theorem d_Rt_hasRoomFor_8 : decode prog_5_method_3_code 8 = .ok (.isub, 1) := by decide +kernel
theorem d_Rt_hasRoomFor_9 : decode prog_5_method_3_code 9 = .ok (.if_icmp .gt 7, 3) := by decide +kernel
theorem d_Rt_hasRoomFor_12 : decode prog_5_method_3_code 12 = .ok (.iconst 1, 1) := by decide +kernel
theorem d_Rt_hasRoomFor_13 : decode prog_5_method_3_code 13 = .ok (.goto 4, 3) := by decide +kernel
theorem d_Rt_hasRoomFor_16 : decode prog_5_method_3_code 16 = .ok (.iconst 0, 1) := by decide +kernel
theorem d_Rt_hasRoomFor_17 : decode prog_5_method_3_code 17 = .ok (.ireturn, 1) := by decide +kernel
-- PlayStates$RowTable.hasRoomFor(I)Z 
def ws_Rt_hasRoomFor (G : gG) (a_t a_t_place a_t_told a_t_before a_t_behind : Nat)  (x_t_count : Int32) : va_W := [(a_t, .inr (3, [.ref a_t_place, .ref a_t_told, .ref a_t_before, .ref a_t_behind, .int x_t_count]))]
def f_Rt_hasRoomFor  (p0 : Int32) (x_t_count : Int32) : Option (Int32) :=
  (if ((600 : Int32) - x_t_count) < p0 then some (0 : Int32) else some (1 : Int32))
set_option maxHeartbeats 4000000 in
set_option maxRecDepth 100000 in
theorem c_Rt_hasRoomFor (l : Launch) (G : gG) (sz : Nat) (a_t a_t_place a_t_told a_t_before a_t_behind : Nat)  (p0 : Int32) (x_t_count : Int32) (r : Int32) (h : f_Rt_hasRoomFor p0 x_t_count = some r)  : cN l y_Rt_hasRoomFor w_Rt_hasRoomFor { frames := 0, cells := 0, slots := 0, locals := 0 } G sz [.ref a_t, .int p0] (ws_Rt_hasRoomFor G a_t a_t_place a_t_told a_t_before a_t_behind x_t_count) (some (.int r)) (wB G (ws_Rt_hasRoomFor G a_t a_t_place a_t_told a_t_before a_t_behind x_t_count)) 0 0 := by
  refine cN_ofW (cc := prog_5_method_3_code) (maxL := 2) (ret := (some .boolean)) (by decide) rfl (Nat.le_of_ble_eq_true rfl) ?_
  intro p e s m args below meth c A H locs ls hx hb hr hts hown hlocks hin hml hK hN hP hD hA hS hl
  replace hl : lv_has ls 2 [(0, .ref a_t), (1, .int p0)] := hl
  replace hown : s.vm.findClass "PlayStates$RowTable" = some m.cls := hown
  unfold f_Rt_hasRoomFor at h
  refine lv_iload_n hx hb d_Rt_hasRoomFor_0 rfl (lv_at hl 1 rfl) ?_
  refine lv_sipush (v := (600 : Int32)) hx hb d_Rt_hasRoomFor_1 (by decide) ?_
  refine lv_aload_n hx hb d_Rt_hasRoomFor_4 rfl (lv_at hl 0 rfl) ?_
  refine va_get (D := G.1) (ci := 3) (v := .int x_t_count) (C := "PlayStates$RowTable") (T := TRt) (N := 5) hx hb hts iw_3 hown hK hP 0 rfl rfl 4 (by decide) (hts _ gw_66) (fun _ h9 => h9) rfl d_Rt_hasRoomFor_5 ?_
  refine lv_isub hx hb d_Rt_hasRoomFor_8 ?_
  refine lv_icmp_gt (tgt := 16) hx hb d_Rt_hasRoomFor_9 (by decide) (fun c1 => ?_) (fun c1 => ?_)
  · replace h := (if_pos c1).symm.trans h
    refine lv_iconst (v := (0 : Int32)) hx hb d_Rt_hasRoomFor_16 (by decide) ?_
    cases h
    exact q_zretW hx hb hr hlocks (by decide) hP hD hS d_Rt_hasRoomFor_17
  · replace h := (if_neg c1).symm.trans h
    refine lv_iconst (v := (1 : Int32)) hx hb d_Rt_hasRoomFor_12 (by decide) ?_
    refine lv_goto (tgt := 17) hx hb d_Rt_hasRoomFor_13 (by decide) ?_
    cases h
    exact q_zretW hx hb hr hlocks (by decide) hP hD hS d_Rt_hasRoomFor_17

theorem gw_62 : (.fieldLink "PlayStates$RowTable" 9 "PlayStates$RowTable" "place" "[I" : Cond) ∈ GW := gT 33 (by decide +kernel) (by decide +kernel)
theorem gw_63 : (.fieldLink "PlayStates$RowTable" 15 "PlayStates$RowTable" "told" "[I" : Cond) ∈ GW := gT 35 (by decide +kernel) (by decide +kernel)
theorem gw_64 : (.fieldLink "PlayStates$RowTable" 18 "PlayStates$RowTable" "before" "[I" : Cond) ∈ GW := gT 37 (by decide +kernel) (by decide +kernel)
theorem gw_65 : (.fieldLink "PlayStates$RowTable" 21 "PlayStates$RowTable" "behind" "[I" : Cond) ∈ GW := gT 39 (by decide +kernel) (by decide +kernel)
theorem d_Rt_add_0 : decode prog_5_method_4_code 0 = .ok (.aload_n 0, 1) := by decide +kernel
theorem d_Rt_add_1 : decode prog_5_method_4_code 1 = .ok (.getfield 24, 3) := by decide +kernel
theorem d_Rt_add_4 : decode prog_5_method_4_code 4 = .ok (.istore 5, 2) := by decide +kernel
theorem d_Rt_add_6 : decode prog_5_method_4_code 6 = .ok (.aload_n 0, 1) := by decide +kernel
theorem d_Rt_add_7 : decode prog_5_method_4_code 7 = .ok (.getfield 9, 3) := by decide +kernel
theorem d_Rt_add_10 : decode prog_5_method_4_code 10 = .ok (.iload 5, 2) := by decide +kernel
theorem d_Rt_add_12 : decode prog_5_method_4_code 12 = .ok (.iload_n 1, 1) := by decide +kernel
theorem d_Rt_add_13 : decode prog_5_method_4_code 13 = .ok (.iastore, 1) := by decide +kernel
theorem d_Rt_add_14 : decode prog_5_method_4_code 14 = .ok (.aload_n 0, 1) := by decide +kernel
theorem d_Rt_add_15 : decode prog_5_method_4_code 15 = .ok (.getfield 15, 3) := by decide +kernel
theorem d_Rt_add_18 : decode prog_5_method_4_code 18 = .ok (.iload 5, 2) := by decide +kernel
theorem d_Rt_add_20 : decode prog_5_method_4_code 20 = .ok (.iload_n 2, 1) := by decide +kernel
theorem d_Rt_add_21 : decode prog_5_method_4_code 21 = .ok (.iastore, 1) := by decide +kernel
theorem d_Rt_add_22 : decode prog_5_method_4_code 22 = .ok (.aload_n 0, 1) := by decide +kernel
theorem d_Rt_add_23 : decode prog_5_method_4_code 23 = .ok (.getfield 18, 3) := by decide +kernel
theorem d_Rt_add_26 : decode prog_5_method_4_code 26 = .ok (.iload 5, 2) := by decide +kernel
theorem d_Rt_add_28 : decode prog_5_method_4_code 28 = .ok (.iload_n 3, 1) := by decide +kernel
theorem d_Rt_add_29 : decode prog_5_method_4_code 29 = .ok (.iastore, 1) := by decide +kernel
theorem d_Rt_add_30 : decode prog_5_method_4_code 30 = .ok (.aload_n 0, 1) := by decide +kernel
theorem d_Rt_add_31 : decode prog_5_method_4_code 31 = .ok (.getfield 21, 3) := by decide +kernel
theorem d_Rt_add_34 : decode prog_5_method_4_code 34 = .ok (.iload 5, 2) := by decide +kernel
theorem d_Rt_add_36 : decode prog_5_method_4_code 36 = .ok (.iload 4, 2) := by decide +kernel
theorem d_Rt_add_38 : decode prog_5_method_4_code 38 = .ok (.iastore, 1) := by decide +kernel
theorem d_Rt_add_39 : decode prog_5_method_4_code 39 = .ok (.aload_n 0, 1) := by decide +kernel
theorem d_Rt_add_40 : decode prog_5_method_4_code 40 = .ok (.dup, 1) := by decide +kernel
theorem d_Rt_add_41 : decode prog_5_method_4_code 41 = .ok (.getfield 24, 3) := by decide +kernel
theorem d_Rt_add_44 : decode prog_5_method_4_code 44 = .ok (.iconst 1, 1) := by decide +kernel
theorem d_Rt_add_45 : decode prog_5_method_4_code 45 = .ok (.iadd, 1) := by decide +kernel
theorem d_Rt_add_46 : decode prog_5_method_4_code 46 = .ok (.putfield 24, 3) := by decide +kernel
theorem d_Rt_add_49 : decode prog_5_method_4_code 49 = .ok (.iload 5, 2) := by decide +kernel
theorem d_Rt_add_51 : decode prog_5_method_4_code 51 = .ok (.ireturn, 1) := by decide +kernel
-- PlayStates$RowTable.add(IIII)I 
def ws_Rt_add (G : gG) (a_t a_t_place a_t_told a_t_before a_t_behind : Nat)  (x_t_count : Int32) (x_t_place : Nat → Int32) (x_t_told : Nat → Int32) (x_t_before : Nat → Int32) (x_t_behind : Nat → Int32) : va_W := [(a_t, .inr (3, [.ref a_t_place, .ref a_t_told, .ref a_t_before, .ref a_t_behind, .int x_t_count])), (a_t_place, .inl (G.2 0, 600, .inl x_t_place)), (a_t_told, .inl (G.2 0, 600, .inl x_t_told)), (a_t_before, .inl (G.2 0, 600, .inl x_t_before)), (a_t_behind, .inl (G.2 0, 600, .inl x_t_behind))]
def f_Rt_add  (p0 : Int32) (p1 : Int32) (p2 : Int32) (p3 : Int32) (x_t_count : Int32) (x_t_place : Nat → Int32) (x_t_told : Nat → Int32) (x_t_before : Nat → Int32) (x_t_behind : Nat → Int32) : Option (Int32 × Int32 × (Nat → Int32) × (Nat → Int32) × (Nat → Int32) × (Nat → Int32)) :=
  (if inB x_t_count 600 then (if inB x_t_count 600 then (if inB x_t_count 600 then (if inB x_t_count 600 then some (x_t_count, (x_t_count + (1 : Int32)), (upd x_t_place x_t_count.toNatClampNeg p0), (upd x_t_told x_t_count.toNatClampNeg p1), (upd x_t_before x_t_count.toNatClampNeg p2), (upd x_t_behind x_t_count.toNatClampNeg p3)) else none) else none) else none) else none)
set_option maxHeartbeats 4000000 in
set_option maxRecDepth 100000 in
theorem c_Rt_add (l : Launch) (G : gG) (sz : Nat) (a_t a_t_place a_t_told a_t_before a_t_behind : Nat)  (p0 : Int32) (p1 : Int32) (p2 : Int32) (p3 : Int32) (x_t_count : Int32) (x_t_place : Nat → Int32) (x_t_told : Nat → Int32) (x_t_before : Nat → Int32) (x_t_behind : Nat → Int32) (r : Int32) (x_t_count' : Int32) (x_t_place' : Nat → Int32) (x_t_told' : Nat → Int32) (x_t_before' : Nat → Int32) (x_t_behind' : Nat → Int32) (h : f_Rt_add p0 p1 p2 p3 x_t_count x_t_place x_t_told x_t_before x_t_behind = some (r, x_t_count', x_t_place', x_t_told', x_t_before', x_t_behind'))  : cN l y_Rt_add w_Rt_add { frames := 0, cells := 0, slots := 0, locals := 0 } G sz [.ref a_t, .int p0, .int p1, .int p2, .int p3] (ws_Rt_add G a_t a_t_place a_t_told a_t_before a_t_behind x_t_count x_t_place x_t_told x_t_before x_t_behind) (some (.int r)) (wB G (ws_Rt_add G a_t a_t_place a_t_told a_t_before a_t_behind x_t_count' x_t_place' x_t_told' x_t_before' x_t_behind')) 0 0 := by
  refine cN_ofW (cc := prog_5_method_4_code) (maxL := 6) (ret := (some .int)) (by decide) rfl (Nat.le_of_ble_eq_true rfl) ?_
  intro p e s m args below meth c A H locs ls hx hb hr hts hown hlocks hin hml hK hN hP hD hA hS hl
  replace hl : lv_has ls 6 [(0, .ref a_t), (1, .int p0), (2, .int p1), (3, .int p2), (4, .int p3)] := hl
  replace hown : s.vm.findClass "PlayStates$RowTable" = some m.cls := hown
  unfold f_Rt_add at h
  refine lv_aload_n hx hb d_Rt_add_0 rfl (lv_at hl 0 rfl) ?_
  refine va_get (D := G.1) (ci := 3) (v := .int x_t_count) (C := "PlayStates$RowTable") (T := TRt) (N := 5) hx hb hts iw_3 hown hK hP 0 rfl rfl 4 (by decide) (hts _ gw_66) (fun _ h9 => h9) rfl d_Rt_add_1 ?_
  refine lv_istore (lv' := [(5, .int x_t_count), (0, .ref a_t), (1, .int p0), (2, .int p1), (3, .int p2), (4, .int p3)]) hx hb d_Rt_add_4 hl (by decide) rfl (fun ls hl => ?_)
  refine lv_aload_n hx hb d_Rt_add_6 rfl (lv_at hl 1 rfl) ?_
  refine va_get (D := G.1) (ci := 3) (v := .ref a_t_place) (C := "PlayStates$RowTable") (T := TRt) (N := 5) hx hb hts iw_3 hown hK hP 0 rfl rfl 0 (by decide) (hts _ gw_62) (fun _ h9 => h9) rfl d_Rt_add_7 ?_
  refine lv_iload hx hb d_Rt_add_10 (lv_at hl 0 rfl) ?_
  refine lv_iload_n hx hb d_Rt_add_12 rfl (lv_at hl 2 rfl) ?_
  obtain ⟨i1, h⟩ := o_if h
  refine va_iast (n := 600) (f := x_t_place) hx hb hK hP hD hS 1 0 rfl rfl i1 d_Rt_add_13 (fun H locs hP hD hS => ?_)
  replace hP : va_P G.1 vwCl (ws_Rt_add G a_t a_t_place a_t_told a_t_before a_t_behind x_t_count (upd x_t_place x_t_count.toNatClampNeg p0) x_t_told x_t_before x_t_behind) H := hP
  replace hD : va_D A (ws_Rt_add G a_t a_t_place a_t_told a_t_before a_t_behind x_t_count (upd x_t_place x_t_count.toNatClampNeg p0) x_t_told x_t_before x_t_behind) := hD
  refine lv_aload_n hx hb d_Rt_add_14 rfl (lv_at hl 1 rfl) ?_
  refine va_get (D := G.1) (ci := 3) (v := .ref a_t_told) (C := "PlayStates$RowTable") (T := TRt) (N := 5) hx hb hts iw_3 hown hK hP 0 rfl rfl 1 (by decide) (hts _ gw_63) (fun _ h9 => h9) rfl d_Rt_add_15 ?_
  refine lv_iload hx hb d_Rt_add_18 (lv_at hl 0 rfl) ?_
  refine lv_iload_n hx hb d_Rt_add_20 rfl (lv_at hl 3 rfl) ?_
  obtain ⟨i2, h⟩ := o_if h
  refine va_iast (n := 600) (f := x_t_told) hx hb hK hP hD hS 2 0 rfl rfl i2 d_Rt_add_21 (fun H locs hP hD hS => ?_)
  replace hP : va_P G.1 vwCl (ws_Rt_add G a_t a_t_place a_t_told a_t_before a_t_behind x_t_count (upd x_t_place x_t_count.toNatClampNeg p0) (upd x_t_told x_t_count.toNatClampNeg p1) x_t_before x_t_behind) H := hP
  replace hD : va_D A (ws_Rt_add G a_t a_t_place a_t_told a_t_before a_t_behind x_t_count (upd x_t_place x_t_count.toNatClampNeg p0) (upd x_t_told x_t_count.toNatClampNeg p1) x_t_before x_t_behind) := hD
  refine lv_aload_n hx hb d_Rt_add_22 rfl (lv_at hl 1 rfl) ?_
  refine va_get (D := G.1) (ci := 3) (v := .ref a_t_before) (C := "PlayStates$RowTable") (T := TRt) (N := 5) hx hb hts iw_3 hown hK hP 0 rfl rfl 2 (by decide) (hts _ gw_64) (fun _ h9 => h9) rfl d_Rt_add_23 ?_
  refine lv_iload hx hb d_Rt_add_26 (lv_at hl 0 rfl) ?_
  refine lv_iload_n hx hb d_Rt_add_28 rfl (lv_at hl 4 rfl) ?_
  obtain ⟨i3, h⟩ := o_if h
  refine va_iast (n := 600) (f := x_t_before) hx hb hK hP hD hS 3 0 rfl rfl i3 d_Rt_add_29 (fun H locs hP hD hS => ?_)
  replace hP : va_P G.1 vwCl (ws_Rt_add G a_t a_t_place a_t_told a_t_before a_t_behind x_t_count (upd x_t_place x_t_count.toNatClampNeg p0) (upd x_t_told x_t_count.toNatClampNeg p1) (upd x_t_before x_t_count.toNatClampNeg p2) x_t_behind) H := hP
  replace hD : va_D A (ws_Rt_add G a_t a_t_place a_t_told a_t_before a_t_behind x_t_count (upd x_t_place x_t_count.toNatClampNeg p0) (upd x_t_told x_t_count.toNatClampNeg p1) (upd x_t_before x_t_count.toNatClampNeg p2) x_t_behind) := hD
  refine lv_aload_n hx hb d_Rt_add_30 rfl (lv_at hl 1 rfl) ?_
  refine va_get (D := G.1) (ci := 3) (v := .ref a_t_behind) (C := "PlayStates$RowTable") (T := TRt) (N := 5) hx hb hts iw_3 hown hK hP 0 rfl rfl 3 (by decide) (hts _ gw_65) (fun _ h9 => h9) rfl d_Rt_add_31 ?_
  refine lv_iload hx hb d_Rt_add_34 (lv_at hl 0 rfl) ?_
  refine lv_iload hx hb d_Rt_add_36 (lv_at hl 5 rfl) ?_
  obtain ⟨i4, h⟩ := o_if h
  refine va_iast (n := 600) (f := x_t_behind) hx hb hK hP hD hS 4 0 rfl rfl i4 d_Rt_add_38 (fun H locs hP hD hS => ?_)
  replace hP : va_P G.1 vwCl (ws_Rt_add G a_t a_t_place a_t_told a_t_before a_t_behind x_t_count (upd x_t_place x_t_count.toNatClampNeg p0) (upd x_t_told x_t_count.toNatClampNeg p1) (upd x_t_before x_t_count.toNatClampNeg p2) (upd x_t_behind x_t_count.toNatClampNeg p3)) H := hP
  replace hD : va_D A (ws_Rt_add G a_t a_t_place a_t_told a_t_before a_t_behind x_t_count (upd x_t_place x_t_count.toNatClampNeg p0) (upd x_t_told x_t_count.toNatClampNeg p1) (upd x_t_before x_t_count.toNatClampNeg p2) (upd x_t_behind x_t_count.toNatClampNeg p3)) := hD
  refine lv_aload_n hx hb d_Rt_add_39 rfl (lv_at hl 1 rfl) ?_
  refine lv_dup hx hb d_Rt_add_40 rfl ?_
  refine va_get (D := G.1) (ci := 3) (v := .int x_t_count) (C := "PlayStates$RowTable") (T := TRt) (N := 5) hx hb hts iw_3 hown hK hP 0 rfl rfl 4 (by decide) (hts _ gw_66) (fun _ h9 => h9) rfl d_Rt_add_41 ?_
  refine lv_iconst (v := (1 : Int32)) hx hb d_Rt_add_44 (by decide) ?_
  refine lv_iadd hx hb d_Rt_add_45 ?_
  refine va_put (D := G.1) (ci := 3) (v := .int (x_t_count + (1 : Int32))) (ty := .int) (C := "PlayStates$RowTable") (T := TRt) (N := 5) hx hb hts iw_3 tyRt tyRt_ok nmRt hown hK hP hD hS 0 rfl rfl 4 (by decide) (hts _ gw_66) (fun _ h9 => h9) rfl (by decide +kernel) (by rfl) (by rfl) (Nat.le_of_ble_eq_true rfl) d_Rt_add_46 (fun H locs hP hD hS => ?_)
  replace hP : va_P G.1 vwCl (ws_Rt_add G a_t a_t_place a_t_told a_t_before a_t_behind (x_t_count + (1 : Int32)) (upd x_t_place x_t_count.toNatClampNeg p0) (upd x_t_told x_t_count.toNatClampNeg p1) (upd x_t_before x_t_count.toNatClampNeg p2) (upd x_t_behind x_t_count.toNatClampNeg p3)) H := hP
  replace hD : va_D A (ws_Rt_add G a_t a_t_place a_t_told a_t_before a_t_behind (x_t_count + (1 : Int32)) (upd x_t_place x_t_count.toNatClampNeg p0) (upd x_t_told x_t_count.toNatClampNeg p1) (upd x_t_before x_t_count.toNatClampNeg p2) (upd x_t_behind x_t_count.toNatClampNeg p3)) := hD
  refine lv_iload hx hb d_Rt_add_49 (lv_at hl 0 rfl) ?_
  cases h
  exact q_iretW hx hb hr hlocks hP hD hS d_Rt_add_51

theorem d_Rt_countBranches_0 : decode prog_5_method_5_code 0 = .ok (.iconst 0, 1) := by decide +kernel
theorem d_Rt_countBranches_1 : decode prog_5_method_5_code 1 = .ok (.istore_n 2, 1) := by decide +kernel
theorem d_Rt_countBranches_2 : decode prog_5_method_5_code 2 = .ok (.iconst 0, 1) := by decide +kernel
theorem d_Rt_countBranches_3 : decode prog_5_method_5_code 3 = .ok (.istore_n 3, 1) := by decide +kernel
theorem d_Rt_countBranches_4 : decode prog_5_method_5_code 4 = .ok (.iload_n 3, 1) := by decide +kernel
theorem d_Rt_countBranches_5 : decode prog_5_method_5_code 5 = .ok (.aload_n 0, 1) := by decide +kernel
theorem d_Rt_countBranches_6 : decode prog_5_method_5_code 6 = .ok (.getfield 24, 3) := by decide +kernel
theorem d_Rt_countBranches_9 : decode prog_5_method_5_code 9 = .ok (.if_icmp .ge 22, 3) := by decide +kernel
theorem d_Rt_countBranches_12 : decode prog_5_method_5_code 12 = .ok (.aload_n 0, 1) := by decide +kernel
theorem d_Rt_countBranches_13 : decode prog_5_method_5_code 13 = .ok (.getfield 21, 3) := by decide +kernel
theorem d_Rt_countBranches_16 : decode prog_5_method_5_code 16 = .ok (.iload_n 3, 1) := by decide +kernel
theorem d_Rt_countBranches_17 : decode prog_5_method_5_code 17 = .ok (.iaload, 1) := by decide +kernel
theorem d_Rt_countBranches_18 : decode prog_5_method_5_code 18 = .ok (.iload_n 1, 1) := by decide +kernel
theorem d_Rt_countBranches_19 : decode prog_5_method_5_code 19 = .ok (.if_icmp .ne 6, 3) := by decide +kernel
theorem d_Rt_countBranches_22 : decode prog_5_method_5_code 22 = .ok (.iinc 2 1, 3) := by decide +kernel
theorem d_Rt_countBranches_25 : decode prog_5_method_5_code 25 = .ok (.iinc 3 1, 3) := by decide +kernel
theorem d_Rt_countBranches_28 : decode prog_5_method_5_code 28 = .ok (.goto (-24), 3) := by decide +kernel
theorem d_Rt_countBranches_31 : decode prog_5_method_5_code 31 = .ok (.iload_n 2, 1) := by decide +kernel
theorem d_Rt_countBranches_32 : decode prog_5_method_5_code 32 = .ok (.ireturn, 1) := by decide +kernel
-- PlayStates$RowTable.countBranches(I)I 
def ws_Rt_countBranches (G : gG) (a_t a_t_place a_t_told a_t_before a_t_behind : Nat)  (x_t_count : Int32) (x_t_behind : Nat → Int32) : va_W := [(a_t, .inr (3, [.ref a_t_place, .ref a_t_told, .ref a_t_before, .ref a_t_behind, .int x_t_count])), (a_t_behind, .inl (G.2 0, 600, .inl x_t_behind))]
def fb_Rt_countBranches_L4 (fu : Nat) (x_t_count : Int32) (x_t_behind : Nat → Int32)  (k4 : (Int32 → Int32 → Int32 → Option (Int32))) (l4_1 : Int32) (l4_2 : Int32) (l4_3 : Int32) : Option (Int32) :=
  (if x_t_count ≤ l4_3 then some l4_2 else (if inB l4_3 600 then (if (x_t_behind l4_3.toNatClampNeg) = l4_1 then (k4 l4_1 (l4_2 + (1 : Int32)) (l4_3 + (1 : Int32))) else (k4 l4_1 l4_2 (l4_3 + (1 : Int32)))) else none))
def f_Rt_countBranches_L4 (fu : Nat) (x_t_count : Int32) (x_t_behind : Nat → Int32)  : Nat → Int32 → Int32 → Int32 → Option (Int32)
  | 0 => fun _ _ _ => none
  | k9 + 1 => fb_Rt_countBranches_L4 fu x_t_count x_t_behind (f_Rt_countBranches_L4 fu x_t_count x_t_behind k9)
def f_Rt_countBranches (fu : Nat)  (p0 : Int32) (x_t_count : Int32) (x_t_behind : Nat → Int32) : Option (Int32) :=
  (f_Rt_countBranches_L4 fu x_t_count x_t_behind fu p0 (0 : Int32) (0 : Int32))
set_option maxHeartbeats 4000000 in
set_option maxRecDepth 100000 in
theorem c_Rt_countBranches (l : Launch) (G : gG) (sz : Nat) (a_t a_t_place a_t_told a_t_before a_t_behind : Nat) (fu : Nat)  (p0 : Int32) (x_t_count : Int32) (x_t_behind : Nat → Int32) (r : Int32) (h : f_Rt_countBranches fu p0 x_t_count x_t_behind = some r)  : cN l y_Rt_countBranches w_Rt_countBranches { frames := 0, cells := 0, slots := 0, locals := 0 } G sz [.ref a_t, .int p0] (ws_Rt_countBranches G a_t a_t_place a_t_told a_t_before a_t_behind x_t_count x_t_behind) (some (.int r)) (wB G (ws_Rt_countBranches G a_t a_t_place a_t_told a_t_before a_t_behind x_t_count x_t_behind)) 0 0 := by
  refine cN_ofW (cc := prog_5_method_5_code) (maxL := 4) (ret := (some .int)) (by decide) rfl (Nat.le_of_ble_eq_true rfl) ?_
  intro p e s m args below meth c A H locs ls hx hb hr hts hown hlocks hin hml hK hN hP hD hA hS hl
  replace hl : lv_has ls 4 [(0, .ref a_t), (1, .int p0)] := hl
  replace hown : s.vm.findClass "PlayStates$RowTable" = some m.cls := hown
  unfold f_Rt_countBranches at h
  refine lv_iconst (v := (0 : Int32)) hx hb d_Rt_countBranches_0 (by decide) ?_
  refine lv_istore_n (lv' := [(2, .int (0 : Int32)), (0, .ref a_t), (1, .int p0)]) hx hb d_Rt_countBranches_1 rfl hl (by decide) rfl (fun ls hl => ?_)
  refine lv_iconst (v := (0 : Int32)) hx hb d_Rt_countBranches_2 (by decide) ?_
  refine lv_istore_n (lv' := [(3, .int (0 : Int32)), (2, .int (0 : Int32)), (0, .ref a_t), (1, .int p0)]) hx hb d_Rt_countBranches_3 rfl hl (by decide) rfl (fun ls hl => ?_)
  have L4 : ∀ (nf : Nat) (l4_1 : Int32) (l4_2 : Int32) (l4_3 : Int32) (H : Heap) (locs : List Loc) (ls : Array Slot), f_Rt_countBranches_L4 fu x_t_count x_t_behind nf l4_1 l4_2 l4_3 = some r → va_P G.1 vwCl (ws_Rt_countBranches G a_t a_t_place a_t_told a_t_before a_t_behind x_t_count x_t_behind) H → va_D A (ws_Rt_countBranches G a_t a_t_place a_t_told a_t_before a_t_behind x_t_count x_t_behind) → va_S A s.heap H locs → lv_has ls 4 [(0, .ref a_t), (1, .int l4_1), (2, .int l4_2), (3, .int l4_3)] → W p l e { frames := 0, cells := 0, slots := 0, locals := 0 } s m args below meth c H locs 0 0 (MQ below (qQ (some (.int r)) (wB G (ws_Rt_countBranches G a_t a_t_place a_t_told a_t_before a_t_behind x_t_count x_t_behind) A) A) args s 0 0 A) (F0 m 4 ls []) := by
    clear h hP hD hS hl
    intro n4
    induction n4 with
    | zero => intro _ _ _ H locs ls h; exact nomatch (show none = some _ from h)
    | succ n4 ih4 =>
      intro l4_1 l4_2 l4_3 H locs ls h hP hD hS hl
      replace h : fb_Rt_countBranches_L4 fu x_t_count x_t_behind (f_Rt_countBranches_L4 fu x_t_count x_t_behind n4) l4_1 l4_2 l4_3 = some r := h
      unfold fb_Rt_countBranches_L4 at h
      refine lv_iload_n hx hb d_Rt_countBranches_4 rfl (lv_at hl 3 rfl) ?_
      refine lv_aload_n hx hb d_Rt_countBranches_5 rfl (lv_at hl 0 rfl) ?_
      refine va_get (D := G.1) (ci := 3) (v := .int x_t_count) (C := "PlayStates$RowTable") (T := TRt) (N := 5) hx hb hts iw_3 hown hK hP 0 rfl rfl 4 (by decide) (hts _ gw_66) (fun _ h9 => h9) rfl d_Rt_countBranches_6 ?_
      refine lv_icmp_ge (tgt := 31) hx hb d_Rt_countBranches_9 (by decide) (fun c1 => ?_) (fun c1 => ?_)
      · replace h := (if_pos c1).symm.trans h
        refine lv_iload_n hx hb d_Rt_countBranches_31 rfl (lv_at hl 2 rfl) ?_
        cases h
        exact q_iretW hx hb hr hlocks hP hD hS d_Rt_countBranches_32
      · replace h := (if_neg c1).symm.trans h
        refine lv_aload_n hx hb d_Rt_countBranches_12 rfl (lv_at hl 0 rfl) ?_
        refine va_get (D := G.1) (ci := 3) (v := .ref a_t_behind) (C := "PlayStates$RowTable") (T := TRt) (N := 5) hx hb hts iw_3 hown hK hP 0 rfl rfl 3 (by decide) (hts _ gw_65) (fun _ h9 => h9) rfl d_Rt_countBranches_13 ?_
        refine lv_iload_n hx hb d_Rt_countBranches_16 rfl (lv_at hl 3 rfl) ?_
        obtain ⟨i2, h⟩ := o_if h
        refine va_iald (n := 600) (f := x_t_behind) hx hb hK hP 1 0 rfl rfl i2 d_Rt_countBranches_17 ?_
        refine lv_iload_n hx hb d_Rt_countBranches_18 rfl (lv_at hl 1 rfl) ?_
        refine lv_icmp_ne (tgt := 25) hx hb d_Rt_countBranches_19 (by decide) (fun c3 => ?_) (fun c3 => ?_)
        · replace h := (if_neg c3).symm.trans h
          refine lv_iinc (v := (l4_3 + (1 : Int32))) (lv' := [(3, .int (l4_3 + (1 : Int32))), (0, .ref a_t), (1, .int l4_1), (2, .int l4_2)]) hx hb d_Rt_countBranches_25 hl (k := 3) rfl rfl (by decide) rfl (fun ls hl => ?_)
          refine lv_goto (tgt := 4) hx hb d_Rt_countBranches_28 (by decide) ?_
          exact ih4 l4_1 l4_2 (l4_3 + (1 : Int32)) _ _ _ h hP hD hS (lv_sub hl [1, 2, 3, 0] rfl)
        · replace h := (if_pos c3).symm.trans h
          refine lv_iinc (v := (l4_2 + (1 : Int32))) (lv' := [(2, .int (l4_2 + (1 : Int32))), (0, .ref a_t), (1, .int l4_1), (3, .int l4_3)]) hx hb d_Rt_countBranches_22 hl (k := 2) rfl rfl (by decide) rfl (fun ls hl => ?_)
          refine lv_iinc (v := (l4_3 + (1 : Int32))) (lv' := [(3, .int (l4_3 + (1 : Int32))), (2, .int (l4_2 + (1 : Int32))), (0, .ref a_t), (1, .int l4_1)]) hx hb d_Rt_countBranches_25 hl (k := 3) rfl rfl (by decide) rfl (fun ls hl => ?_)
          refine lv_goto (tgt := 4) hx hb d_Rt_countBranches_28 (by decide) ?_
          exact ih4 l4_1 (l4_2 + (1 : Int32)) (l4_3 + (1 : Int32)) _ _ _ h hP hD hS (lv_sub hl [2, 3, 1, 0] rfl)
  exact L4 fu p0 (0 : Int32) (0 : Int32) _ _ _ h hP hD hS (lv_sub hl [2, 3, 1, 0] rfl)

theorem d_Rt_findBranch_0 : decode prog_5_method_6_code 0 = .ok (.iconst 0, 1) := by decide +kernel
theorem d_Rt_findBranch_1 : decode prog_5_method_6_code 1 = .ok (.istore_n 3, 1) := by decide +kernel
theorem d_Rt_findBranch_2 : decode prog_5_method_6_code 2 = .ok (.iconst 0, 1) := by decide +kernel
theorem d_Rt_findBranch_3 : decode prog_5_method_6_code 3 = .ok (.istore 4, 2) := by decide +kernel
theorem d_Rt_findBranch_5 : decode prog_5_method_6_code 5 = .ok (.iload 4, 2) := by decide +kernel
theorem d_Rt_findBranch_7 : decode prog_5_method_6_code 7 = .ok (.aload_n 0, 1) := by decide +kernel
theorem d_Rt_findBranch_8 : decode prog_5_method_6_code 8 = .ok (.getfield 24, 3) := by decide +kernel
theorem d_Rt_findBranch_11 : decode prog_5_method_6_code 11 = .ok (.if_icmp .ge 31, 3) := by decide +kernel
theorem d_Rt_findBranch_14 : decode prog_5_method_6_code 14 = .ok (.aload_n 0, 1) := by decide +kernel
theorem d_Rt_findBranch_15 : decode prog_5_method_6_code 15 = .ok (.getfield 21, 3) := by decide +kernel
theorem d_Rt_findBranch_18 : decode prog_5_method_6_code 18 = .ok (.iload 4, 2) := by decide +kernel
theorem d_Rt_findBranch_20 : decode prog_5_method_6_code 20 = .ok (.iaload, 1) := by decide +kernel
theorem d_Rt_findBranch_21 : decode prog_5_method_6_code 21 = .ok (.iload_n 1, 1) := by decide +kernel
theorem d_Rt_findBranch_22 : decode prog_5_method_6_code 22 = .ok (.if_icmp .ne 14, 3) := by decide +kernel
theorem d_Rt_findBranch_25 : decode prog_5_method_6_code 25 = .ok (.iload_n 3, 1) := by decide +kernel
theorem d_Rt_findBranch_26 : decode prog_5_method_6_code 26 = .ok (.iload_n 2, 1) := by decide +kernel
theorem d_Rt_findBranch_27 : decode prog_5_method_6_code 27 = .ok (.if_icmp .ne 6, 3) := by decide +kernel
theorem d_Rt_findBranch_30 : decode prog_5_method_6_code 30 = .ok (.iload 4, 2) := by decide +kernel
theorem d_Rt_findBranch_32 : decode prog_5_method_6_code 32 = .ok (.ireturn, 1) := by decide +kernel
theorem d_Rt_findBranch_33 : decode prog_5_method_6_code 33 = .ok (.iinc 3 1, 3) := by decide +kernel
theorem d_Rt_findBranch_36 : decode prog_5_method_6_code 36 = .ok (.iinc 4 1, 3) := by decide +kernel
theorem d_Rt_findBranch_39 : decode prog_5_method_6_code 39 = .ok (.goto (-34), 3) := by decide +kernel
theorem d_Rt_findBranch_42 : decode prog_5_method_6_code 42 = .ok (.iconst (-1), 1) := by decide +kernel
theorem d_Rt_findBranch_43 : decode prog_5_method_6_code 43 = .ok (.ireturn, 1) := by decide +kernel
-- PlayStates$RowTable.findBranch(II)I 
def ws_Rt_findBranch (G : gG) (a_t a_t_place a_t_told a_t_before a_t_behind : Nat)  (x_t_count : Int32) (x_t_behind : Nat → Int32) : va_W := [(a_t, .inr (3, [.ref a_t_place, .ref a_t_told, .ref a_t_before, .ref a_t_behind, .int x_t_count])), (a_t_behind, .inl (G.2 0, 600, .inl x_t_behind))]
def fb_Rt_findBranch_L5 (fu : Nat) (x_t_count : Int32) (x_t_behind : Nat → Int32)  (k5 : (Int32 → Int32 → Int32 → Int32 → Option (Int32))) (l5_1 : Int32) (l5_2 : Int32) (l5_3 : Int32) (l5_4 : Int32) : Option (Int32) :=
  (if x_t_count ≤ l5_4 then some (-1 : Int32) else (if inB l5_4 600 then (if (x_t_behind l5_4.toNatClampNeg) = l5_1 then (if l5_3 = l5_2 then some l5_4 else (k5 l5_1 l5_2 (l5_3 + (1 : Int32)) (l5_4 + (1 : Int32)))) else (k5 l5_1 l5_2 l5_3 (l5_4 + (1 : Int32)))) else none))
def f_Rt_findBranch_L5 (fu : Nat) (x_t_count : Int32) (x_t_behind : Nat → Int32)  : Nat → Int32 → Int32 → Int32 → Int32 → Option (Int32)
  | 0 => fun _ _ _ _ => none
  | k9 + 1 => fb_Rt_findBranch_L5 fu x_t_count x_t_behind (f_Rt_findBranch_L5 fu x_t_count x_t_behind k9)
def f_Rt_findBranch (fu : Nat)  (p0 : Int32) (p1 : Int32) (x_t_count : Int32) (x_t_behind : Nat → Int32) : Option (Int32) :=
  (f_Rt_findBranch_L5 fu x_t_count x_t_behind fu p0 p1 (0 : Int32) (0 : Int32))
set_option maxHeartbeats 4000000 in
set_option maxRecDepth 100000 in
theorem c_Rt_findBranch (l : Launch) (G : gG) (sz : Nat) (a_t a_t_place a_t_told a_t_before a_t_behind : Nat) (fu : Nat)  (p0 : Int32) (p1 : Int32) (x_t_count : Int32) (x_t_behind : Nat → Int32) (r : Int32) (h : f_Rt_findBranch fu p0 p1 x_t_count x_t_behind = some r)  : cN l y_Rt_findBranch w_Rt_findBranch { frames := 0, cells := 0, slots := 0, locals := 0 } G sz [.ref a_t, .int p0, .int p1] (ws_Rt_findBranch G a_t a_t_place a_t_told a_t_before a_t_behind x_t_count x_t_behind) (some (.int r)) (wB G (ws_Rt_findBranch G a_t a_t_place a_t_told a_t_before a_t_behind x_t_count x_t_behind)) 0 0 := by
  refine cN_ofW (cc := prog_5_method_6_code) (maxL := 5) (ret := (some .int)) (by decide) rfl (Nat.le_of_ble_eq_true rfl) ?_
  intro p e s m args below meth c A H locs ls hx hb hr hts hown hlocks hin hml hK hN hP hD hA hS hl
  replace hl : lv_has ls 5 [(0, .ref a_t), (1, .int p0), (2, .int p1)] := hl
  replace hown : s.vm.findClass "PlayStates$RowTable" = some m.cls := hown
  unfold f_Rt_findBranch at h
  refine lv_iconst (v := (0 : Int32)) hx hb d_Rt_findBranch_0 (by decide) ?_
  refine lv_istore_n (lv' := [(3, .int (0 : Int32)), (0, .ref a_t), (1, .int p0), (2, .int p1)]) hx hb d_Rt_findBranch_1 rfl hl (by decide) rfl (fun ls hl => ?_)
  refine lv_iconst (v := (0 : Int32)) hx hb d_Rt_findBranch_2 (by decide) ?_
  refine lv_istore (lv' := [(4, .int (0 : Int32)), (3, .int (0 : Int32)), (0, .ref a_t), (1, .int p0), (2, .int p1)]) hx hb d_Rt_findBranch_3 hl (by decide) rfl (fun ls hl => ?_)
  have L5 : ∀ (nf : Nat) (l5_1 : Int32) (l5_2 : Int32) (l5_3 : Int32) (l5_4 : Int32) (H : Heap) (locs : List Loc) (ls : Array Slot), f_Rt_findBranch_L5 fu x_t_count x_t_behind nf l5_1 l5_2 l5_3 l5_4 = some r → va_P G.1 vwCl (ws_Rt_findBranch G a_t a_t_place a_t_told a_t_before a_t_behind x_t_count x_t_behind) H → va_D A (ws_Rt_findBranch G a_t a_t_place a_t_told a_t_before a_t_behind x_t_count x_t_behind) → va_S A s.heap H locs → lv_has ls 5 [(0, .ref a_t), (1, .int l5_1), (2, .int l5_2), (3, .int l5_3), (4, .int l5_4)] → W p l e { frames := 0, cells := 0, slots := 0, locals := 0 } s m args below meth c H locs 0 0 (MQ below (qQ (some (.int r)) (wB G (ws_Rt_findBranch G a_t a_t_place a_t_told a_t_before a_t_behind x_t_count x_t_behind) A) A) args s 0 0 A) (F0 m 5 ls []) := by
    clear h hP hD hS hl
    intro n5
    induction n5 with
    | zero => intro _ _ _ _ H locs ls h; exact nomatch (show none = some _ from h)
    | succ n5 ih5 =>
      intro l5_1 l5_2 l5_3 l5_4 H locs ls h hP hD hS hl
      replace h : fb_Rt_findBranch_L5 fu x_t_count x_t_behind (f_Rt_findBranch_L5 fu x_t_count x_t_behind n5) l5_1 l5_2 l5_3 l5_4 = some r := h
      unfold fb_Rt_findBranch_L5 at h
      refine lv_iload hx hb d_Rt_findBranch_5 (lv_at hl 4 rfl) ?_
      refine lv_aload_n hx hb d_Rt_findBranch_7 rfl (lv_at hl 0 rfl) ?_
      refine va_get (D := G.1) (ci := 3) (v := .int x_t_count) (C := "PlayStates$RowTable") (T := TRt) (N := 5) hx hb hts iw_3 hown hK hP 0 rfl rfl 4 (by decide) (hts _ gw_66) (fun _ h9 => h9) rfl d_Rt_findBranch_8 ?_
      refine lv_icmp_ge (tgt := 42) hx hb d_Rt_findBranch_11 (by decide) (fun c1 => ?_) (fun c1 => ?_)
      · replace h := (if_pos c1).symm.trans h
        refine lv_iconst (v := (-1 : Int32)) hx hb d_Rt_findBranch_42 (by decide) ?_
        cases h
        exact q_iretW hx hb hr hlocks hP hD hS d_Rt_findBranch_43
      · replace h := (if_neg c1).symm.trans h
        refine lv_aload_n hx hb d_Rt_findBranch_14 rfl (lv_at hl 0 rfl) ?_
        refine va_get (D := G.1) (ci := 3) (v := .ref a_t_behind) (C := "PlayStates$RowTable") (T := TRt) (N := 5) hx hb hts iw_3 hown hK hP 0 rfl rfl 3 (by decide) (hts _ gw_65) (fun _ h9 => h9) rfl d_Rt_findBranch_15 ?_
        refine lv_iload hx hb d_Rt_findBranch_18 (lv_at hl 4 rfl) ?_
        obtain ⟨i2, h⟩ := o_if h
        refine va_iald (n := 600) (f := x_t_behind) hx hb hK hP 1 0 rfl rfl i2 d_Rt_findBranch_20 ?_
        refine lv_iload_n hx hb d_Rt_findBranch_21 rfl (lv_at hl 1 rfl) ?_
        refine lv_icmp_ne (tgt := 36) hx hb d_Rt_findBranch_22 (by decide) (fun c3 => ?_) (fun c3 => ?_)
        · replace h := (if_neg c3).symm.trans h
          refine lv_iinc (v := (l5_4 + (1 : Int32))) (lv' := [(4, .int (l5_4 + (1 : Int32))), (0, .ref a_t), (1, .int l5_1), (2, .int l5_2), (3, .int l5_3)]) hx hb d_Rt_findBranch_36 hl (k := 4) rfl rfl (by decide) rfl (fun ls hl => ?_)
          refine lv_goto (tgt := 5) hx hb d_Rt_findBranch_39 (by decide) ?_
          exact ih5 l5_1 l5_2 l5_3 (l5_4 + (1 : Int32)) _ _ _ h hP hD hS (lv_sub hl [1, 2, 3, 4, 0] rfl)
        · replace h := (if_pos c3).symm.trans h
          refine lv_iload_n hx hb d_Rt_findBranch_25 rfl (lv_at hl 3 rfl) ?_
          refine lv_iload_n hx hb d_Rt_findBranch_26 rfl (lv_at hl 2 rfl) ?_
          refine lv_icmp_ne (tgt := 33) hx hb d_Rt_findBranch_27 (by decide) (fun c4 => ?_) (fun c4 => ?_)
          · replace h := (if_neg c4).symm.trans h
            refine lv_iinc (v := (l5_3 + (1 : Int32))) (lv' := [(3, .int (l5_3 + (1 : Int32))), (0, .ref a_t), (1, .int l5_1), (2, .int l5_2), (4, .int l5_4)]) hx hb d_Rt_findBranch_33 hl (k := 3) rfl rfl (by decide) rfl (fun ls hl => ?_)
            refine lv_iinc (v := (l5_4 + (1 : Int32))) (lv' := [(4, .int (l5_4 + (1 : Int32))), (3, .int (l5_3 + (1 : Int32))), (0, .ref a_t), (1, .int l5_1), (2, .int l5_2)]) hx hb d_Rt_findBranch_36 hl (k := 4) rfl rfl (by decide) rfl (fun ls hl => ?_)
            refine lv_goto (tgt := 5) hx hb d_Rt_findBranch_39 (by decide) ?_
            exact ih5 l5_1 l5_2 (l5_3 + (1 : Int32)) (l5_4 + (1 : Int32)) _ _ _ h hP hD hS (lv_sub hl [2, 3, 4, 1, 0] rfl)
          · replace h := (if_pos c4).symm.trans h
            refine lv_iload hx hb d_Rt_findBranch_30 (lv_at hl 4 rfl) ?_
            cases h
            exact q_iretW hx hb hr hlocks hP hD hS d_Rt_findBranch_32
  exact L5 fu p0 p1 (0 : Int32) (0 : Int32) _ _ _ h hP hD hS (lv_sub hl [2, 3, 4, 1, 0] rfl)
