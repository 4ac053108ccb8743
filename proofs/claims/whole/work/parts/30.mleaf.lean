theorem gw_381 : (.fieldLink "PlayStatesModel" 72 "PlayStatesModel" "persons" "I" : Cond) ∈ GW := gT 419 (by decide +kernel) (by decide +kernel)
theorem d_Md_isPerson_0 : decode prog_8_method_3_code 0 = .ok (.iload_n 1, 1) := by decide +kernel
theorem d_Md_isPerson_1 : decode prog_8_method_3_code 1 = .ok (.ifCond .lt 15, 3) := by decide +kernel
theorem d_Md_isPerson_4 : decode prog_8_method_3_code 4 = .ok (.iload_n 1, 1) := by decide +kernel
theorem d_Md_isPerson_5 : decode prog_8_method_3_code 5 = .ok (.aload_n 0, 1) := by decide +kernel
theorem d_Md_isPerson_6 : decode prog_8_method_3_code 6 = .ok (.getfield 72, 3) := by decide +kernel
theorem d_Md_isPerson_9 : decode prog_8_method_3_code 9 = .ok (.if_icmp .ge 7, 3) := by decide +kernel
theorem d_Md_isPerson_12 : decode prog_8_method_3_code 12 = .ok (.iconst 1, 1) := by decide +kernel
theorem d_Md_isPerson_13 : decode prog_8_method_3_code 13 = .ok (.goto 4, 3) := by decide +kernel
theorem d_Md_isPerson_16 : decode prog_8_method_3_code 16 = .ok (.iconst 0, 1) := by decide +kernel
theorem d_Md_isPerson_17 : decode prog_8_method_3_code 17 = .ok (.ireturn, 1) := by decide +kernel
-- PlayStatesModel.isPerson(I)Z 
def ws_Md_isPerson (G : gG) (a_t a_t_truth a_t_entries a_t_marked a_t_present a_t_helped a_t_counted a_t_told a_t_runs a_t_whose a_t_where a_t_what a_t_before a_t_behind a_t_isOn a_t_tryEntries a_t_tryMarks a_t_text : Nat)  (x_t_thrown : Int32) (x_t_places : Int32) (x_t_persons : Int32) (x_t_many : Int32) (x_t_size : Int32) (x_t_at : Int32) (x_t_sought : Int32) (x_t_found : Int32) : va_W := [(a_t, .inr (6, [.int x_t_thrown, .int x_t_places, .int x_t_persons, .ref a_t_truth, .ref a_t_entries, .ref a_t_marked, .ref a_t_present, .ref a_t_helped, .ref a_t_counted, .ref a_t_told, .ref a_t_runs, .int x_t_many, .ref a_t_whose, .ref a_t_where, .ref a_t_what, .ref a_t_before, .ref a_t_behind, .ref a_t_isOn, .ref a_t_tryEntries, .ref a_t_tryMarks, .int x_t_size, .ref a_t_text, .int x_t_at, .int x_t_sought, .int x_t_found]))]
def f_Md_isPerson  (p0 : Int32) (x_t_thrown : Int32) (x_t_places : Int32) (x_t_persons : Int32) (x_t_many : Int32) (x_t_size : Int32) (x_t_at : Int32) (x_t_sought : Int32) (x_t_found : Int32) : Option (Int32) :=
  (if p0 < 0 then some (0 : Int32) else (if x_t_persons ≤ p0 then some (0 : Int32) else some (1 : Int32)))
set_option maxHeartbeats 4000000 in
set_option maxRecDepth 100000 in
theorem c_Md_isPerson (l : Launch) (G : gG) (sz : Nat) (a_t a_t_truth a_t_entries a_t_marked a_t_present a_t_helped a_t_counted a_t_told a_t_runs a_t_whose a_t_where a_t_what a_t_before a_t_behind a_t_isOn a_t_tryEntries a_t_tryMarks a_t_text : Nat)  (p0 : Int32) (x_t_thrown : Int32) (x_t_places : Int32) (x_t_persons : Int32) (x_t_many : Int32) (x_t_size : Int32) (x_t_at : Int32) (x_t_sought : Int32) (x_t_found : Int32) (r : Int32) (h : f_Md_isPerson p0 x_t_thrown x_t_places x_t_persons x_t_many x_t_size x_t_at x_t_sought x_t_found = some r)  : cN l y_Md_isPerson w_Md_isPerson { frames := 0, cells := 0, slots := 0, locals := 0 } G sz [.ref a_t, .int p0] (ws_Md_isPerson G a_t a_t_truth a_t_entries a_t_marked a_t_present a_t_helped a_t_counted a_t_told a_t_runs a_t_whose a_t_where a_t_what a_t_before a_t_behind a_t_isOn a_t_tryEntries a_t_tryMarks a_t_text x_t_thrown x_t_places x_t_persons x_t_many x_t_size x_t_at x_t_sought x_t_found) (some (.int r)) (wB G (ws_Md_isPerson G a_t a_t_truth a_t_entries a_t_marked a_t_present a_t_helped a_t_counted a_t_told a_t_runs a_t_whose a_t_where a_t_what a_t_before a_t_behind a_t_isOn a_t_tryEntries a_t_tryMarks a_t_text x_t_thrown x_t_places x_t_persons x_t_many x_t_size x_t_at x_t_sought x_t_found)) 0 0 := by
  refine cN_ofW (cc := prog_8_method_3_code) (maxL := 2) (ret := (some .boolean)) (by decide) rfl (Nat.le_of_ble_eq_true rfl) ?_
  intro p e s m args below meth c A H locs ls hx hb hr hts hown hlocks hin hml hK hN hP hD hA hS hl
  replace hl : lv_has ls 2 [(0, .ref a_t), (1, .int p0)] := hl
  replace hown : s.vm.findClass "PlayStatesModel" = some m.cls := hown
  unfold f_Md_isPerson at h
  refine lv_iload_n hx hb d_Md_isPerson_0 rfl (lv_at hl 1 rfl) ?_
  refine lv_if_lt (tgt := 16) hx hb d_Md_isPerson_1 (by decide) (fun c1 => ?_) (fun c1 => ?_)
  · replace h := (if_pos c1).symm.trans h
    refine lv_iconst (v := (0 : Int32)) hx hb d_Md_isPerson_16 (by decide) ?_
    cases h
    exact q_zretW hx hb hr hlocks (by decide) hP hD hS d_Md_isPerson_17
  · replace h := (if_neg c1).symm.trans h
    refine lv_iload_n hx hb d_Md_isPerson_4 rfl (lv_at hl 1 rfl) ?_
    refine lv_aload_n hx hb d_Md_isPerson_5 rfl (lv_at hl 0 rfl) ?_
    refine va_get (D := G.1) (ci := 6) (v := .int x_t_persons) (C := "PlayStatesModel") (T := TMd) (N := 25) hx hb hts iw_6 hown hK hP 0 rfl rfl 2 (by decide) (hts _ gw_381) (fun _ h9 => h9) rfl d_Md_isPerson_6 ?_
    refine lv_icmp_ge (tgt := 16) hx hb d_Md_isPerson_9 (by decide) (fun c2 => ?_) (fun c2 => ?_)
    · replace h := (if_pos c2).symm.trans h
      refine lv_iconst (v := (0 : Int32)) hx hb d_Md_isPerson_16 (by decide) ?_
      cases h
      exact q_zretW hx hb hr hlocks (by decide) hP hD hS d_Md_isPerson_17
    · replace h := (if_neg c2).symm.trans h
      refine lv_iconst (v := (1 : Int32)) hx hb d_Md_isPerson_12 (by decide) ?_
      refine lv_goto (tgt := 17) hx hb d_Md_isPerson_13 (by decide) ?_
      cases h
      exact q_zretW hx hb hr hlocks (by decide) hP hD hS d_Md_isPerson_17

theorem gw_380 : (.fieldLink "PlayStatesModel" 63 "PlayStatesModel" "places" "I" : Cond) ∈ GW := gT 418 (by decide +kernel) (by decide +kernel)
theorem d_Md_isPlace_0 : decode prog_8_method_4_code 0 = .ok (.iload_n 1, 1) := by decide +kernel
theorem d_Md_isPlace_1 : decode prog_8_method_4_code 1 = .ok (.ifCond .lt 15, 3) := by decide +kernel
theorem d_Md_isPlace_4 : decode prog_8_method_4_code 4 = .ok (.iload_n 1, 1) := by decide +kernel
theorem d_Md_isPlace_5 : decode prog_8_method_4_code 5 = .ok (.aload_n 0, 1) := by decide +kernel
theorem d_Md_isPlace_6 : decode prog_8_method_4_code 6 = .ok (.getfield 63, 3) := by decide +kernel
theorem d_Md_isPlace_9 : decode prog_8_method_4_code 9 = .ok (.if_icmp .ge 7, 3) := by decide +kernel
theorem d_Md_isPlace_12 : decode prog_8_method_4_code 12 = .ok (.iconst 1, 1) := by decide +kernel
theorem d_Md_isPlace_13 : decode prog_8_method_4_code 13 = .ok (.goto 4, 3) := by decide +kernel
theorem d_Md_isPlace_16 : decode prog_8_method_4_code 16 = .ok (.iconst 0, 1) := by decide +kernel
theorem d_Md_isPlace_17 : decode prog_8_method_4_code 17 = .ok (.ireturn, 1) := by decide +kernel
-- PlayStatesModel.isPlace(I)Z 
def ws_Md_isPlace (G : gG) (a_t a_t_truth a_t_entries a_t_marked a_t_present a_t_helped a_t_counted a_t_told a_t_runs a_t_whose a_t_where a_t_what a_t_before a_t_behind a_t_isOn a_t_tryEntries a_t_tryMarks a_t_text : Nat)  (x_t_thrown : Int32) (x_t_places : Int32) (x_t_persons : Int32) (x_t_many : Int32) (x_t_size : Int32) (x_t_at : Int32) (x_t_sought : Int32) (x_t_found : Int32) : va_W := [(a_t, .inr (6, [.int x_t_thrown, .int x_t_places, .int x_t_persons, .ref a_t_truth, .ref a_t_entries, .ref a_t_marked, .ref a_t_present, .ref a_t_helped, .ref a_t_counted, .ref a_t_told, .ref a_t_runs, .int x_t_many, .ref a_t_whose, .ref a_t_where, .ref a_t_what, .ref a_t_before, .ref a_t_behind, .ref a_t_isOn, .ref a_t_tryEntries, .ref a_t_tryMarks, .int x_t_size, .ref a_t_text, .int x_t_at, .int x_t_sought, .int x_t_found]))]
def f_Md_isPlace  (p0 : Int32) (x_t_thrown : Int32) (x_t_places : Int32) (x_t_persons : Int32) (x_t_many : Int32) (x_t_size : Int32) (x_t_at : Int32) (x_t_sought : Int32) (x_t_found : Int32) : Option (Int32) :=
  (if p0 < 0 then some (0 : Int32) else (if x_t_places ≤ p0 then some (0 : Int32) else some (1 : Int32)))
set_option maxHeartbeats 4000000 in
set_option maxRecDepth 100000 in
theorem c_Md_isPlace (l : Launch) (G : gG) (sz : Nat) (a_t a_t_truth a_t_entries a_t_marked a_t_present a_t_helped a_t_counted a_t_told a_t_runs a_t_whose a_t_where a_t_what a_t_before a_t_behind a_t_isOn a_t_tryEntries a_t_tryMarks a_t_text : Nat)  (p0 : Int32) (x_t_thrown : Int32) (x_t_places : Int32) (x_t_persons : Int32) (x_t_many : Int32) (x_t_size : Int32) (x_t_at : Int32) (x_t_sought : Int32) (x_t_found : Int32) (r : Int32) (h : f_Md_isPlace p0 x_t_thrown x_t_places x_t_persons x_t_many x_t_size x_t_at x_t_sought x_t_found = some r)  : cN l y_Md_isPlace w_Md_isPlace { frames := 0, cells := 0, slots := 0, locals := 0 } G sz [.ref a_t, .int p0] (ws_Md_isPlace G a_t a_t_truth a_t_entries a_t_marked a_t_present a_t_helped a_t_counted a_t_told a_t_runs a_t_whose a_t_where a_t_what a_t_before a_t_behind a_t_isOn a_t_tryEntries a_t_tryMarks a_t_text x_t_thrown x_t_places x_t_persons x_t_many x_t_size x_t_at x_t_sought x_t_found) (some (.int r)) (wB G (ws_Md_isPlace G a_t a_t_truth a_t_entries a_t_marked a_t_present a_t_helped a_t_counted a_t_told a_t_runs a_t_whose a_t_where a_t_what a_t_before a_t_behind a_t_isOn a_t_tryEntries a_t_tryMarks a_t_text x_t_thrown x_t_places x_t_persons x_t_many x_t_size x_t_at x_t_sought x_t_found)) 0 0 := by
  refine cN_ofW (cc := prog_8_method_4_code) (maxL := 2) (ret := (some .boolean)) (by decide) rfl (Nat.le_of_ble_eq_true rfl) ?_
  intro p e s m args below meth c A H locs ls hx hb hr hts hown hlocks hin hml hK hN hP hD hA hS hl
  replace hl : lv_has ls 2 [(0, .ref a_t), (1, .int p0)] := hl
  replace hown : s.vm.findClass "PlayStatesModel" = some m.cls := hown
  unfold f_Md_isPlace at h
  refine lv_iload_n hx hb d_Md_isPlace_0 rfl (lv_at hl 1 rfl) ?_
  refine lv_if_lt (tgt := 16) hx hb d_Md_isPlace_1 (by decide) (fun c1 => ?_) (fun c1 => ?_)
  · replace h := (if_pos c1).symm.trans h
    refine lv_iconst (v := (0 : Int32)) hx hb d_Md_isPlace_16 (by decide) ?_
    cases h
    exact q_zretW hx hb hr hlocks (by decide) hP hD hS d_Md_isPlace_17
  · replace h := (if_neg c1).symm.trans h
    refine lv_iload_n hx hb d_Md_isPlace_4 rfl (lv_at hl 1 rfl) ?_
    refine lv_aload_n hx hb d_Md_isPlace_5 rfl (lv_at hl 0 rfl) ?_
    refine va_get (D := G.1) (ci := 6) (v := .int x_t_places) (C := "PlayStatesModel") (T := TMd) (N := 25) hx hb hts iw_6 hown hK hP 0 rfl rfl 1 (by decide) (hts _ gw_380) (fun _ h9 => h9) rfl d_Md_isPlace_6 ?_
    refine lv_icmp_ge (tgt := 16) hx hb d_Md_isPlace_9 (by decide) (fun c2 => ?_) (fun c2 => ?_)
    · replace h := (if_pos c2).symm.trans h
      refine lv_iconst (v := (0 : Int32)) hx hb d_Md_isPlace_16 (by decide) ?_
      cases h
      exact q_zretW hx hb hr hlocks (by decide) hP hD hS d_Md_isPlace_17
    · replace h := (if_neg c2).symm.trans h
      refine lv_iconst (v := (1 : Int32)) hx hb d_Md_isPlace_12 (by decide) ?_
      refine lv_goto (tgt := 17) hx hb d_Md_isPlace_13 (by decide) ?_
      cases h
      exact q_zretW hx hb hr hlocks (by decide) hP hD hS d_Md_isPlace_17

theorem gw_385 : (.fieldLink "PlayStatesModel" 19 "PlayStatesModel" "present" "[I" : Cond) ∈ GW := gT 423 (by decide +kernel) (by decide +kernel)
theorem d_Md_newPerson_0 : decode prog_8_method_6_code 0 = .ok (.aload_n 0, 1) := by decide +kernel
theorem d_Md_newPerson_1 : decode prog_8_method_6_code 1 = .ok (.getfield 19, 3) := by decide +kernel
theorem d_Md_newPerson_4 : decode prog_8_method_6_code 4 = .ok (.aload_n 0, 1) := by decide +kernel
theorem d_Md_newPerson_5 : decode prog_8_method_6_code 5 = .ok (.getfield 72, 3) := by decide +kernel
theorem d_Md_newPerson_8 : decode prog_8_method_6_code 8 = .ok (.iconst (-1), 1) := by decide +kernel
theorem d_Md_newPerson_9 : decode prog_8_method_6_code 9 = .ok (.iastore, 1) := by decide +kernel
theorem d_Md_newPerson_10 : decode prog_8_method_6_code 10 = .ok (.aload_n 0, 1) := by decide +kernel
theorem d_Md_newPerson_11 : decode prog_8_method_6_code 11 = .ok (.dup, 1) := by decide +kernel
theorem d_Md_newPerson_12 : decode prog_8_method_6_code 12 = .ok (.getfield 72, 3) := by decide +kernel
theorem d_Md_newPerson_15 : decode prog_8_method_6_code 15 = .ok (.iconst 1, 1) := by decide +kernel
theorem d_Md_newPerson_16 : decode prog_8_method_6_code 16 = .ok (.iadd, 1) := by decide +kernel
theorem d_Md_newPerson_17 : decode prog_8_method_6_code 17 = .ok (.putfield 72, 3) := by decide +kernel
theorem d_Md_newPerson_20 : decode prog_8_method_6_code 20 = .ok (.aload_n 0, 1) := by decide +kernel
theorem d_Md_newPerson_21 : decode prog_8_method_6_code 21 = .ok (.getfield 72, 3) := by decide +kernel
theorem d_Md_newPerson_24 : decode prog_8_method_6_code 24 = .ok (.iconst 1, 1) := by decide +kernel
theorem d_Md_newPerson_25 : decode prog_8_method_6_code 25 = .ok (.isub, 1) := by decide +kernel
theorem d_Md_newPerson_26 : decode prog_8_method_6_code 26 = .ok (.ireturn, 1) := by decide +kernel
-- PlayStatesModel.newPerson()I 
def ws_Md_newPerson (G : gG) (a_t a_t_truth a_t_entries a_t_marked a_t_helped a_t_counted a_t_told a_t_runs a_t_whose a_t_where a_t_what a_t_before a_t_behind a_t_isOn a_t_tryEntries a_t_tryMarks a_t_text a_t_present : Nat)  (x_t_thrown : Int32) (x_t_places : Int32) (x_t_persons : Int32) (x_t_many : Int32) (x_t_size : Int32) (x_t_at : Int32) (x_t_sought : Int32) (x_t_found : Int32) (x_t_present : Nat → Int32) : va_W := [(a_t, .inr (6, [.int x_t_thrown, .int x_t_places, .int x_t_persons, .ref a_t_truth, .ref a_t_entries, .ref a_t_marked, .ref a_t_present, .ref a_t_helped, .ref a_t_counted, .ref a_t_told, .ref a_t_runs, .int x_t_many, .ref a_t_whose, .ref a_t_where, .ref a_t_what, .ref a_t_before, .ref a_t_behind, .ref a_t_isOn, .ref a_t_tryEntries, .ref a_t_tryMarks, .int x_t_size, .ref a_t_text, .int x_t_at, .int x_t_sought, .int x_t_found])), (a_t_present, .inl (G.2 0, 8, .inl x_t_present))]
def f_Md_newPerson   (x_t_thrown : Int32) (x_t_places : Int32) (x_t_persons : Int32) (x_t_many : Int32) (x_t_size : Int32) (x_t_at : Int32) (x_t_sought : Int32) (x_t_found : Int32) (x_t_present : Nat → Int32) : Option (Int32 × Int32 × (Nat → Int32)) :=
  (if inB x_t_persons 8 then some (((x_t_persons + (1 : Int32)) - (1 : Int32)), (x_t_persons + (1 : Int32)), (upd x_t_present x_t_persons.toNatClampNeg (-1 : Int32))) else none)
set_option maxHeartbeats 4000000 in
set_option maxRecDepth 100000 in
theorem c_Md_newPerson (l : Launch) (G : gG) (sz : Nat) (a_t a_t_truth a_t_entries a_t_marked a_t_helped a_t_counted a_t_told a_t_runs a_t_whose a_t_where a_t_what a_t_before a_t_behind a_t_isOn a_t_tryEntries a_t_tryMarks a_t_text a_t_present : Nat)   (x_t_thrown : Int32) (x_t_places : Int32) (x_t_persons : Int32) (x_t_many : Int32) (x_t_size : Int32) (x_t_at : Int32) (x_t_sought : Int32) (x_t_found : Int32) (x_t_present : Nat → Int32) (r : Int32) (x_t_persons' : Int32) (x_t_present' : Nat → Int32) (h : f_Md_newPerson x_t_thrown x_t_places x_t_persons x_t_many x_t_size x_t_at x_t_sought x_t_found x_t_present = some (r, x_t_persons', x_t_present'))  : cN l y_Md_newPerson w_Md_newPerson { frames := 0, cells := 0, slots := 0, locals := 0 } G sz [.ref a_t] (ws_Md_newPerson G a_t a_t_truth a_t_entries a_t_marked a_t_helped a_t_counted a_t_told a_t_runs a_t_whose a_t_where a_t_what a_t_before a_t_behind a_t_isOn a_t_tryEntries a_t_tryMarks a_t_text a_t_present x_t_thrown x_t_places x_t_persons x_t_many x_t_size x_t_at x_t_sought x_t_found x_t_present) (some (.int r)) (wB G (ws_Md_newPerson G a_t a_t_truth a_t_entries a_t_marked a_t_helped a_t_counted a_t_told a_t_runs a_t_whose a_t_where a_t_what a_t_before a_t_behind a_t_isOn a_t_tryEntries a_t_tryMarks a_t_text a_t_present x_t_thrown x_t_places x_t_persons' x_t_many x_t_size x_t_at x_t_sought x_t_found x_t_present')) 0 0 := by
  refine cN_ofW (cc := prog_8_method_6_code) (maxL := 1) (ret := (some .int)) (by decide) rfl (Nat.le_of_ble_eq_true rfl) ?_
  intro p e s m args below meth c A H locs ls hx hb hr hts hown hlocks hin hml hK hN hP hD hA hS hl
  replace hl : lv_has ls 1 [(0, .ref a_t)] := hl
  replace hown : s.vm.findClass "PlayStatesModel" = some m.cls := hown
  unfold f_Md_newPerson at h
  refine lv_aload_n hx hb d_Md_newPerson_0 rfl (lv_at hl 0 rfl) ?_
  refine va_get (D := G.1) (ci := 6) (v := .ref a_t_present) (C := "PlayStatesModel") (T := TMd) (N := 25) hx hb hts iw_6 hown hK hP 0 rfl rfl 6 (by decide) (hts _ gw_385) (fun _ h9 => h9) rfl d_Md_newPerson_1 ?_
  refine lv_aload_n hx hb d_Md_newPerson_4 rfl (lv_at hl 0 rfl) ?_
  refine va_get (D := G.1) (ci := 6) (v := .int x_t_persons) (C := "PlayStatesModel") (T := TMd) (N := 25) hx hb hts iw_6 hown hK hP 0 rfl rfl 2 (by decide) (hts _ gw_381) (fun _ h9 => h9) rfl d_Md_newPerson_5 ?_
  refine lv_iconst (v := (-1 : Int32)) hx hb d_Md_newPerson_8 (by decide) ?_
  obtain ⟨i1, h⟩ := o_if h
  refine va_iast (n := 8) (f := x_t_present) hx hb hK hP hD hS 1 0 rfl rfl i1 d_Md_newPerson_9 (fun H locs hP hD hS => ?_)
  replace hP : va_P G.1 vwCl (ws_Md_newPerson G a_t a_t_truth a_t_entries a_t_marked a_t_helped a_t_counted a_t_told a_t_runs a_t_whose a_t_where a_t_what a_t_before a_t_behind a_t_isOn a_t_tryEntries a_t_tryMarks a_t_text a_t_present x_t_thrown x_t_places x_t_persons x_t_many x_t_size x_t_at x_t_sought x_t_found (upd x_t_present x_t_persons.toNatClampNeg (-1 : Int32))) H := hP
  replace hD : va_D A (ws_Md_newPerson G a_t a_t_truth a_t_entries a_t_marked a_t_helped a_t_counted a_t_told a_t_runs a_t_whose a_t_where a_t_what a_t_before a_t_behind a_t_isOn a_t_tryEntries a_t_tryMarks a_t_text a_t_present x_t_thrown x_t_places x_t_persons x_t_many x_t_size x_t_at x_t_sought x_t_found (upd x_t_present x_t_persons.toNatClampNeg (-1 : Int32))) := hD
  refine lv_aload_n hx hb d_Md_newPerson_10 rfl (lv_at hl 0 rfl) ?_
  refine lv_dup hx hb d_Md_newPerson_11 rfl ?_
  refine va_get (D := G.1) (ci := 6) (v := .int x_t_persons) (C := "PlayStatesModel") (T := TMd) (N := 25) hx hb hts iw_6 hown hK hP 0 rfl rfl 2 (by decide) (hts _ gw_381) (fun _ h9 => h9) rfl d_Md_newPerson_12 ?_
  refine lv_iconst (v := (1 : Int32)) hx hb d_Md_newPerson_15 (by decide) ?_
  refine lv_iadd hx hb d_Md_newPerson_16 ?_
  refine va_put (D := G.1) (ci := 6) (v := .int (x_t_persons + (1 : Int32))) (ty := .int) (C := "PlayStatesModel") (T := TMd) (N := 25) hx hb hts iw_6 tyMd tyMd_ok nmMd hown hK hP hD hS 0 rfl rfl 2 (by decide) (hts _ gw_381) (fun _ h9 => h9) rfl (by decide +kernel) (by rfl) (by rfl) (Nat.le_of_ble_eq_true rfl) d_Md_newPerson_17 (fun H locs hP hD hS => ?_)
  replace hP : va_P G.1 vwCl (ws_Md_newPerson G a_t a_t_truth a_t_entries a_t_marked a_t_helped a_t_counted a_t_told a_t_runs a_t_whose a_t_where a_t_what a_t_before a_t_behind a_t_isOn a_t_tryEntries a_t_tryMarks a_t_text a_t_present x_t_thrown x_t_places (x_t_persons + (1 : Int32)) x_t_many x_t_size x_t_at x_t_sought x_t_found (upd x_t_present x_t_persons.toNatClampNeg (-1 : Int32))) H := hP
  replace hD : va_D A (ws_Md_newPerson G a_t a_t_truth a_t_entries a_t_marked a_t_helped a_t_counted a_t_told a_t_runs a_t_whose a_t_where a_t_what a_t_before a_t_behind a_t_isOn a_t_tryEntries a_t_tryMarks a_t_text a_t_present x_t_thrown x_t_places (x_t_persons + (1 : Int32)) x_t_many x_t_size x_t_at x_t_sought x_t_found (upd x_t_present x_t_persons.toNatClampNeg (-1 : Int32))) := hD
  refine lv_aload_n hx hb d_Md_newPerson_20 rfl (lv_at hl 0 rfl) ?_
  refine va_get (D := G.1) (ci := 6) (v := .int (x_t_persons + (1 : Int32))) (C := "PlayStatesModel") (T := TMd) (N := 25) hx hb hts iw_6 hown hK hP 0 rfl rfl 2 (by decide) (hts _ gw_381) (fun _ h9 => h9) rfl d_Md_newPerson_21 ?_
  refine lv_iconst (v := (1 : Int32)) hx hb d_Md_newPerson_24 (by decide) ?_
  refine lv_isub hx hb d_Md_newPerson_25 ?_
  cases h
  exact q_iretW hx hb hr hlocks hP hD hS d_Md_newPerson_26

theorem gw_379 : (.fieldLink "PlayStatesModel" 69 "PlayStatesModel" "thrown" "I" : Cond) ∈ GW := gT 417 (by decide +kernel) (by decide +kernel)
theorem gw_436 : (.code ⟨"PlayStatesModel", "newPerson", "()I"⟩ prog_8_method_6_code 1 (some .int) : Cond) ∈ GW := gT 501 (by decide +kernel) (by decide +kernel)
theorem gw_434 : (.methodLink "PlayStatesModel" 75 ⟨"PlayStatesModel", "newPerson", "()I"⟩ : Cond) ∈ GW := gT 498 (by decide +kernel) (by decide +kernel)
theorem gw_36 : (.initialized "PlayStatesModel" : Cond) ∈ GW := gT 6 (by decide +kernel) (by decide +kernel)
theorem gw_435 : (.instanceMethod ⟨"PlayStatesModel", "newPerson", "()I"⟩ : Cond) ∈ GW := gT 500 (by decide +kernel) (by decide +kernel)
theorem gw_16 : (.selects "PlayStatesModel" ⟨"PlayStatesModel", "newPerson", "()I"⟩ ⟨"PlayStatesModel", "newPerson", "()I"⟩ : Cond) ∈ GW := gP 16 (by decide +kernel) (by decide +kernel)
theorem d_Md_person_0 : decode prog_8_method_5_code 0 = .ok (.aload_n 0, 1) := by decide +kernel
theorem d_Md_person_1 : decode prog_8_method_5_code 1 = .ok (.iconst 0, 1) := by decide +kernel
theorem d_Md_person_2 : decode prog_8_method_5_code 2 = .ok (.putfield 69, 3) := by decide +kernel
theorem d_Md_person_5 : decode prog_8_method_5_code 5 = .ok (.aload_n 0, 1) := by decide +kernel
theorem d_Md_person_6 : decode prog_8_method_5_code 6 = .ok (.getfield 72, 3) := by decide +kernel
theorem d_Md_person_9 : decode prog_8_method_5_code 9 = .ok (.bipush 8, 2) := by decide +kernel
theorem d_Md_person_11 : decode prog_8_method_5_code 11 = .ok (.if_icmp .ne 5, 3) := by decide +kernel
theorem d_Md_person_14 : decode prog_8_method_5_code 14 = .ok (.iconst (-1), 1) := by decide +kernel
theorem d_Md_person_15 : decode prog_8_method_5_code 15 = .ok (.ireturn, 1) := by decide +kernel
theorem d_Md_person_16 : decode prog_8_method_5_code 16 = .ok (.aload_n 0, 1) := by decide +kernel
theorem d_Md_person_17 : decode prog_8_method_5_code 17 = .ok (.invokevirtual 75, 3) := by decide +kernel
theorem d_Md_person_20 : decode prog_8_method_5_code 20 = .ok (.ireturn, 1) := by decide +kernel
-- PlayStatesModel.person()I 
def ws_Md_person (G : gG) (a_t a_t_truth a_t_entries a_t_marked a_t_helped a_t_counted a_t_told a_t_runs a_t_whose a_t_where a_t_what a_t_before a_t_behind a_t_isOn a_t_tryEntries a_t_tryMarks a_t_text a_t_present : Nat)  (x_t_thrown : Int32) (x_t_places : Int32) (x_t_persons : Int32) (x_t_many : Int32) (x_t_size : Int32) (x_t_at : Int32) (x_t_sought : Int32) (x_t_found : Int32) (x_t_present : Nat → Int32) : va_W := [(a_t, .inr (6, [.int x_t_thrown, .int x_t_places, .int x_t_persons, .ref a_t_truth, .ref a_t_entries, .ref a_t_marked, .ref a_t_present, .ref a_t_helped, .ref a_t_counted, .ref a_t_told, .ref a_t_runs, .int x_t_many, .ref a_t_whose, .ref a_t_where, .ref a_t_what, .ref a_t_before, .ref a_t_behind, .ref a_t_isOn, .ref a_t_tryEntries, .ref a_t_tryMarks, .int x_t_size, .ref a_t_text, .int x_t_at, .int x_t_sought, .int x_t_found])), (a_t_present, .inl (G.2 0, 8, .inl x_t_present))]
def f_Md_person   (x_t_thrown : Int32) (x_t_places : Int32) (x_t_persons : Int32) (x_t_many : Int32) (x_t_size : Int32) (x_t_at : Int32) (x_t_sought : Int32) (x_t_found : Int32) (x_t_present : Nat → Int32) : Option (Int32 × Int32 × Int32 × (Nat → Int32)) :=
  (if x_t_persons = (8 : Int32) then some ((-1 : Int32), (0 : Int32), x_t_persons, x_t_present) else ((f_Md_newPerson (0 : Int32) x_t_places x_t_persons x_t_many x_t_size x_t_at x_t_sought x_t_found x_t_present).bind fun y2 => some (y2.1, (0 : Int32), y2.2.1, y2.2.2)))
set_option maxHeartbeats 4000000 in
set_option maxRecDepth 100000 in
theorem c_Md_person (l : Launch) (G : gG) (sz : Nat) (a_t a_t_truth a_t_entries a_t_marked a_t_helped a_t_counted a_t_told a_t_runs a_t_whose a_t_where a_t_what a_t_before a_t_behind a_t_isOn a_t_tryEntries a_t_tryMarks a_t_text a_t_present : Nat)   (x_t_thrown : Int32) (x_t_places : Int32) (x_t_persons : Int32) (x_t_many : Int32) (x_t_size : Int32) (x_t_at : Int32) (x_t_sought : Int32) (x_t_found : Int32) (x_t_present : Nat → Int32) (r : Int32) (x_t_thrown' : Int32) (x_t_persons' : Int32) (x_t_present' : Nat → Int32) (h : f_Md_person x_t_thrown x_t_places x_t_persons x_t_many x_t_size x_t_at x_t_sought x_t_found x_t_present = some (r, x_t_thrown', x_t_persons', x_t_present'))  : cN l y_Md_person w_Md_person { frames := 1, cells := 0, slots := 0, locals := 20 } G sz [.ref a_t] (ws_Md_person G a_t a_t_truth a_t_entries a_t_marked a_t_helped a_t_counted a_t_told a_t_runs a_t_whose a_t_where a_t_what a_t_before a_t_behind a_t_isOn a_t_tryEntries a_t_tryMarks a_t_text a_t_present x_t_thrown x_t_places x_t_persons x_t_many x_t_size x_t_at x_t_sought x_t_found x_t_present) (some (.int r)) (wB G (ws_Md_person G a_t a_t_truth a_t_entries a_t_marked a_t_helped a_t_counted a_t_told a_t_runs a_t_whose a_t_where a_t_what a_t_before a_t_behind a_t_isOn a_t_tryEntries a_t_tryMarks a_t_text a_t_present x_t_thrown' x_t_places x_t_persons' x_t_many x_t_size x_t_at x_t_sought x_t_found x_t_present')) 0 0 := by
  refine cN_ofW (cc := prog_8_method_5_code) (maxL := 1) (ret := (some .int)) (by decide) rfl (Nat.le_of_ble_eq_true rfl) ?_
  intro p e s m args below meth c A H locs ls hx hb hr hts hown hlocks hin hml hK hN hP hD hA hS hl
  replace hl : lv_has ls 1 [(0, .ref a_t)] := hl
  replace hown : s.vm.findClass "PlayStatesModel" = some m.cls := hown
  unfold f_Md_person at h
  refine lv_aload_n hx hb d_Md_person_0 rfl (lv_at hl 0 rfl) ?_
  refine lv_iconst (v := (0 : Int32)) hx hb d_Md_person_1 (by decide) ?_
  refine va_put (D := G.1) (ci := 6) (v := .int (0 : Int32)) (ty := .int) (C := "PlayStatesModel") (T := TMd) (N := 25) hx hb hts iw_6 tyMd tyMd_ok nmMd hown hK hP hD hS 0 rfl rfl 0 (by decide) (hts _ gw_379) (fun _ h9 => h9) rfl (by decide +kernel) (by rfl) (by rfl) (Nat.le_of_ble_eq_true rfl) d_Md_person_2 (fun H locs hP hD hS => ?_)
  replace hP : va_P G.1 vwCl (ws_Md_person G a_t a_t_truth a_t_entries a_t_marked a_t_helped a_t_counted a_t_told a_t_runs a_t_whose a_t_where a_t_what a_t_before a_t_behind a_t_isOn a_t_tryEntries a_t_tryMarks a_t_text a_t_present (0 : Int32) x_t_places x_t_persons x_t_many x_t_size x_t_at x_t_sought x_t_found x_t_present) H := hP
  replace hD : va_D A (ws_Md_person G a_t a_t_truth a_t_entries a_t_marked a_t_helped a_t_counted a_t_told a_t_runs a_t_whose a_t_where a_t_what a_t_before a_t_behind a_t_isOn a_t_tryEntries a_t_tryMarks a_t_text a_t_present (0 : Int32) x_t_places x_t_persons x_t_many x_t_size x_t_at x_t_sought x_t_found x_t_present) := hD
  refine lv_aload_n hx hb d_Md_person_5 rfl (lv_at hl 0 rfl) ?_
  refine va_get (D := G.1) (ci := 6) (v := .int x_t_persons) (C := "PlayStatesModel") (T := TMd) (N := 25) hx hb hts iw_6 hown hK hP 0 rfl rfl 2 (by decide) (hts _ gw_381) (fun _ h9 => h9) rfl d_Md_person_6 ?_
  refine lv_bipush (v := (8 : Int32)) hx hb d_Md_person_9 (by decide) ?_
  refine lv_icmp_ne (tgt := 16) hx hb d_Md_person_11 (by decide) (fun c1 => ?_) (fun c1 => ?_)
  · replace h := (if_neg c1).symm.trans h
    refine lv_aload_n hx hb d_Md_person_16 rfl (lv_at hl 0 rfl) ?_
    obtain ⟨y2, hy2, h⟩ := o_bind h
    have hPc := hP.sub (ws' := (ws_Md_newPerson G a_t a_t_truth a_t_entries a_t_marked a_t_helped a_t_counted a_t_told a_t_runs a_t_whose a_t_where a_t_what a_t_before a_t_behind a_t_isOn a_t_tryEntries a_t_tryMarks a_t_text a_t_present (0 : Int32) x_t_places x_t_persons x_t_many x_t_size x_t_at x_t_sought x_t_found x_t_present)) [0, 1] rfl
    have hDc := hD.sub (ws' := (ws_Md_newPerson G a_t a_t_truth a_t_entries a_t_marked a_t_helped a_t_counted a_t_told a_t_runs a_t_whose a_t_where a_t_what a_t_before a_t_behind a_t_isOn a_t_tryEntries a_t_tryMarks a_t_text a_t_present (0 : Int32) x_t_places x_t_persons x_t_many x_t_size x_t_at x_t_sought x_t_found x_t_present)) [0, 1] (by decide) rfl
    have hFc := va_free (wc := (ws_Md_newPerson G a_t a_t_truth a_t_entries a_t_marked a_t_helped a_t_counted a_t_told a_t_runs a_t_whose a_t_where a_t_what a_t_before a_t_behind a_t_isOn a_t_tryEntries a_t_tryMarks a_t_text a_t_present (0 : Int32) x_t_places x_t_persons x_t_many x_t_size x_t_at x_t_sought x_t_found x_t_present)) hD hS hA [0, 1] rfl
    refine q_call1 (va_runV (As := []) (rest := []) ⟨hx, hb, hml, hown, hts⟩ (c_Md_newPerson l G H.size a_t a_t_truth a_t_entries a_t_marked a_t_helped a_t_counted a_t_told a_t_runs a_t_whose a_t_where a_t_what a_t_before a_t_behind a_t_isOn a_t_tryEntries a_t_tryMarks a_t_text a_t_present (0 : Int32) x_t_places x_t_persons x_t_many x_t_size x_t_at x_t_sought x_t_found x_t_present _ _ _ hy2) (cwV 0 hts (gV gw_434 gw_435 gw_16 gw_36 gw_436) rfl rfl rfl (by decide +kernel) ⟨Nat.le_of_ble_eq_true rfl, Nat.le_of_ble_eq_true rfl⟩) (pV hK hN hPc hDc (ci := 6) (q0 := 0) rfl rfl) rfl rfl hl.1 rfl (lv_room (Nat.le_of_ble_eq_true rfl)) d_Md_person_17 ⟨Nat.le_of_ble_eq_true rfl, Nat.le_of_ble_eq_true rfl⟩) hS (fun q _ h => hFc q h) hFc (fun H1 locs hB hz hk hS => ?_)
    obtain ⟨hP, hD⟩ := q_joinA hFc hB.1 hB.2
    generalize H1 = H at hP hS ⊢
    replace hP : va_P G.1 vwCl (ws_Md_person G a_t a_t_truth a_t_entries a_t_marked a_t_helped a_t_counted a_t_told a_t_runs a_t_whose a_t_where a_t_what a_t_before a_t_behind a_t_isOn a_t_tryEntries a_t_tryMarks a_t_text a_t_present (0 : Int32) x_t_places y2.2.1 x_t_many x_t_size x_t_at x_t_sought x_t_found y2.2.2) H := hP
    replace hD : va_D A (ws_Md_person G a_t a_t_truth a_t_entries a_t_marked a_t_helped a_t_counted a_t_told a_t_runs a_t_whose a_t_where a_t_what a_t_before a_t_behind a_t_isOn a_t_tryEntries a_t_tryMarks a_t_text a_t_present (0 : Int32) x_t_places y2.2.1 x_t_many x_t_size x_t_at x_t_sought x_t_found y2.2.2) := hD
    cases h
    exact q_iretW hx hb hr hlocks hP hD hS d_Md_person_20
  · replace h := (if_pos c1).symm.trans h
    refine lv_iconst (v := (-1 : Int32)) hx hb d_Md_person_14 (by decide) ?_
    cases h
    exact q_iretW hx hb hr hlocks hP hD hS d_Md_person_15

theorem gw_384 : (.fieldLink "PlayStatesModel" 16 "PlayStatesModel" "marked" "[I" : Cond) ∈ GW := gT 422 (by decide +kernel) (by decide +kernel)
theorem gw_383 : (.fieldLink "PlayStatesModel" 13 "PlayStatesModel" "entries" "[I" : Cond) ∈ GW := gT 421 (by decide +kernel) (by decide +kernel)
theorem d_Md_act_0 : decode prog_8_method_7_code 0 = .ok (.bipush 81, 2) := by decide +kernel
theorem d_Md_act_2 : decode prog_8_method_7_code 2 = .ok (.iload_n 1, 1) := by decide +kernel
theorem d_Md_act_3 : decode prog_8_method_7_code 3 = .ok (.imul, 1) := by decide +kernel
theorem d_Md_act_4 : decode prog_8_method_7_code 4 = .ok (.iload_n 2, 1) := by decide +kernel
theorem d_Md_act_5 : decode prog_8_method_7_code 5 = .ok (.iadd, 1) := by decide +kernel
theorem d_Md_act_6 : decode prog_8_method_7_code 6 = .ok (.istore 4, 2) := by decide +kernel
theorem d_Md_act_8 : decode prog_8_method_7_code 8 = .ok (.iload_n 3, 1) := by decide +kernel
theorem d_Md_act_9 : decode prog_8_method_7_code 9 = .ok (.bipush 10, 2) := by decide +kernel
theorem d_Md_act_11 : decode prog_8_method_7_code 11 = .ok (.if_icmp .ge 14, 3) := by decide +kernel
theorem d_Md_act_14 : decode prog_8_method_7_code 14 = .ok (.aload_n 0, 1) := by decide +kernel
theorem d_Md_act_15 : decode prog_8_method_7_code 15 = .ok (.getfield 13, 3) := by decide +kernel
theorem d_Md_act_18 : decode prog_8_method_7_code 18 = .ok (.iload 4, 2) := by decide +kernel
theorem d_Md_act_20 : decode prog_8_method_7_code 20 = .ok (.iload_n 3, 1) := by decide +kernel
theorem d_Md_act_21 : decode prog_8_method_7_code 21 = .ok (.iastore, 1) := by decide +kernel
theorem d_Md_act_22 : decode prog_8_method_7_code 22 = .ok (.goto 56, 3) := by decide +kernel
theorem d_Md_act_25 : decode prog_8_method_7_code 25 = .ok (.iload_n 3, 1) := by decide +kernel
theorem d_Md_act_26 : decode prog_8_method_7_code 26 = .ok (.bipush 20, 2) := by decide +kernel
theorem d_Md_act_28 : decode prog_8_method_7_code 28 = .ok (.if_icmp .ge 27, 3) := by decide +kernel
theorem d_Md_act_31 : decode prog_8_method_7_code 31 = .ok (.aload_n 0, 1) := by decide +kernel
theorem d_Md_act_32 : decode prog_8_method_7_code 32 = .ok (.getfield 16, 3) := by decide +kernel
theorem d_Md_act_35 : decode prog_8_method_7_code 35 = .ok (.iload 4, 2) := by decide +kernel
theorem d_Md_act_37 : decode prog_8_method_7_code 37 = .ok (.aload_n 0, 1) := by decide +kernel
theorem d_Md_act_38 : decode prog_8_method_7_code 38 = .ok (.getfield 16, 3) := by decide +kernel
theorem d_Md_act_41 : decode prog_8_method_7_code 41 = .ok (.iload 4, 2) := by decide +kernel
theorem d_Md_act_43 : decode prog_8_method_7_code 43 = .ok (.iaload, 1) := by decide +kernel
theorem d_Md_act_44 : decode prog_8_method_7_code 44 = .ok (.iconst 1, 1) := by decide +kernel
theorem d_Md_act_45 : decode prog_8_method_7_code 45 = .ok (.iload_n 3, 1) := by decide +kernel
theorem d_Md_act_46 : decode prog_8_method_7_code 46 = .ok (.bipush 10, 2) := by decide +kernel
theorem d_Md_act_48 : decode prog_8_method_7_code 48 = .ok (.isub, 1) := by decide +kernel
theorem d_Md_act_49 : decode prog_8_method_7_code 49 = .ok (.ishl, 1) := by decide +kernel
theorem d_Md_act_50 : decode prog_8_method_7_code 50 = .ok (.ior, 1) := by decide +kernel
theorem d_Md_act_51 : decode prog_8_method_7_code 51 = .ok (.iastore, 1) := by decide +kernel
theorem d_Md_act_52 : decode prog_8_method_7_code 52 = .ok (.goto 26, 3) := by decide +kernel
theorem d_Md_act_55 : decode prog_8_method_7_code 55 = .ok (.aload_n 0, 1) := by decide +kernel
theorem d_Md_act_56 : decode prog_8_method_7_code 56 = .ok (.getfield 16, 3) := by decide +kernel
theorem d_Md_act_59 : decode prog_8_method_7_code 59 = .ok (.iload 4, 2) := by decide +kernel
theorem d_Md_act_61 : decode prog_8_method_7_code 61 = .ok (.aload_n 0, 1) := by decide +kernel
theorem d_Md_act_62 : decode prog_8_method_7_code 62 = .ok (.getfield 16, 3) := by decide +kernel
theorem d_Md_act_65 : decode prog_8_method_7_code 65 = .ok (.iload 4, 2) := by decide +kernel
theorem d_Md_act_67 : decode prog_8_method_7_code 67 = .ok (.iaload, 1) := by decide +kernel
theorem d_Md_act_68 : decode prog_8_method_7_code 68 = .ok (.iconst 1, 1) := by decide +kernel
theorem d_Md_act_69 : decode prog_8_method_7_code 69 = .ok (.iload_n 3, 1) := by decide +kernel
theorem d_Md_act_70 : decode prog_8_method_7_code 70 = .ok (.bipush 20, 2) := by decide +kernel
theorem d_Md_act_72 : decode prog_8_method_7_code 72 = .ok (.isub, 1) := by decide +kernel
theorem d_Md_act_73 : decode prog_8_method_7_code 73 = .ok (.ishl, 1) := by decide +kernel
theorem d_Md_act_74 : decode prog_8_method_7_code 74 = .ok (.iconst (-1), 1) := by decide +kernel
theorem d_Md_act_75 : decode prog_8_method_7_code 75 = .ok (.ixor, 1) := by decide +kernel
theorem d_Md_act_76 : decode prog_8_method_7_code 76 = .ok (.iand, 1) := by decide +kernel
theorem d_Md_act_77 : decode prog_8_method_7_code 77 = .ok (.iastore, 1) := by decide +kernel
theorem d_Md_act_78 : decode prog_8_method_7_code 78 = .ok (.return_, 1) := by decide +kernel
-- PlayStatesModel.act(III)V 
def ws_Md_act (G : gG) (a_t a_t_truth a_t_present a_t_helped a_t_counted a_t_told a_t_runs a_t_whose a_t_where a_t_what a_t_before a_t_behind a_t_isOn a_t_tryEntries a_t_tryMarks a_t_text a_t_entries a_t_marked : Nat)  (x_t_thrown : Int32) (x_t_places : Int32) (x_t_persons : Int32) (x_t_many : Int32) (x_t_size : Int32) (x_t_at : Int32) (x_t_sought : Int32) (x_t_found : Int32) (x_t_entries : Nat → Int32) (x_t_marked : Nat → Int32) : va_W := [(a_t, .inr (6, [.int x_t_thrown, .int x_t_places, .int x_t_persons, .ref a_t_truth, .ref a_t_entries, .ref a_t_marked, .ref a_t_present, .ref a_t_helped, .ref a_t_counted, .ref a_t_told, .ref a_t_runs, .int x_t_many, .ref a_t_whose, .ref a_t_where, .ref a_t_what, .ref a_t_before, .ref a_t_behind, .ref a_t_isOn, .ref a_t_tryEntries, .ref a_t_tryMarks, .int x_t_size, .ref a_t_text, .int x_t_at, .int x_t_sought, .int x_t_found])), (a_t_entries, .inl (G.2 0, 648, .inl x_t_entries)), (a_t_marked, .inl (G.2 0, 648, .inl x_t_marked))]
def f_Md_act  (p0 : Int32) (p1 : Int32) (p2 : Int32) (x_t_thrown : Int32) (x_t_places : Int32) (x_t_persons : Int32) (x_t_many : Int32) (x_t_size : Int32) (x_t_at : Int32) (x_t_sought : Int32) (x_t_found : Int32) (x_t_entries : Nat → Int32) (x_t_marked : Nat → Int32) : Option ((Nat → Int32) × (Nat → Int32)) :=
  (if (10 : Int32) ≤ p2 then (if (20 : Int32) ≤ p2 then (if inB (((81 : Int32) * p0) + p1) 648 then (if inB (((81 : Int32) * p0) + p1) 648 then some (x_t_entries, (upd x_t_marked (((81 : Int32) * p0) + p1).toNatClampNeg ((x_t_marked (((81 : Int32) * p0) + p1).toNatClampNeg) &&& (((1 : Int32) <<< ((p2 - (20 : Int32)) &&& 31)) ^^^ (-1 : Int32))))) else none) else none) else (if inB (((81 : Int32) * p0) + p1) 648 then (if inB (((81 : Int32) * p0) + p1) 648 then some (x_t_entries, (upd x_t_marked (((81 : Int32) * p0) + p1).toNatClampNeg ((x_t_marked (((81 : Int32) * p0) + p1).toNatClampNeg) ||| ((1 : Int32) <<< ((p2 - (10 : Int32)) &&& 31))))) else none) else none)) else (if inB (((81 : Int32) * p0) + p1) 648 then some ((upd x_t_entries (((81 : Int32) * p0) + p1).toNatClampNeg p2), x_t_marked) else none))
set_option maxHeartbeats 4000000 in
set_option maxRecDepth 100000 in
theorem c_Md_act (l : Launch) (G : gG) (sz : Nat) (a_t a_t_truth a_t_present a_t_helped a_t_counted a_t_told a_t_runs a_t_whose a_t_where a_t_what a_t_before a_t_behind a_t_isOn a_t_tryEntries a_t_tryMarks a_t_text a_t_entries a_t_marked : Nat)  (p0 : Int32) (p1 : Int32) (p2 : Int32) (x_t_thrown : Int32) (x_t_places : Int32) (x_t_persons : Int32) (x_t_many : Int32) (x_t_size : Int32) (x_t_at : Int32) (x_t_sought : Int32) (x_t_found : Int32) (x_t_entries : Nat → Int32) (x_t_marked : Nat → Int32) (x_t_entries' : Nat → Int32) (x_t_marked' : Nat → Int32) (h : f_Md_act p0 p1 p2 x_t_thrown x_t_places x_t_persons x_t_many x_t_size x_t_at x_t_sought x_t_found x_t_entries x_t_marked = some (x_t_entries', x_t_marked'))  : cN l y_Md_act w_Md_act { frames := 0, cells := 0, slots := 0, locals := 0 } G sz [.ref a_t, .int p0, .int p1, .int p2] (ws_Md_act G a_t a_t_truth a_t_present a_t_helped a_t_counted a_t_told a_t_runs a_t_whose a_t_where a_t_what a_t_before a_t_behind a_t_isOn a_t_tryEntries a_t_tryMarks a_t_text a_t_entries a_t_marked x_t_thrown x_t_places x_t_persons x_t_many x_t_size x_t_at x_t_sought x_t_found x_t_entries x_t_marked) none (wB G (ws_Md_act G a_t a_t_truth a_t_present a_t_helped a_t_counted a_t_told a_t_runs a_t_whose a_t_where a_t_what a_t_before a_t_behind a_t_isOn a_t_tryEntries a_t_tryMarks a_t_text a_t_entries a_t_marked x_t_thrown x_t_places x_t_persons x_t_many x_t_size x_t_at x_t_sought x_t_found x_t_entries' x_t_marked')) 0 0 := by
  refine cN_ofW (cc := prog_8_method_7_code) (maxL := 5) (ret := none) (by decide) rfl (Nat.le_of_ble_eq_true rfl) ?_
  intro p e s m args below meth c A H locs ls hx hb hr hts hown hlocks hin hml hK hN hP hD hA hS hl
  replace hl : lv_has ls 5 [(0, .ref a_t), (1, .int p0), (2, .int p1), (3, .int p2)] := hl
  replace hown : s.vm.findClass "PlayStatesModel" = some m.cls := hown
  unfold f_Md_act at h
  refine lv_bipush (v := (81 : Int32)) hx hb d_Md_act_0 (by decide) ?_
  refine lv_iload_n hx hb d_Md_act_2 rfl (lv_at hl 1 rfl) ?_
  refine lv_imul hx hb d_Md_act_3 ?_
  refine lv_iload_n hx hb d_Md_act_4 rfl (lv_at hl 2 rfl) ?_
  refine lv_iadd hx hb d_Md_act_5 ?_
  refine lv_istore (lv' := [(4, .int (((81 : Int32) * p0) + p1)), (0, .ref a_t), (1, .int p0), (2, .int p1), (3, .int p2)]) hx hb d_Md_act_6 hl (by decide) rfl (fun ls hl => ?_)
  refine lv_iload_n hx hb d_Md_act_8 rfl (lv_at hl 4 rfl) ?_
  refine lv_bipush (v := (10 : Int32)) hx hb d_Md_act_9 (by decide) ?_
  refine lv_icmp_ge (tgt := 25) hx hb d_Md_act_11 (by decide) (fun c1 => ?_) (fun c1 => ?_)
  · replace h := (if_pos c1).symm.trans h
    refine lv_iload_n hx hb d_Md_act_25 rfl (lv_at hl 4 rfl) ?_
    refine lv_bipush (v := (20 : Int32)) hx hb d_Md_act_26 (by decide) ?_
    refine lv_icmp_ge (tgt := 55) hx hb d_Md_act_28 (by decide) (fun c2 => ?_) (fun c2 => ?_)
    · replace h := (if_pos c2).symm.trans h
      refine lv_aload_n hx hb d_Md_act_55 rfl (lv_at hl 1 rfl) ?_
      refine va_get (D := G.1) (ci := 6) (v := .ref a_t_marked) (C := "PlayStatesModel") (T := TMd) (N := 25) hx hb hts iw_6 hown hK hP 0 rfl rfl 5 (by decide) (hts _ gw_384) (fun _ h9 => h9) rfl d_Md_act_56 ?_
      refine lv_iload hx hb d_Md_act_59 (lv_at hl 0 rfl) ?_
      refine lv_aload_n hx hb d_Md_act_61 rfl (lv_at hl 1 rfl) ?_
      refine va_get (D := G.1) (ci := 6) (v := .ref a_t_marked) (C := "PlayStatesModel") (T := TMd) (N := 25) hx hb hts iw_6 hown hK hP 0 rfl rfl 5 (by decide) (hts _ gw_384) (fun _ h9 => h9) rfl d_Md_act_62 ?_
      refine lv_iload hx hb d_Md_act_65 (lv_at hl 0 rfl) ?_
      obtain ⟨i3, h⟩ := o_if h
      refine va_iald (n := 648) (f := x_t_marked) hx hb hK hP 2 0 rfl rfl i3 d_Md_act_67 ?_
      refine lv_iconst (v := (1 : Int32)) hx hb d_Md_act_68 (by decide) ?_
      refine lv_iload_n hx hb d_Md_act_69 rfl (lv_at hl 4 rfl) ?_
      refine lv_bipush (v := (20 : Int32)) hx hb d_Md_act_70 (by decide) ?_
      refine lv_isub hx hb d_Md_act_72 ?_
      refine lv_ishl hx hb d_Md_act_73 ?_
      refine lv_iconst (v := (-1 : Int32)) hx hb d_Md_act_74 (by decide) ?_
      refine lv_ixor hx hb d_Md_act_75 ?_
      refine lv_iand hx hb d_Md_act_76 ?_
      obtain ⟨i4, h⟩ := o_if h
      refine va_iast (n := 648) (f := x_t_marked) hx hb hK hP hD hS 2 0 rfl rfl i4 d_Md_act_77 (fun H locs hP hD hS => ?_)
      replace hP : va_P G.1 vwCl (ws_Md_act G a_t a_t_truth a_t_present a_t_helped a_t_counted a_t_told a_t_runs a_t_whose a_t_where a_t_what a_t_before a_t_behind a_t_isOn a_t_tryEntries a_t_tryMarks a_t_text a_t_entries a_t_marked x_t_thrown x_t_places x_t_persons x_t_many x_t_size x_t_at x_t_sought x_t_found x_t_entries (upd x_t_marked (((81 : Int32) * p0) + p1).toNatClampNeg ((x_t_marked (((81 : Int32) * p0) + p1).toNatClampNeg) &&& (((1 : Int32) <<< ((p2 - (20 : Int32)) &&& 31)) ^^^ (-1 : Int32))))) H := hP
      replace hD : va_D A (ws_Md_act G a_t a_t_truth a_t_present a_t_helped a_t_counted a_t_told a_t_runs a_t_whose a_t_where a_t_what a_t_before a_t_behind a_t_isOn a_t_tryEntries a_t_tryMarks a_t_text a_t_entries a_t_marked x_t_thrown x_t_places x_t_persons x_t_many x_t_size x_t_at x_t_sought x_t_found x_t_entries (upd x_t_marked (((81 : Int32) * p0) + p1).toNatClampNeg ((x_t_marked (((81 : Int32) * p0) + p1).toNatClampNeg) &&& (((1 : Int32) <<< ((p2 - (20 : Int32)) &&& 31)) ^^^ (-1 : Int32))))) := hD
      cases h
      exact q_vretW hx hb hr hlocks hP hD hS d_Md_act_78
    · replace h := (if_neg c2).symm.trans h
      refine lv_aload_n hx hb d_Md_act_31 rfl (lv_at hl 1 rfl) ?_
      refine va_get (D := G.1) (ci := 6) (v := .ref a_t_marked) (C := "PlayStatesModel") (T := TMd) (N := 25) hx hb hts iw_6 hown hK hP 0 rfl rfl 5 (by decide) (hts _ gw_384) (fun _ h9 => h9) rfl d_Md_act_32 ?_
      refine lv_iload hx hb d_Md_act_35 (lv_at hl 0 rfl) ?_
      refine lv_aload_n hx hb d_Md_act_37 rfl (lv_at hl 1 rfl) ?_
      refine va_get (D := G.1) (ci := 6) (v := .ref a_t_marked) (C := "PlayStatesModel") (T := TMd) (N := 25) hx hb hts iw_6 hown hK hP 0 rfl rfl 5 (by decide) (hts _ gw_384) (fun _ h9 => h9) rfl d_Md_act_38 ?_
      refine lv_iload hx hb d_Md_act_41 (lv_at hl 0 rfl) ?_
      obtain ⟨i5, h⟩ := o_if h
      refine va_iald (n := 648) (f := x_t_marked) hx hb hK hP 2 0 rfl rfl i5 d_Md_act_43 ?_
      refine lv_iconst (v := (1 : Int32)) hx hb d_Md_act_44 (by decide) ?_
      refine lv_iload_n hx hb d_Md_act_45 rfl (lv_at hl 4 rfl) ?_
      refine lv_bipush (v := (10 : Int32)) hx hb d_Md_act_46 (by decide) ?_
      refine lv_isub hx hb d_Md_act_48 ?_
      refine lv_ishl hx hb d_Md_act_49 ?_
      refine lv_ior hx hb d_Md_act_50 ?_
      obtain ⟨i6, h⟩ := o_if h
      refine va_iast (n := 648) (f := x_t_marked) hx hb hK hP hD hS 2 0 rfl rfl i6 d_Md_act_51 (fun H locs hP hD hS => ?_)
      replace hP : va_P G.1 vwCl (ws_Md_act G a_t a_t_truth a_t_present a_t_helped a_t_counted a_t_told a_t_runs a_t_whose a_t_where a_t_what a_t_before a_t_behind a_t_isOn a_t_tryEntries a_t_tryMarks a_t_text a_t_entries a_t_marked x_t_thrown x_t_places x_t_persons x_t_many x_t_size x_t_at x_t_sought x_t_found x_t_entries (upd x_t_marked (((81 : Int32) * p0) + p1).toNatClampNeg ((x_t_marked (((81 : Int32) * p0) + p1).toNatClampNeg) ||| ((1 : Int32) <<< ((p2 - (10 : Int32)) &&& 31))))) H := hP
      replace hD : va_D A (ws_Md_act G a_t a_t_truth a_t_present a_t_helped a_t_counted a_t_told a_t_runs a_t_whose a_t_where a_t_what a_t_before a_t_behind a_t_isOn a_t_tryEntries a_t_tryMarks a_t_text a_t_entries a_t_marked x_t_thrown x_t_places x_t_persons x_t_many x_t_size x_t_at x_t_sought x_t_found x_t_entries (upd x_t_marked (((81 : Int32) * p0) + p1).toNatClampNeg ((x_t_marked (((81 : Int32) * p0) + p1).toNatClampNeg) ||| ((1 : Int32) <<< ((p2 - (10 : Int32)) &&& 31))))) := hD
      refine lv_goto (tgt := 78) hx hb d_Md_act_52 (by decide) ?_
      cases h
      exact q_vretW hx hb hr hlocks hP hD hS d_Md_act_78
  · replace h := (if_neg c1).symm.trans h
    refine lv_aload_n hx hb d_Md_act_14 rfl (lv_at hl 1 rfl) ?_
    refine va_get (D := G.1) (ci := 6) (v := .ref a_t_entries) (C := "PlayStatesModel") (T := TMd) (N := 25) hx hb hts iw_6 hown hK hP 0 rfl rfl 4 (by decide) (hts _ gw_383) (fun _ h9 => h9) rfl d_Md_act_15 ?_
    refine lv_iload hx hb d_Md_act_18 (lv_at hl 0 rfl) ?_
    refine lv_iload_n hx hb d_Md_act_20 rfl (lv_at hl 4 rfl) ?_
    obtain ⟨i7, h⟩ := o_if h
    refine va_iast (n := 648) (f := x_t_entries) hx hb hK hP hD hS 1 0 rfl rfl i7 d_Md_act_21 (fun H locs hP hD hS => ?_)
    replace hP : va_P G.1 vwCl (ws_Md_act G a_t a_t_truth a_t_present a_t_helped a_t_counted a_t_told a_t_runs a_t_whose a_t_where a_t_what a_t_before a_t_behind a_t_isOn a_t_tryEntries a_t_tryMarks a_t_text a_t_entries a_t_marked x_t_thrown x_t_places x_t_persons x_t_many x_t_size x_t_at x_t_sought x_t_found (upd x_t_entries (((81 : Int32) * p0) + p1).toNatClampNeg p2) x_t_marked) H := hP
    replace hD : va_D A (ws_Md_act G a_t a_t_truth a_t_present a_t_helped a_t_counted a_t_told a_t_runs a_t_whose a_t_where a_t_what a_t_before a_t_behind a_t_isOn a_t_tryEntries a_t_tryMarks a_t_text a_t_entries a_t_marked x_t_thrown x_t_places x_t_persons x_t_many x_t_size x_t_at x_t_sought x_t_found (upd x_t_entries (((81 : Int32) * p0) + p1).toNatClampNeg p2) x_t_marked) := hD
    refine lv_goto (tgt := 78) hx hb d_Md_act_22 (by decide) ?_
    cases h
    exact q_vretW hx hb hr hlocks hP hD hS d_Md_act_78

theorem gw_391 : (.fieldLink "PlayStatesModel" 36 "PlayStatesModel" "whose" "[I" : Cond) ∈ GW := gT 429 (by decide +kernel) (by decide +kernel)
theorem gw_390 : (.fieldLink "PlayStatesModel" 79 "PlayStatesModel" "many" "I" : Cond) ∈ GW := gT 428 (by decide +kernel) (by decide +kernel)
theorem gw_392 : (.fieldLink "PlayStatesModel" 39 "PlayStatesModel" "where" "[I" : Cond) ∈ GW := gT 430 (by decide +kernel) (by decide +kernel)
theorem gw_393 : (.fieldLink "PlayStatesModel" 42 "PlayStatesModel" "what" "[I" : Cond) ∈ GW := gT 431 (by decide +kernel) (by decide +kernel)
theorem gw_394 : (.fieldLink "PlayStatesModel" 45 "PlayStatesModel" "before" "[I" : Cond) ∈ GW := gT 432 (by decide +kernel) (by decide +kernel)
theorem gw_395 : (.fieldLink "PlayStatesModel" 48 "PlayStatesModel" "behind" "[I" : Cond) ∈ GW := gT 433 (by decide +kernel) (by decide +kernel)
theorem gw_452 : (.code ⟨"PlayStatesModel", "act", "(III)V"⟩ prog_8_method_7_code 5 none : Cond) ∈ GW := gT 521 (by decide +kernel) (by decide +kernel)
theorem gw_450 : (.methodLink "PlayStatesModel" 82 ⟨"PlayStatesModel", "act", "(III)V"⟩ : Cond) ∈ GW := gT 518 (by decide +kernel) (by decide +kernel)
theorem gw_451 : (.instanceMethod ⟨"PlayStatesModel", "act", "(III)V"⟩ : Cond) ∈ GW := gT 520 (by decide +kernel) (by decide +kernel)
theorem gw_20 : (.selects "PlayStatesModel" ⟨"PlayStatesModel", "act", "(III)V"⟩ ⟨"PlayStatesModel", "act", "(III)V"⟩ : Cond) ∈ GW := gP 20 (by decide +kernel) (by decide +kernel)
theorem d_Md_addRow_0 : decode prog_8_method_8_code 0 = .ok (.aload_n 0, 1) := by decide +kernel
theorem d_Md_addRow_1 : decode prog_8_method_8_code 1 = .ok (.getfield 36, 3) := by decide +kernel
theorem d_Md_addRow_4 : decode prog_8_method_8_code 4 = .ok (.aload_n 0, 1) := by decide +kernel
theorem d_Md_addRow_5 : decode prog_8_method_8_code 5 = .ok (.getfield 79, 3) := by decide +kernel
theorem d_Md_addRow_8 : decode prog_8_method_8_code 8 = .ok (.iload_n 1, 1) := by decide +kernel
theorem d_Md_addRow_9 : decode prog_8_method_8_code 9 = .ok (.iastore, 1) := by decide +kernel
theorem d_Md_addRow_10 : decode prog_8_method_8_code 10 = .ok (.aload_n 0, 1) := by decide +kernel
theorem d_Md_addRow_11 : decode prog_8_method_8_code 11 = .ok (.getfield 39, 3) := by decide +kernel
theorem d_Md_addRow_14 : decode prog_8_method_8_code 14 = .ok (.aload_n 0, 1) := by decide +kernel
theorem d_Md_addRow_15 : decode prog_8_method_8_code 15 = .ok (.getfield 79, 3) := by decide +kernel
theorem d_Md_addRow_18 : decode prog_8_method_8_code 18 = .ok (.iload_n 2, 1) := by decide +kernel
theorem d_Md_addRow_19 : decode prog_8_method_8_code 19 = .ok (.iastore, 1) := by decide +kernel
theorem d_Md_addRow_20 : decode prog_8_method_8_code 20 = .ok (.aload_n 0, 1) := by decide +kernel
theorem d_Md_addRow_21 : decode prog_8_method_8_code 21 = .ok (.getfield 42, 3) := by decide +kernel
theorem d_Md_addRow_24 : decode prog_8_method_8_code 24 = .ok (.aload_n 0, 1) := by decide +kernel
theorem d_Md_addRow_25 : decode prog_8_method_8_code 25 = .ok (.getfield 79, 3) := by decide +kernel
theorem d_Md_addRow_28 : decode prog_8_method_8_code 28 = .ok (.iload_n 3, 1) := by decide +kernel
theorem d_Md_addRow_29 : decode prog_8_method_8_code 29 = .ok (.iastore, 1) := by decide +kernel
theorem d_Md_addRow_30 : decode prog_8_method_8_code 30 = .ok (.aload_n 0, 1) := by decide +kernel
theorem d_Md_addRow_31 : decode prog_8_method_8_code 31 = .ok (.getfield 45, 3) := by decide +kernel
theorem d_Md_addRow_34 : decode prog_8_method_8_code 34 = .ok (.aload_n 0, 1) := by decide +kernel
theorem d_Md_addRow_35 : decode prog_8_method_8_code 35 = .ok (.getfield 79, 3) := by decide +kernel
theorem d_Md_addRow_38 : decode prog_8_method_8_code 38 = .ok (.aload_n 0, 1) := by decide +kernel
theorem d_Md_addRow_39 : decode prog_8_method_8_code 39 = .ok (.getfield 13, 3) := by decide +kernel
theorem d_Md_addRow_42 : decode prog_8_method_8_code 42 = .ok (.bipush 81, 2) := by decide +kernel
theorem d_Md_addRow_44 : decode prog_8_method_8_code 44 = .ok (.iload_n 1, 1) := by decide +kernel
theorem d_Md_addRow_45 : decode prog_8_method_8_code 45 = .ok (.imul, 1) := by decide +kernel
theorem d_Md_addRow_46 : decode prog_8_method_8_code 46 = .ok (.iload_n 2, 1) := by decide +kernel
theorem d_Md_addRow_47 : decode prog_8_method_8_code 47 = .ok (.iadd, 1) := by decide +kernel
theorem d_Md_addRow_48 : decode prog_8_method_8_code 48 = .ok (.iaload, 1) := by decide +kernel
theorem d_Md_addRow_49 : decode prog_8_method_8_code 49 = .ok (.iastore, 1) := by decide +kernel
theorem d_Md_addRow_50 : decode prog_8_method_8_code 50 = .ok (.aload_n 0, 1) := by decide +kernel
theorem d_Md_addRow_51 : decode prog_8_method_8_code 51 = .ok (.getfield 48, 3) := by decide +kernel
theorem d_Md_addRow_54 : decode prog_8_method_8_code 54 = .ok (.aload_n 0, 1) := by decide +kernel
theorem d_Md_addRow_55 : decode prog_8_method_8_code 55 = .ok (.getfield 79, 3) := by decide +kernel
theorem d_Md_addRow_58 : decode prog_8_method_8_code 58 = .ok (.aload_n 0, 1) := by decide +kernel
theorem d_Md_addRow_59 : decode prog_8_method_8_code 59 = .ok (.getfield 19, 3) := by decide +kernel
theorem d_Md_addRow_62 : decode prog_8_method_8_code 62 = .ok (.iload_n 1, 1) := by decide +kernel
theorem d_Md_addRow_63 : decode prog_8_method_8_code 63 = .ok (.iaload, 1) := by decide +kernel
theorem d_Md_addRow_64 : decode prog_8_method_8_code 64 = .ok (.iastore, 1) := by decide +kernel
theorem d_Md_addRow_65 : decode prog_8_method_8_code 65 = .ok (.aload_n 0, 1) := by decide +kernel
theorem d_Md_addRow_66 : decode prog_8_method_8_code 66 = .ok (.iload_n 1, 1) := by decide +kernel
theorem d_Md_addRow_67 : decode prog_8_method_8_code 67 = .ok (.iload_n 2, 1) := by decide +kernel
theorem d_Md_addRow_68 : decode prog_8_method_8_code 68 = .ok (.iload_n 3, 1) := by decide +kernel
theorem d_Md_addRow_69 : decode prog_8_method_8_code 69 = .ok (.invokevirtual 82, 3) := by decide +kernel
theorem d_Md_addRow_72 : decode prog_8_method_8_code 72 = .ok (.aload_n 0, 1) := by decide +kernel
theorem d_Md_addRow_73 : decode prog_8_method_8_code 73 = .ok (.getfield 19, 3) := by decide +kernel
theorem d_Md_addRow_76 : decode prog_8_method_8_code 76 = .ok (.iload_n 1, 1) := by decide +kernel
theorem d_Md_addRow_77 : decode prog_8_method_8_code 77 = .ok (.aload_n 0, 1) := by decide +kernel
theorem d_Md_addRow_78 : decode prog_8_method_8_code 78 = .ok (.getfield 79, 3) := by decide +kernel
theorem d_Md_addRow_81 : decode prog_8_method_8_code 81 = .ok (.iastore, 1) := by decide +kernel
theorem d_Md_addRow_82 : decode prog_8_method_8_code 82 = .ok (.aload_n 0, 1) := by decide +kernel
theorem d_Md_addRow_83 : decode prog_8_method_8_code 83 = .ok (.dup, 1) := by decide +kernel
theorem d_Md_addRow_84 : decode prog_8_method_8_code 84 = .ok (.getfield 79, 3) := by decide +kernel
theorem d_Md_addRow_87 : decode prog_8_method_8_code 87 = .ok (.iconst 1, 1) := by decide +kernel
theorem d_Md_addRow_88 : decode prog_8_method_8_code 88 = .ok (.iadd, 1) := by decide +kernel
theorem d_Md_addRow_89 : decode prog_8_method_8_code 89 = .ok (.putfield 79, 3) := by decide +kernel
theorem d_Md_addRow_92 : decode prog_8_method_8_code 92 = .ok (.aload_n 0, 1) := by decide +kernel
theorem d_Md_addRow_93 : decode prog_8_method_8_code 93 = .ok (.getfield 79, 3) := by decide +kernel
theorem d_Md_addRow_96 : decode prog_8_method_8_code 96 = .ok (.iconst 1, 1) := by decide +kernel
theorem d_Md_addRow_97 : decode prog_8_method_8_code 97 = .ok (.isub, 1) := by decide +kernel
theorem d_Md_addRow_98 : decode prog_8_method_8_code 98 = .ok (.ireturn, 1) := by decide +kernel
-- PlayStatesModel.addRow(III)I 
def ws_Md_addRow (G : gG) (a_t a_t_truth a_t_helped a_t_counted a_t_told a_t_runs a_t_isOn a_t_tryEntries a_t_tryMarks a_t_text a_t_entries a_t_marked a_t_present a_t_whose a_t_where a_t_what a_t_before a_t_behind : Nat)  (x_t_thrown : Int32) (x_t_places : Int32) (x_t_persons : Int32) (x_t_many : Int32) (x_t_size : Int32) (x_t_at : Int32) (x_t_sought : Int32) (x_t_found : Int32) (x_t_entries : Nat → Int32) (x_t_marked : Nat → Int32) (x_t_present : Nat → Int32) (x_t_whose : Nat → Int32) (x_t_where : Nat → Int32) (x_t_what : Nat → Int32) (x_t_before : Nat → Int32) (x_t_behind : Nat → Int32) : va_W := [(a_t, .inr (6, [.int x_t_thrown, .int x_t_places, .int x_t_persons, .ref a_t_truth, .ref a_t_entries, .ref a_t_marked, .ref a_t_present, .ref a_t_helped, .ref a_t_counted, .ref a_t_told, .ref a_t_runs, .int x_t_many, .ref a_t_whose, .ref a_t_where, .ref a_t_what, .ref a_t_before, .ref a_t_behind, .ref a_t_isOn, .ref a_t_tryEntries, .ref a_t_tryMarks, .int x_t_size, .ref a_t_text, .int x_t_at, .int x_t_sought, .int x_t_found])), (a_t_entries, .inl (G.2 0, 648, .inl x_t_entries)), (a_t_marked, .inl (G.2 0, 648, .inl x_t_marked)), (a_t_present, .inl (G.2 0, 8, .inl x_t_present)), (a_t_whose, .inl (G.2 0, 600, .inl x_t_whose)), (a_t_where, .inl (G.2 0, 600, .inl x_t_where)), (a_t_what, .inl (G.2 0, 600, .inl x_t_what)), (a_t_before, .inl (G.2 0, 600, .inl x_t_before)), (a_t_behind, .inl (G.2 0, 600, .inl x_t_behind))]
def f_Md_addRow  (p0 : Int32) (p1 : Int32) (p2 : Int32) (x_t_thrown : Int32) (x_t_places : Int32) (x_t_persons : Int32) (x_t_many : Int32) (x_t_size : Int32) (x_t_at : Int32) (x_t_sought : Int32) (x_t_found : Int32) (x_t_entries : Nat → Int32) (x_t_marked : Nat → Int32) (x_t_present : Nat → Int32) (x_t_whose : Nat → Int32) (x_t_where : Nat → Int32) (x_t_what : Nat → Int32) (x_t_before : Nat → Int32) (x_t_behind : Nat → Int32) : Option (Int32 × Int32 × (Nat → Int32) × (Nat → Int32) × (Nat → Int32) × (Nat → Int32) × (Nat → Int32) × (Nat → Int32) × (Nat → Int32) × (Nat → Int32)) :=
  (if inB x_t_many 600 then (if inB x_t_many 600 then (if inB x_t_many 600 then (if inB (((81 : Int32) * p0) + p1) 648 then (if inB x_t_many 600 then (if inB p0 8 then (if inB x_t_many 600 then ((f_Md_act p0 p1 p2 x_t_thrown x_t_places x_t_persons x_t_many x_t_size x_t_at x_t_sought x_t_found x_t_entries x_t_marked).bind fun y8 => (if inB p0 8 then some (((x_t_many + (1 : Int32)) - (1 : Int32)), (x_t_many + (1 : Int32)), y8.1, y8.2, (upd x_t_present p0.toNatClampNeg x_t_many), (upd x_t_whose x_t_many.toNatClampNeg p0), (upd x_t_where x_t_many.toNatClampNeg p1), (upd x_t_what x_t_many.toNatClampNeg p2), (upd x_t_before x_t_many.toNatClampNeg (x_t_entries (((81 : Int32) * p0) + p1).toNatClampNeg)), (upd x_t_behind x_t_many.toNatClampNeg (x_t_present p0.toNatClampNeg))) else none)) else none) else none) else none) else none) else none) else none) else none)
set_option maxHeartbeats 4000000 in
set_option maxRecDepth 100000 in
theorem c_Md_addRow (l : Launch) (G : gG) (sz : Nat) (a_t a_t_truth a_t_helped a_t_counted a_t_told a_t_runs a_t_isOn a_t_tryEntries a_t_tryMarks a_t_text a_t_entries a_t_marked a_t_present a_t_whose a_t_where a_t_what a_t_before a_t_behind : Nat)  (p0 : Int32) (p1 : Int32) (p2 : Int32) (x_t_thrown : Int32) (x_t_places : Int32) (x_t_persons : Int32) (x_t_many : Int32) (x_t_size : Int32) (x_t_at : Int32) (x_t_sought : Int32) (x_t_found : Int32) (x_t_entries : Nat → Int32) (x_t_marked : Nat → Int32) (x_t_present : Nat → Int32) (x_t_whose : Nat → Int32) (x_t_where : Nat → Int32) (x_t_what : Nat → Int32) (x_t_before : Nat → Int32) (x_t_behind : Nat → Int32) (r : Int32) (x_t_many' : Int32) (x_t_entries' : Nat → Int32) (x_t_marked' : Nat → Int32) (x_t_present' : Nat → Int32) (x_t_whose' : Nat → Int32) (x_t_where' : Nat → Int32) (x_t_what' : Nat → Int32) (x_t_before' : Nat → Int32) (x_t_behind' : Nat → Int32) (h : f_Md_addRow p0 p1 p2 x_t_thrown x_t_places x_t_persons x_t_many x_t_size x_t_at x_t_sought x_t_found x_t_entries x_t_marked x_t_present x_t_whose x_t_where x_t_what x_t_before x_t_behind = some (r, x_t_many', x_t_entries', x_t_marked', x_t_present', x_t_whose', x_t_where', x_t_what', x_t_before', x_t_behind'))  : cN l y_Md_addRow w_Md_addRow { frames := 1, cells := 0, slots := 0, locals := 24 } G sz [.ref a_t, .int p0, .int p1, .int p2] (ws_Md_addRow G a_t a_t_truth a_t_helped a_t_counted a_t_told a_t_runs a_t_isOn a_t_tryEntries a_t_tryMarks a_t_text a_t_entries a_t_marked a_t_present a_t_whose a_t_where a_t_what a_t_before a_t_behind x_t_thrown x_t_places x_t_persons x_t_many x_t_size x_t_at x_t_sought x_t_found x_t_entries x_t_marked x_t_present x_t_whose x_t_where x_t_what x_t_before x_t_behind) (some (.int r)) (wB G (ws_Md_addRow G a_t a_t_truth a_t_helped a_t_counted a_t_told a_t_runs a_t_isOn a_t_tryEntries a_t_tryMarks a_t_text a_t_entries a_t_marked a_t_present a_t_whose a_t_where a_t_what a_t_before a_t_behind x_t_thrown x_t_places x_t_persons x_t_many' x_t_size x_t_at x_t_sought x_t_found x_t_entries' x_t_marked' x_t_present' x_t_whose' x_t_where' x_t_what' x_t_before' x_t_behind')) 0 0 := by
  refine cN_ofW (cc := prog_8_method_8_code) (maxL := 4) (ret := (some .int)) (by decide) rfl (Nat.le_of_ble_eq_true rfl) ?_
  intro p e s m args below meth c A H locs ls hx hb hr hts hown hlocks hin hml hK hN hP hD hA hS hl
  replace hl : lv_has ls 4 [(0, .ref a_t), (1, .int p0), (2, .int p1), (3, .int p2)] := hl
  replace hown : s.vm.findClass "PlayStatesModel" = some m.cls := hown
  unfold f_Md_addRow at h
  refine lv_aload_n hx hb d_Md_addRow_0 rfl (lv_at hl 0 rfl) ?_
  refine va_get (D := G.1) (ci := 6) (v := .ref a_t_whose) (C := "PlayStatesModel") (T := TMd) (N := 25) hx hb hts iw_6 hown hK hP 0 rfl rfl 12 (by decide) (hts _ gw_391) (fun _ h9 => h9) rfl d_Md_addRow_1 ?_
  refine lv_aload_n hx hb d_Md_addRow_4 rfl (lv_at hl 0 rfl) ?_
  refine va_get (D := G.1) (ci := 6) (v := .int x_t_many) (C := "PlayStatesModel") (T := TMd) (N := 25) hx hb hts iw_6 hown hK hP 0 rfl rfl 11 (by decide) (hts _ gw_390) (fun _ h9 => h9) rfl d_Md_addRow_5 ?_
  refine lv_iload_n hx hb d_Md_addRow_8 rfl (lv_at hl 1 rfl) ?_
  obtain ⟨i1, h⟩ := o_if h
  refine va_iast (n := 600) (f := x_t_whose) hx hb hK hP hD hS 4 0 rfl rfl i1 d_Md_addRow_9 (fun H locs hP hD hS => ?_)
  replace hP : va_P G.1 vwCl (ws_Md_addRow G a_t a_t_truth a_t_helped a_t_counted a_t_told a_t_runs a_t_isOn a_t_tryEntries a_t_tryMarks a_t_text a_t_entries a_t_marked a_t_present a_t_whose a_t_where a_t_what a_t_before a_t_behind x_t_thrown x_t_places x_t_persons x_t_many x_t_size x_t_at x_t_sought x_t_found x_t_entries x_t_marked x_t_present (upd x_t_whose x_t_many.toNatClampNeg p0) x_t_where x_t_what x_t_before x_t_behind) H := hP
  replace hD : va_D A (ws_Md_addRow G a_t a_t_truth a_t_helped a_t_counted a_t_told a_t_runs a_t_isOn a_t_tryEntries a_t_tryMarks a_t_text a_t_entries a_t_marked a_t_present a_t_whose a_t_where a_t_what a_t_before a_t_behind x_t_thrown x_t_places x_t_persons x_t_many x_t_size x_t_at x_t_sought x_t_found x_t_entries x_t_marked x_t_present (upd x_t_whose x_t_many.toNatClampNeg p0) x_t_where x_t_what x_t_before x_t_behind) := hD
  refine lv_aload_n hx hb d_Md_addRow_10 rfl (lv_at hl 0 rfl) ?_
  refine va_get (D := G.1) (ci := 6) (v := .ref a_t_where) (C := "PlayStatesModel") (T := TMd) (N := 25) hx hb hts iw_6 hown hK hP 0 rfl rfl 13 (by decide) (hts _ gw_392) (fun _ h9 => h9) rfl d_Md_addRow_11 ?_
  refine lv_aload_n hx hb d_Md_addRow_14 rfl (lv_at hl 0 rfl) ?_
  refine va_get (D := G.1) (ci := 6) (v := .int x_t_many) (C := "PlayStatesModel") (T := TMd) (N := 25) hx hb hts iw_6 hown hK hP 0 rfl rfl 11 (by decide) (hts _ gw_390) (fun _ h9 => h9) rfl d_Md_addRow_15 ?_
  refine lv_iload_n hx hb d_Md_addRow_18 rfl (lv_at hl 2 rfl) ?_
  obtain ⟨i2, h⟩ := o_if h
  refine va_iast (n := 600) (f := x_t_where) hx hb hK hP hD hS 5 0 rfl rfl i2 d_Md_addRow_19 (fun H locs hP hD hS => ?_)
  replace hP : va_P G.1 vwCl (ws_Md_addRow G a_t a_t_truth a_t_helped a_t_counted a_t_told a_t_runs a_t_isOn a_t_tryEntries a_t_tryMarks a_t_text a_t_entries a_t_marked a_t_present a_t_whose a_t_where a_t_what a_t_before a_t_behind x_t_thrown x_t_places x_t_persons x_t_many x_t_size x_t_at x_t_sought x_t_found x_t_entries x_t_marked x_t_present (upd x_t_whose x_t_many.toNatClampNeg p0) (upd x_t_where x_t_many.toNatClampNeg p1) x_t_what x_t_before x_t_behind) H := hP
  replace hD : va_D A (ws_Md_addRow G a_t a_t_truth a_t_helped a_t_counted a_t_told a_t_runs a_t_isOn a_t_tryEntries a_t_tryMarks a_t_text a_t_entries a_t_marked a_t_present a_t_whose a_t_where a_t_what a_t_before a_t_behind x_t_thrown x_t_places x_t_persons x_t_many x_t_size x_t_at x_t_sought x_t_found x_t_entries x_t_marked x_t_present (upd x_t_whose x_t_many.toNatClampNeg p0) (upd x_t_where x_t_many.toNatClampNeg p1) x_t_what x_t_before x_t_behind) := hD
  refine lv_aload_n hx hb d_Md_addRow_20 rfl (lv_at hl 0 rfl) ?_
  refine va_get (D := G.1) (ci := 6) (v := .ref a_t_what) (C := "PlayStatesModel") (T := TMd) (N := 25) hx hb hts iw_6 hown hK hP 0 rfl rfl 14 (by decide) (hts _ gw_393) (fun _ h9 => h9) rfl d_Md_addRow_21 ?_
  refine lv_aload_n hx hb d_Md_addRow_24 rfl (lv_at hl 0 rfl) ?_
  refine va_get (D := G.1) (ci := 6) (v := .int x_t_many) (C := "PlayStatesModel") (T := TMd) (N := 25) hx hb hts iw_6 hown hK hP 0 rfl rfl 11 (by decide) (hts _ gw_390) (fun _ h9 => h9) rfl d_Md_addRow_25 ?_
  refine lv_iload_n hx hb d_Md_addRow_28 rfl (lv_at hl 3 rfl) ?_
  obtain ⟨i3, h⟩ := o_if h
  refine va_iast (n := 600) (f := x_t_what) hx hb hK hP hD hS 6 0 rfl rfl i3 d_Md_addRow_29 (fun H locs hP hD hS => ?_)
  replace hP : va_P G.1 vwCl (ws_Md_addRow G a_t a_t_truth a_t_helped a_t_counted a_t_told a_t_runs a_t_isOn a_t_tryEntries a_t_tryMarks a_t_text a_t_entries a_t_marked a_t_present a_t_whose a_t_where a_t_what a_t_before a_t_behind x_t_thrown x_t_places x_t_persons x_t_many x_t_size x_t_at x_t_sought x_t_found x_t_entries x_t_marked x_t_present (upd x_t_whose x_t_many.toNatClampNeg p0) (upd x_t_where x_t_many.toNatClampNeg p1) (upd x_t_what x_t_many.toNatClampNeg p2) x_t_before x_t_behind) H := hP
  replace hD : va_D A (ws_Md_addRow G a_t a_t_truth a_t_helped a_t_counted a_t_told a_t_runs a_t_isOn a_t_tryEntries a_t_tryMarks a_t_text a_t_entries a_t_marked a_t_present a_t_whose a_t_where a_t_what a_t_before a_t_behind x_t_thrown x_t_places x_t_persons x_t_many x_t_size x_t_at x_t_sought x_t_found x_t_entries x_t_marked x_t_present (upd x_t_whose x_t_many.toNatClampNeg p0) (upd x_t_where x_t_many.toNatClampNeg p1) (upd x_t_what x_t_many.toNatClampNeg p2) x_t_before x_t_behind) := hD
  refine lv_aload_n hx hb d_Md_addRow_30 rfl (lv_at hl 0 rfl) ?_
  refine va_get (D := G.1) (ci := 6) (v := .ref a_t_before) (C := "PlayStatesModel") (T := TMd) (N := 25) hx hb hts iw_6 hown hK hP 0 rfl rfl 15 (by decide) (hts _ gw_394) (fun _ h9 => h9) rfl d_Md_addRow_31 ?_
  refine lv_aload_n hx hb d_Md_addRow_34 rfl (lv_at hl 0 rfl) ?_
  refine va_get (D := G.1) (ci := 6) (v := .int x_t_many) (C := "PlayStatesModel") (T := TMd) (N := 25) hx hb hts iw_6 hown hK hP 0 rfl rfl 11 (by decide) (hts _ gw_390) (fun _ h9 => h9) rfl d_Md_addRow_35 ?_
  refine lv_aload_n hx hb d_Md_addRow_38 rfl (lv_at hl 0 rfl) ?_
  refine va_get (D := G.1) (ci := 6) (v := .ref a_t_entries) (C := "PlayStatesModel") (T := TMd) (N := 25) hx hb hts iw_6 hown hK hP 0 rfl rfl 4 (by decide) (hts _ gw_383) (fun _ h9 => h9) rfl d_Md_addRow_39 ?_
  refine lv_bipush (v := (81 : Int32)) hx hb d_Md_addRow_42 (by decide) ?_
  refine lv_iload_n hx hb d_Md_addRow_44 rfl (lv_at hl 1 rfl) ?_
  refine lv_imul hx hb d_Md_addRow_45 ?_
  refine lv_iload_n hx hb d_Md_addRow_46 rfl (lv_at hl 2 rfl) ?_
  refine lv_iadd hx hb d_Md_addRow_47 ?_
  obtain ⟨i4, h⟩ := o_if h
  refine va_iald (n := 648) (f := x_t_entries) hx hb hK hP 1 0 rfl rfl i4 d_Md_addRow_48 ?_
  obtain ⟨i5, h⟩ := o_if h
  refine va_iast (n := 600) (f := x_t_before) hx hb hK hP hD hS 7 0 rfl rfl i5 d_Md_addRow_49 (fun H locs hP hD hS => ?_)
  replace hP : va_P G.1 vwCl (ws_Md_addRow G a_t a_t_truth a_t_helped a_t_counted a_t_told a_t_runs a_t_isOn a_t_tryEntries a_t_tryMarks a_t_text a_t_entries a_t_marked a_t_present a_t_whose a_t_where a_t_what a_t_before a_t_behind x_t_thrown x_t_places x_t_persons x_t_many x_t_size x_t_at x_t_sought x_t_found x_t_entries x_t_marked x_t_present (upd x_t_whose x_t_many.toNatClampNeg p0) (upd x_t_where x_t_many.toNatClampNeg p1) (upd x_t_what x_t_many.toNatClampNeg p2) (upd x_t_before x_t_many.toNatClampNeg (x_t_entries (((81 : Int32) * p0) + p1).toNatClampNeg)) x_t_behind) H := hP
  replace hD : va_D A (ws_Md_addRow G a_t a_t_truth a_t_helped a_t_counted a_t_told a_t_runs a_t_isOn a_t_tryEntries a_t_tryMarks a_t_text a_t_entries a_t_marked a_t_present a_t_whose a_t_where a_t_what a_t_before a_t_behind x_t_thrown x_t_places x_t_persons x_t_many x_t_size x_t_at x_t_sought x_t_found x_t_entries x_t_marked x_t_present (upd x_t_whose x_t_many.toNatClampNeg p0) (upd x_t_where x_t_many.toNatClampNeg p1) (upd x_t_what x_t_many.toNatClampNeg p2) (upd x_t_before x_t_many.toNatClampNeg (x_t_entries (((81 : Int32) * p0) + p1).toNatClampNeg)) x_t_behind) := hD
  refine lv_aload_n hx hb d_Md_addRow_50 rfl (lv_at hl 0 rfl) ?_
  refine va_get (D := G.1) (ci := 6) (v := .ref a_t_behind) (C := "PlayStatesModel") (T := TMd) (N := 25) hx hb hts iw_6 hown hK hP 0 rfl rfl 16 (by decide) (hts _ gw_395) (fun _ h9 => h9) rfl d_Md_addRow_51 ?_
  refine lv_aload_n hx hb d_Md_addRow_54 rfl (lv_at hl 0 rfl) ?_
  refine va_get (D := G.1) (ci := 6) (v := .int x_t_many) (C := "PlayStatesModel") (T := TMd) (N := 25) hx hb hts iw_6 hown hK hP 0 rfl rfl 11 (by decide) (hts _ gw_390) (fun _ h9 => h9) rfl d_Md_addRow_55 ?_
  refine lv_aload_n hx hb d_Md_addRow_58 rfl (lv_at hl 0 rfl) ?_
  refine va_get (D := G.1) (ci := 6) (v := .ref a_t_present) (C := "PlayStatesModel") (T := TMd) (N := 25) hx hb hts iw_6 hown hK hP 0 rfl rfl 6 (by decide) (hts _ gw_385) (fun _ h9 => h9) rfl d_Md_addRow_59 ?_
  refine lv_iload_n hx hb d_Md_addRow_62 rfl (lv_at hl 1 rfl) ?_
  obtain ⟨i6, h⟩ := o_if h
  refine va_iald (n := 8) (f := x_t_present) hx hb hK hP 3 0 rfl rfl i6 d_Md_addRow_63 ?_
  obtain ⟨i7, h⟩ := o_if h
  refine va_iast (n := 600) (f := x_t_behind) hx hb hK hP hD hS 8 0 rfl rfl i7 d_Md_addRow_64 (fun H locs hP hD hS => ?_)
  replace hP : va_P G.1 vwCl (ws_Md_addRow G a_t a_t_truth a_t_helped a_t_counted a_t_told a_t_runs a_t_isOn a_t_tryEntries a_t_tryMarks a_t_text a_t_entries a_t_marked a_t_present a_t_whose a_t_where a_t_what a_t_before a_t_behind x_t_thrown x_t_places x_t_persons x_t_many x_t_size x_t_at x_t_sought x_t_found x_t_entries x_t_marked x_t_present (upd x_t_whose x_t_many.toNatClampNeg p0) (upd x_t_where x_t_many.toNatClampNeg p1) (upd x_t_what x_t_many.toNatClampNeg p2) (upd x_t_before x_t_many.toNatClampNeg (x_t_entries (((81 : Int32) * p0) + p1).toNatClampNeg)) (upd x_t_behind x_t_many.toNatClampNeg (x_t_present p0.toNatClampNeg))) H := hP
  replace hD : va_D A (ws_Md_addRow G a_t a_t_truth a_t_helped a_t_counted a_t_told a_t_runs a_t_isOn a_t_tryEntries a_t_tryMarks a_t_text a_t_entries a_t_marked a_t_present a_t_whose a_t_where a_t_what a_t_before a_t_behind x_t_thrown x_t_places x_t_persons x_t_many x_t_size x_t_at x_t_sought x_t_found x_t_entries x_t_marked x_t_present (upd x_t_whose x_t_many.toNatClampNeg p0) (upd x_t_where x_t_many.toNatClampNeg p1) (upd x_t_what x_t_many.toNatClampNeg p2) (upd x_t_before x_t_many.toNatClampNeg (x_t_entries (((81 : Int32) * p0) + p1).toNatClampNeg)) (upd x_t_behind x_t_many.toNatClampNeg (x_t_present p0.toNatClampNeg))) := hD
  refine lv_aload_n hx hb d_Md_addRow_65 rfl (lv_at hl 0 rfl) ?_
  refine lv_iload_n hx hb d_Md_addRow_66 rfl (lv_at hl 1 rfl) ?_
  refine lv_iload_n hx hb d_Md_addRow_67 rfl (lv_at hl 2 rfl) ?_
  refine lv_iload_n hx hb d_Md_addRow_68 rfl (lv_at hl 3 rfl) ?_
  obtain ⟨y8, hy8, h⟩ := o_bind h
  have hPc := hP.sub (ws' := (ws_Md_act G a_t a_t_truth a_t_present a_t_helped a_t_counted a_t_told a_t_runs a_t_whose a_t_where a_t_what a_t_before a_t_behind a_t_isOn a_t_tryEntries a_t_tryMarks a_t_text a_t_entries a_t_marked x_t_thrown x_t_places x_t_persons x_t_many x_t_size x_t_at x_t_sought x_t_found x_t_entries x_t_marked)) [0, 1, 2] rfl
  have hDc := hD.sub (ws' := (ws_Md_act G a_t a_t_truth a_t_present a_t_helped a_t_counted a_t_told a_t_runs a_t_whose a_t_where a_t_what a_t_before a_t_behind a_t_isOn a_t_tryEntries a_t_tryMarks a_t_text a_t_entries a_t_marked x_t_thrown x_t_places x_t_persons x_t_many x_t_size x_t_at x_t_sought x_t_found x_t_entries x_t_marked)) [0, 1, 2] (by decide) rfl
  have hFc := va_free (wc := (ws_Md_act G a_t a_t_truth a_t_present a_t_helped a_t_counted a_t_told a_t_runs a_t_whose a_t_where a_t_what a_t_before a_t_behind a_t_isOn a_t_tryEntries a_t_tryMarks a_t_text a_t_entries a_t_marked x_t_thrown x_t_places x_t_persons x_t_many x_t_size x_t_at x_t_sought x_t_found x_t_entries x_t_marked)) hD hS hA [0, 1, 2] rfl
  refine q_call0 (va_runV (As := [.int p0, .int p1, .int p2]) (rest := []) ⟨hx, hb, hml, hown, hts⟩ (c_Md_act l G H.size a_t a_t_truth a_t_present a_t_helped a_t_counted a_t_told a_t_runs a_t_whose a_t_where a_t_what a_t_before a_t_behind a_t_isOn a_t_tryEntries a_t_tryMarks a_t_text a_t_entries a_t_marked p0 p1 p2 x_t_thrown x_t_places x_t_persons x_t_many x_t_size x_t_at x_t_sought x_t_found x_t_entries x_t_marked _ _ hy8) (cwV 3 hts (gV gw_450 gw_451 gw_20 gw_36 gw_452) rfl rfl rfl (by decide +kernel) ⟨Nat.le_of_ble_eq_true rfl, Nat.le_of_ble_eq_true rfl⟩) (pV hK hN hPc hDc (ci := 6) (q0 := 0) rfl rfl) rfl rfl hl.1 rfl (lv_room (Nat.le_of_ble_eq_true rfl)) d_Md_addRow_69 ⟨Nat.le_of_ble_eq_true rfl, Nat.le_of_ble_eq_true rfl⟩) hS (fun q _ h => hFc q h) hFc (fun H1 locs hB hz hk hS => ?_)
  obtain ⟨hP, hD⟩ := q_join (wr := [(a_t_present, .inl (G.2 0, 8, .inl x_t_present)), (a_t_whose, .inl (G.2 0, 600, .inl (upd x_t_whose x_t_many.toNatClampNeg p0))), (a_t_where, .inl (G.2 0, 600, .inl (upd x_t_where x_t_many.toNatClampNeg p1))), (a_t_what, .inl (G.2 0, 600, .inl (upd x_t_what x_t_many.toNatClampNeg p2))), (a_t_before, .inl (G.2 0, 600, .inl (upd x_t_before x_t_many.toNatClampNeg (x_t_entries (((81 : Int32) * p0) + p1).toNatClampNeg)))), (a_t_behind, .inl (G.2 0, 600, .inl (upd x_t_behind x_t_many.toNatClampNeg (x_t_present p0.toNatClampNeg))))]) (wn := (ws_Md_addRow G a_t a_t_truth a_t_helped a_t_counted a_t_told a_t_runs a_t_isOn a_t_tryEntries a_t_tryMarks a_t_text a_t_entries a_t_marked a_t_present a_t_whose a_t_where a_t_what a_t_before a_t_behind x_t_thrown x_t_places x_t_persons x_t_many x_t_size x_t_at x_t_sought x_t_found y8.1 y8.2 x_t_present (upd x_t_whose x_t_many.toNatClampNeg p0) (upd x_t_where x_t_many.toNatClampNeg p1) (upd x_t_what x_t_many.toNatClampNeg p2) (upd x_t_before x_t_many.toNatClampNeg (x_t_entries (((81 : Int32) * p0) + p1).toNatClampNeg)) (upd x_t_behind x_t_many.toNatClampNeg (x_t_present p0.toNatClampNeg)))) hP hD [0, 1, 2] [3, 4, 5, 6, 7, 8] [6, 7, 8, 0, 1, 2, 3, 4, 5] rfl rfl (by decide) (by decide) rfl (by decide) hk hFc hB.1 hB.2
  generalize H1 = H at hP hS ⊢
  replace hP : va_P G.1 vwCl (ws_Md_addRow G a_t a_t_truth a_t_helped a_t_counted a_t_told a_t_runs a_t_isOn a_t_tryEntries a_t_tryMarks a_t_text a_t_entries a_t_marked a_t_present a_t_whose a_t_where a_t_what a_t_before a_t_behind x_t_thrown x_t_places x_t_persons x_t_many x_t_size x_t_at x_t_sought x_t_found y8.1 y8.2 x_t_present (upd x_t_whose x_t_many.toNatClampNeg p0) (upd x_t_where x_t_many.toNatClampNeg p1) (upd x_t_what x_t_many.toNatClampNeg p2) (upd x_t_before x_t_many.toNatClampNeg (x_t_entries (((81 : Int32) * p0) + p1).toNatClampNeg)) (upd x_t_behind x_t_many.toNatClampNeg (x_t_present p0.toNatClampNeg))) H := hP
  replace hD : va_D A (ws_Md_addRow G a_t a_t_truth a_t_helped a_t_counted a_t_told a_t_runs a_t_isOn a_t_tryEntries a_t_tryMarks a_t_text a_t_entries a_t_marked a_t_present a_t_whose a_t_where a_t_what a_t_before a_t_behind x_t_thrown x_t_places x_t_persons x_t_many x_t_size x_t_at x_t_sought x_t_found y8.1 y8.2 x_t_present (upd x_t_whose x_t_many.toNatClampNeg p0) (upd x_t_where x_t_many.toNatClampNeg p1) (upd x_t_what x_t_many.toNatClampNeg p2) (upd x_t_before x_t_many.toNatClampNeg (x_t_entries (((81 : Int32) * p0) + p1).toNatClampNeg)) (upd x_t_behind x_t_many.toNatClampNeg (x_t_present p0.toNatClampNeg))) := hD
  refine lv_aload_n hx hb d_Md_addRow_72 rfl (lv_at hl 0 rfl) ?_
  refine va_get (D := G.1) (ci := 6) (v := .ref a_t_present) (C := "PlayStatesModel") (T := TMd) (N := 25) hx hb hts iw_6 hown hK hP 0 rfl rfl 6 (by decide) (hts _ gw_385) (fun _ h9 => h9) rfl d_Md_addRow_73 ?_
  refine lv_iload_n hx hb d_Md_addRow_76 rfl (lv_at hl 1 rfl) ?_
  refine lv_aload_n hx hb d_Md_addRow_77 rfl (lv_at hl 0 rfl) ?_
  refine va_get (D := G.1) (ci := 6) (v := .int x_t_many) (C := "PlayStatesModel") (T := TMd) (N := 25) hx hb hts iw_6 hown hK hP 0 rfl rfl 11 (by decide) (hts _ gw_390) (fun _ h9 => h9) rfl d_Md_addRow_78 ?_
  obtain ⟨i9, h⟩ := o_if h
  refine va_iast (n := 8) (f := x_t_present) hx hb hK hP hD hS 3 0 rfl rfl i9 d_Md_addRow_81 (fun H locs hP hD hS => ?_)
  replace hP : va_P G.1 vwCl (ws_Md_addRow G a_t a_t_truth a_t_helped a_t_counted a_t_told a_t_runs a_t_isOn a_t_tryEntries a_t_tryMarks a_t_text a_t_entries a_t_marked a_t_present a_t_whose a_t_where a_t_what a_t_before a_t_behind x_t_thrown x_t_places x_t_persons x_t_many x_t_size x_t_at x_t_sought x_t_found y8.1 y8.2 (upd x_t_present p0.toNatClampNeg x_t_many) (upd x_t_whose x_t_many.toNatClampNeg p0) (upd x_t_where x_t_many.toNatClampNeg p1) (upd x_t_what x_t_many.toNatClampNeg p2) (upd x_t_before x_t_many.toNatClampNeg (x_t_entries (((81 : Int32) * p0) + p1).toNatClampNeg)) (upd x_t_behind x_t_many.toNatClampNeg (x_t_present p0.toNatClampNeg))) H := hP
  replace hD : va_D A (ws_Md_addRow G a_t a_t_truth a_t_helped a_t_counted a_t_told a_t_runs a_t_isOn a_t_tryEntries a_t_tryMarks a_t_text a_t_entries a_t_marked a_t_present a_t_whose a_t_where a_t_what a_t_before a_t_behind x_t_thrown x_t_places x_t_persons x_t_many x_t_size x_t_at x_t_sought x_t_found y8.1 y8.2 (upd x_t_present p0.toNatClampNeg x_t_many) (upd x_t_whose x_t_many.toNatClampNeg p0) (upd x_t_where x_t_many.toNatClampNeg p1) (upd x_t_what x_t_many.toNatClampNeg p2) (upd x_t_before x_t_many.toNatClampNeg (x_t_entries (((81 : Int32) * p0) + p1).toNatClampNeg)) (upd x_t_behind x_t_many.toNatClampNeg (x_t_present p0.toNatClampNeg))) := hD
  refine lv_aload_n hx hb d_Md_addRow_82 rfl (lv_at hl 0 rfl) ?_
  refine lv_dup hx hb d_Md_addRow_83 rfl ?_
  refine va_get (D := G.1) (ci := 6) (v := .int x_t_many) (C := "PlayStatesModel") (T := TMd) (N := 25) hx hb hts iw_6 hown hK hP 0 rfl rfl 11 (by decide) (hts _ gw_390) (fun _ h9 => h9) rfl d_Md_addRow_84 ?_
  refine lv_iconst (v := (1 : Int32)) hx hb d_Md_addRow_87 (by decide) ?_
  refine lv_iadd hx hb d_Md_addRow_88 ?_
  refine va_put (D := G.1) (ci := 6) (v := .int (x_t_many + (1 : Int32))) (ty := .int) (C := "PlayStatesModel") (T := TMd) (N := 25) hx hb hts iw_6 tyMd tyMd_ok nmMd hown hK hP hD hS 0 rfl rfl 11 (by decide) (hts _ gw_390) (fun _ h9 => h9) rfl (by decide +kernel) (by rfl) (by rfl) (Nat.le_of_ble_eq_true rfl) d_Md_addRow_89 (fun H locs hP hD hS => ?_)
  replace hP : va_P G.1 vwCl (ws_Md_addRow G a_t a_t_truth a_t_helped a_t_counted a_t_told a_t_runs a_t_isOn a_t_tryEntries a_t_tryMarks a_t_text a_t_entries a_t_marked a_t_present a_t_whose a_t_where a_t_what a_t_before a_t_behind x_t_thrown x_t_places x_t_persons (x_t_many + (1 : Int32)) x_t_size x_t_at x_t_sought x_t_found y8.1 y8.2 (upd x_t_present p0.toNatClampNeg x_t_many) (upd x_t_whose x_t_many.toNatClampNeg p0) (upd x_t_where x_t_many.toNatClampNeg p1) (upd x_t_what x_t_many.toNatClampNeg p2) (upd x_t_before x_t_many.toNatClampNeg (x_t_entries (((81 : Int32) * p0) + p1).toNatClampNeg)) (upd x_t_behind x_t_many.toNatClampNeg (x_t_present p0.toNatClampNeg))) H := hP
  replace hD : va_D A (ws_Md_addRow G a_t a_t_truth a_t_helped a_t_counted a_t_told a_t_runs a_t_isOn a_t_tryEntries a_t_tryMarks a_t_text a_t_entries a_t_marked a_t_present a_t_whose a_t_where a_t_what a_t_before a_t_behind x_t_thrown x_t_places x_t_persons (x_t_many + (1 : Int32)) x_t_size x_t_at x_t_sought x_t_found y8.1 y8.2 (upd x_t_present p0.toNatClampNeg x_t_many) (upd x_t_whose x_t_many.toNatClampNeg p0) (upd x_t_where x_t_many.toNatClampNeg p1) (upd x_t_what x_t_many.toNatClampNeg p2) (upd x_t_before x_t_many.toNatClampNeg (x_t_entries (((81 : Int32) * p0) + p1).toNatClampNeg)) (upd x_t_behind x_t_many.toNatClampNeg (x_t_present p0.toNatClampNeg))) := hD
  refine lv_aload_n hx hb d_Md_addRow_92 rfl (lv_at hl 0 rfl) ?_
  refine va_get (D := G.1) (ci := 6) (v := .int (x_t_many + (1 : Int32))) (C := "PlayStatesModel") (T := TMd) (N := 25) hx hb hts iw_6 hown hK hP 0 rfl rfl 11 (by decide) (hts _ gw_390) (fun _ h9 => h9) rfl d_Md_addRow_93 ?_
  refine lv_iconst (v := (1 : Int32)) hx hb d_Md_addRow_96 (by decide) ?_
  refine lv_isub hx hb d_Md_addRow_97 ?_
  cases h
  exact q_iretW hx hb hr hlocks hP hD hS d_Md_addRow_98

theorem gw_443 : (.code ⟨"PlayStatesModel", "isPerson", "(I)Z"⟩ prog_8_method_3_code 2 (some .boolean) : Cond) ∈ GW := gT 509 (by decide +kernel) (by decide +kernel)
theorem gw_441 : (.methodLink "PlayStatesModel" 86 ⟨"PlayStatesModel", "isPerson", "(I)Z"⟩ : Cond) ∈ GW := gT 506 (by decide +kernel) (by decide +kernel)
theorem gw_442 : (.instanceMethod ⟨"PlayStatesModel", "isPerson", "(I)Z"⟩ : Cond) ∈ GW := gT 508 (by decide +kernel) (by decide +kernel)
theorem gw_17 : (.selects "PlayStatesModel" ⟨"PlayStatesModel", "isPerson", "(I)Z"⟩ ⟨"PlayStatesModel", "isPerson", "(I)Z"⟩ : Cond) ∈ GW := gP 17 (by decide +kernel) (by decide +kernel)
theorem gw_446 : (.code ⟨"PlayStatesModel", "isPlace", "(I)Z"⟩ prog_8_method_4_code 2 (some .boolean) : Cond) ∈ GW := gT 513 (by decide +kernel) (by decide +kernel)
theorem gw_444 : (.methodLink "PlayStatesModel" 90 ⟨"PlayStatesModel", "isPlace", "(I)Z"⟩ : Cond) ∈ GW := gT 510 (by decide +kernel) (by decide +kernel)
theorem gw_445 : (.instanceMethod ⟨"PlayStatesModel", "isPlace", "(I)Z"⟩ : Cond) ∈ GW := gT 512 (by decide +kernel) (by decide +kernel)
theorem gw_18 : (.selects "PlayStatesModel" ⟨"PlayStatesModel", "isPlace", "(I)Z"⟩ ⟨"PlayStatesModel", "isPlace", "(I)Z"⟩ : Cond) ∈ GW := gP 18 (by decide +kernel) (by decide +kernel)
theorem gw_449 : (.code ⟨"PlayStatesModel", "addRow", "(III)I"⟩ prog_8_method_8_code 4 (some .int) : Cond) ∈ GW := gT 517 (by decide +kernel) (by decide +kernel)
theorem gw_447 : (.methodLink "PlayStatesModel" 93 ⟨"PlayStatesModel", "addRow", "(III)I"⟩ : Cond) ∈ GW := gT 514 (by decide +kernel) (by decide +kernel)
theorem gw_448 : (.instanceMethod ⟨"PlayStatesModel", "addRow", "(III)I"⟩ : Cond) ∈ GW := gT 516 (by decide +kernel) (by decide +kernel)
theorem gw_19 : (.selects "PlayStatesModel" ⟨"PlayStatesModel", "addRow", "(III)I"⟩ ⟨"PlayStatesModel", "addRow", "(III)I"⟩ : Cond) ∈ GW := gP 19 (by decide +kernel) (by decide +kernel)
theorem d_Md_enter_0 : decode prog_8_method_9_code 0 = .ok (.aload_n 0, 1) := by decide +kernel
theorem d_Md_enter_1 : decode prog_8_method_9_code 1 = .ok (.iconst 0, 1) := by decide +kernel
theorem d_Md_enter_2 : decode prog_8_method_9_code 2 = .ok (.putfield 69, 3) := by decide +kernel
theorem d_Md_enter_5 : decode prog_8_method_9_code 5 = .ok (.aload_n 0, 1) := by decide +kernel
theorem d_Md_enter_6 : decode prog_8_method_9_code 6 = .ok (.iload_n 1, 1) := by decide +kernel
theorem d_Md_enter_7 : decode prog_8_method_9_code 7 = .ok (.invokevirtual 86, 3) := by decide +kernel
theorem d_Md_enter_10 : decode prog_8_method_9_code 10 = .ok (.ifCond .eq 31, 3) := by decide +kernel
theorem d_Md_enter_13 : decode prog_8_method_9_code 13 = .ok (.aload_n 0, 1) := by decide +kernel
theorem d_Md_enter_14 : decode prog_8_method_9_code 14 = .ok (.iload_n 2, 1) := by decide +kernel
theorem d_Md_enter_15 : decode prog_8_method_9_code 15 = .ok (.invokevirtual 90, 3) := by decide +kernel
theorem d_Md_enter_18 : decode prog_8_method_9_code 18 = .ok (.ifCond .eq 23, 3) := by decide +kernel
theorem d_Md_enter_21 : decode prog_8_method_9_code 21 = .ok (.iload_n 3, 1) := by decide +kernel
theorem d_Md_enter_22 : decode prog_8_method_9_code 22 = .ok (.ifCond .lt 19, 3) := by decide +kernel
theorem d_Md_enter_25 : decode prog_8_method_9_code 25 = .ok (.iload_n 3, 1) := by decide +kernel
theorem d_Md_enter_26 : decode prog_8_method_9_code 26 = .ok (.bipush 9, 2) := by decide +kernel
theorem d_Md_enter_28 : decode prog_8_method_9_code 28 = .ok (.if_icmp .gt 13, 3) := by decide +kernel
theorem d_Md_enter_31 : decode prog_8_method_9_code 31 = .ok (.aload_n 0, 1) := by decide +kernel
theorem d_Md_enter_32 : decode prog_8_method_9_code 32 = .ok (.getfield 79, 3) := by decide +kernel
theorem d_Md_enter_35 : decode prog_8_method_9_code 35 = .ok (.sipush 600, 3) := by decide +kernel
theorem d_Md_enter_38 : decode prog_8_method_9_code 38 = .ok (.if_icmp .ne 5, 3) := by decide +kernel
theorem d_Md_enter_41 : decode prog_8_method_9_code 41 = .ok (.iconst (-1), 1) := by decide +kernel
theorem d_Md_enter_42 : decode prog_8_method_9_code 42 = .ok (.ireturn, 1) := by decide +kernel
theorem d_Md_enter_43 : decode prog_8_method_9_code 43 = .ok (.aload_n 0, 1) := by decide +kernel
theorem d_Md_enter_44 : decode prog_8_method_9_code 44 = .ok (.getfield 13, 3) := by decide +kernel
theorem d_Md_enter_47 : decode prog_8_method_9_code 47 = .ok (.bipush 81, 2) := by decide +kernel
theorem d_Md_enter_49 : decode prog_8_method_9_code 49 = .ok (.iload_n 1, 1) := by decide +kernel
theorem d_Md_enter_50 : decode prog_8_method_9_code 50 = .ok (.imul, 1) := by decide +kernel
theorem d_Md_enter_51 : decode prog_8_method_9_code 51 = .ok (.iload_n 2, 1) := by decide +kernel
theorem d_Md_enter_52 : decode prog_8_method_9_code 52 = .ok (.iadd, 1) := by decide +kernel
theorem d_Md_enter_53 : decode prog_8_method_9_code 53 = .ok (.iaload, 1) := by decide +kernel
theorem d_Md_enter_54 : decode prog_8_method_9_code 54 = .ok (.iload_n 3, 1) := by decide +kernel
theorem d_Md_enter_55 : decode prog_8_method_9_code 55 = .ok (.if_icmp .ne 7, 3) := by decide +kernel
theorem d_Md_enter_58 : decode prog_8_method_9_code 58 = .ok (.iconst (-1), 1) := by decide +kernel
theorem d_Md_enter_59 : decode prog_8_method_9_code 59 = .ok (.goto 10, 3) := by decide +kernel
theorem d_Md_enter_62 : decode prog_8_method_9_code 62 = .ok (.aload_n 0, 1) := by decide +kernel
theorem d_Md_enter_63 : decode prog_8_method_9_code 63 = .ok (.iload_n 1, 1) := by decide +kernel
theorem d_Md_enter_64 : decode prog_8_method_9_code 64 = .ok (.iload_n 2, 1) := by decide +kernel
theorem d_Md_enter_65 : decode prog_8_method_9_code 65 = .ok (.iload_n 3, 1) := by decide +kernel
theorem d_Md_enter_66 : decode prog_8_method_9_code 66 = .ok (.invokevirtual 93, 3) := by decide +kernel
theorem d_Md_enter_69 : decode prog_8_method_9_code 69 = .ok (.ireturn, 1) := by decide +kernel
-- PlayStatesModel.enter(III)I 
def ws_Md_enter (G : gG) (a_t a_t_truth a_t_helped a_t_counted a_t_told a_t_runs a_t_isOn a_t_tryEntries a_t_tryMarks a_t_text a_t_entries a_t_marked a_t_present a_t_whose a_t_where a_t_what a_t_before a_t_behind : Nat)  (x_t_thrown : Int32) (x_t_places : Int32) (x_t_persons : Int32) (x_t_many : Int32) (x_t_size : Int32) (x_t_at : Int32) (x_t_sought : Int32) (x_t_found : Int32) (x_t_entries : Nat → Int32) (x_t_marked : Nat → Int32) (x_t_present : Nat → Int32) (x_t_whose : Nat → Int32) (x_t_where : Nat → Int32) (x_t_what : Nat → Int32) (x_t_before : Nat → Int32) (x_t_behind : Nat → Int32) : va_W := [(a_t, .inr (6, [.int x_t_thrown, .int x_t_places, .int x_t_persons, .ref a_t_truth, .ref a_t_entries, .ref a_t_marked, .ref a_t_present, .ref a_t_helped, .ref a_t_counted, .ref a_t_told, .ref a_t_runs, .int x_t_many, .ref a_t_whose, .ref a_t_where, .ref a_t_what, .ref a_t_before, .ref a_t_behind, .ref a_t_isOn, .ref a_t_tryEntries, .ref a_t_tryMarks, .int x_t_size, .ref a_t_text, .int x_t_at, .int x_t_sought, .int x_t_found])), (a_t_entries, .inl (G.2 0, 648, .inl x_t_entries)), (a_t_marked, .inl (G.2 0, 648, .inl x_t_marked)), (a_t_present, .inl (G.2 0, 8, .inl x_t_present)), (a_t_whose, .inl (G.2 0, 600, .inl x_t_whose)), (a_t_where, .inl (G.2 0, 600, .inl x_t_where)), (a_t_what, .inl (G.2 0, 600, .inl x_t_what)), (a_t_before, .inl (G.2 0, 600, .inl x_t_before)), (a_t_behind, .inl (G.2 0, 600, .inl x_t_behind))]
def f_Md_enter  (p0 : Int32) (p1 : Int32) (p2 : Int32) (x_t_thrown : Int32) (x_t_places : Int32) (x_t_persons : Int32) (x_t_many : Int32) (x_t_size : Int32) (x_t_at : Int32) (x_t_sought : Int32) (x_t_found : Int32) (x_t_entries : Nat → Int32) (x_t_marked : Nat → Int32) (x_t_present : Nat → Int32) (x_t_whose : Nat → Int32) (x_t_where : Nat → Int32) (x_t_what : Nat → Int32) (x_t_before : Nat → Int32) (x_t_behind : Nat → Int32) : Option (Int32 × Int32 × Int32 × (Nat → Int32) × (Nat → Int32) × (Nat → Int32) × (Nat → Int32) × (Nat → Int32) × (Nat → Int32) × (Nat → Int32) × (Nat → Int32)) :=
  ((f_Md_isPerson p0 (0 : Int32) x_t_places x_t_persons x_t_many x_t_size x_t_at x_t_sought x_t_found).bind fun y1 => (if y1 = 0 then some ((-1 : Int32), (0 : Int32), x_t_many, x_t_entries, x_t_marked, x_t_present, x_t_whose, x_t_where, x_t_what, x_t_before, x_t_behind) else ((f_Md_isPlace p1 (0 : Int32) x_t_places x_t_persons x_t_many x_t_size x_t_at x_t_sought x_t_found).bind fun y3 => (if y3 = 0 then some ((-1 : Int32), (0 : Int32), x_t_many, x_t_entries, x_t_marked, x_t_present, x_t_whose, x_t_where, x_t_what, x_t_before, x_t_behind) else (if p2 < 0 then some ((-1 : Int32), (0 : Int32), x_t_many, x_t_entries, x_t_marked, x_t_present, x_t_whose, x_t_where, x_t_what, x_t_before, x_t_behind) else (if (9 : Int32) < p2 then some ((-1 : Int32), (0 : Int32), x_t_many, x_t_entries, x_t_marked, x_t_present, x_t_whose, x_t_where, x_t_what, x_t_before, x_t_behind) else (if x_t_many = (600 : Int32) then some ((-1 : Int32), (0 : Int32), x_t_many, x_t_entries, x_t_marked, x_t_present, x_t_whose, x_t_where, x_t_what, x_t_before, x_t_behind) else (if inB (((81 : Int32) * p0) + p1) 648 then (if (x_t_entries (((81 : Int32) * p0) + p1).toNatClampNeg) = p2 then some ((-1 : Int32), (0 : Int32), x_t_many, x_t_entries, x_t_marked, x_t_present, x_t_whose, x_t_where, x_t_what, x_t_before, x_t_behind) else ((f_Md_addRow p0 p1 p2 (0 : Int32) x_t_places x_t_persons x_t_many x_t_size x_t_at x_t_sought x_t_found x_t_entries x_t_marked x_t_present x_t_whose x_t_where x_t_what x_t_before x_t_behind).bind fun y10 => some (y10.1, (0 : Int32), y10.2.1, y10.2.2.1, y10.2.2.2.1, y10.2.2.2.2.1, y10.2.2.2.2.2.1, y10.2.2.2.2.2.2.1, y10.2.2.2.2.2.2.2.1, y10.2.2.2.2.2.2.2.2.1, y10.2.2.2.2.2.2.2.2.2))) else none))))))))
set_option maxHeartbeats 4000000 in
set_option maxRecDepth 100000 in
theorem c_Md_enter (l : Launch) (G : gG) (sz : Nat) (a_t a_t_truth a_t_helped a_t_counted a_t_told a_t_runs a_t_isOn a_t_tryEntries a_t_tryMarks a_t_text a_t_entries a_t_marked a_t_present a_t_whose a_t_where a_t_what a_t_before a_t_behind : Nat)  (p0 : Int32) (p1 : Int32) (p2 : Int32) (x_t_thrown : Int32) (x_t_places : Int32) (x_t_persons : Int32) (x_t_many : Int32) (x_t_size : Int32) (x_t_at : Int32) (x_t_sought : Int32) (x_t_found : Int32) (x_t_entries : Nat → Int32) (x_t_marked : Nat → Int32) (x_t_present : Nat → Int32) (x_t_whose : Nat → Int32) (x_t_where : Nat → Int32) (x_t_what : Nat → Int32) (x_t_before : Nat → Int32) (x_t_behind : Nat → Int32) (r : Int32) (x_t_thrown' : Int32) (x_t_many' : Int32) (x_t_entries' : Nat → Int32) (x_t_marked' : Nat → Int32) (x_t_present' : Nat → Int32) (x_t_whose' : Nat → Int32) (x_t_where' : Nat → Int32) (x_t_what' : Nat → Int32) (x_t_before' : Nat → Int32) (x_t_behind' : Nat → Int32) (h : f_Md_enter p0 p1 p2 x_t_thrown x_t_places x_t_persons x_t_many x_t_size x_t_at x_t_sought x_t_found x_t_entries x_t_marked x_t_present x_t_whose x_t_where x_t_what x_t_before x_t_behind = some (r, x_t_thrown', x_t_many', x_t_entries', x_t_marked', x_t_present', x_t_whose', x_t_where', x_t_what', x_t_before', x_t_behind'))  : cN l y_Md_enter w_Md_enter { frames := 2, cells := 0, slots := 0, locals := 47 } G sz [.ref a_t, .int p0, .int p1, .int p2] (ws_Md_enter G a_t a_t_truth a_t_helped a_t_counted a_t_told a_t_runs a_t_isOn a_t_tryEntries a_t_tryMarks a_t_text a_t_entries a_t_marked a_t_present a_t_whose a_t_where a_t_what a_t_before a_t_behind x_t_thrown x_t_places x_t_persons x_t_many x_t_size x_t_at x_t_sought x_t_found x_t_entries x_t_marked x_t_present x_t_whose x_t_where x_t_what x_t_before x_t_behind) (some (.int r)) (wB G (ws_Md_enter G a_t a_t_truth a_t_helped a_t_counted a_t_told a_t_runs a_t_isOn a_t_tryEntries a_t_tryMarks a_t_text a_t_entries a_t_marked a_t_present a_t_whose a_t_where a_t_what a_t_before a_t_behind x_t_thrown' x_t_places x_t_persons x_t_many' x_t_size x_t_at x_t_sought x_t_found x_t_entries' x_t_marked' x_t_present' x_t_whose' x_t_where' x_t_what' x_t_before' x_t_behind')) 0 0 := by
  refine cN_ofW (cc := prog_8_method_9_code) (maxL := 4) (ret := (some .int)) (by decide) rfl (Nat.le_of_ble_eq_true rfl) ?_
  intro p e s m args below meth c A H locs ls hx hb hr hts hown hlocks hin hml hK hN hP hD hA hS hl
  replace hl : lv_has ls 4 [(0, .ref a_t), (1, .int p0), (2, .int p1), (3, .int p2)] := hl
  replace hown : s.vm.findClass "PlayStatesModel" = some m.cls := hown
  unfold f_Md_enter at h
  refine lv_aload_n hx hb d_Md_enter_0 rfl (lv_at hl 0 rfl) ?_
  refine lv_iconst (v := (0 : Int32)) hx hb d_Md_enter_1 (by decide) ?_
  refine va_put (D := G.1) (ci := 6) (v := .int (0 : Int32)) (ty := .int) (C := "PlayStatesModel") (T := TMd) (N := 25) hx hb hts iw_6 tyMd tyMd_ok nmMd hown hK hP hD hS 0 rfl rfl 0 (by decide) (hts _ gw_379) (fun _ h9 => h9) rfl (by decide +kernel) (by rfl) (by rfl) (Nat.le_of_ble_eq_true rfl) d_Md_enter_2 (fun H locs hP hD hS => ?_)
  replace hP : va_P G.1 vwCl (ws_Md_enter G a_t a_t_truth a_t_helped a_t_counted a_t_told a_t_runs a_t_isOn a_t_tryEntries a_t_tryMarks a_t_text a_t_entries a_t_marked a_t_present a_t_whose a_t_where a_t_what a_t_before a_t_behind (0 : Int32) x_t_places x_t_persons x_t_many x_t_size x_t_at x_t_sought x_t_found x_t_entries x_t_marked x_t_present x_t_whose x_t_where x_t_what x_t_before x_t_behind) H := hP
  replace hD : va_D A (ws_Md_enter G a_t a_t_truth a_t_helped a_t_counted a_t_told a_t_runs a_t_isOn a_t_tryEntries a_t_tryMarks a_t_text a_t_entries a_t_marked a_t_present a_t_whose a_t_where a_t_what a_t_before a_t_behind (0 : Int32) x_t_places x_t_persons x_t_many x_t_size x_t_at x_t_sought x_t_found x_t_entries x_t_marked x_t_present x_t_whose x_t_where x_t_what x_t_before x_t_behind) := hD
  refine lv_aload_n hx hb d_Md_enter_5 rfl (lv_at hl 0 rfl) ?_
  refine lv_iload_n hx hb d_Md_enter_6 rfl (lv_at hl 1 rfl) ?_
  obtain ⟨y1, hy1, h⟩ := o_bind h
  have hPc := hP.sub (ws' := (ws_Md_isPerson G a_t a_t_truth a_t_entries a_t_marked a_t_present a_t_helped a_t_counted a_t_told a_t_runs a_t_whose a_t_where a_t_what a_t_before a_t_behind a_t_isOn a_t_tryEntries a_t_tryMarks a_t_text (0 : Int32) x_t_places x_t_persons x_t_many x_t_size x_t_at x_t_sought x_t_found)) [0] rfl
  have hDc := hD.sub (ws' := (ws_Md_isPerson G a_t a_t_truth a_t_entries a_t_marked a_t_present a_t_helped a_t_counted a_t_told a_t_runs a_t_whose a_t_where a_t_what a_t_before a_t_behind a_t_isOn a_t_tryEntries a_t_tryMarks a_t_text (0 : Int32) x_t_places x_t_persons x_t_many x_t_size x_t_at x_t_sought x_t_found)) [0] (by decide) rfl
  have hFc := va_free (wc := (ws_Md_isPerson G a_t a_t_truth a_t_entries a_t_marked a_t_present a_t_helped a_t_counted a_t_told a_t_runs a_t_whose a_t_where a_t_what a_t_before a_t_behind a_t_isOn a_t_tryEntries a_t_tryMarks a_t_text (0 : Int32) x_t_places x_t_persons x_t_many x_t_size x_t_at x_t_sought x_t_found)) hD hS hA [0] rfl
  refine q_call1 (va_runV (As := [.int p0]) (rest := []) ⟨hx, hb, hml, hown, hts⟩ (c_Md_isPerson l G H.size a_t a_t_truth a_t_entries a_t_marked a_t_present a_t_helped a_t_counted a_t_told a_t_runs a_t_whose a_t_where a_t_what a_t_before a_t_behind a_t_isOn a_t_tryEntries a_t_tryMarks a_t_text p0 (0 : Int32) x_t_places x_t_persons x_t_many x_t_size x_t_at x_t_sought x_t_found _ hy1) (cwV 1 hts (gV gw_441 gw_442 gw_17 gw_36 gw_443) rfl rfl rfl (by decide +kernel) ⟨Nat.le_of_ble_eq_true rfl, Nat.le_of_ble_eq_true rfl⟩) (pV hK hN hPc hDc (ci := 6) (q0 := 0) rfl rfl) rfl rfl hl.1 rfl (lv_room (Nat.le_of_ble_eq_true rfl)) d_Md_enter_7 ⟨Nat.le_of_ble_eq_true rfl, Nat.le_of_ble_eq_true rfl⟩) hS (fun q _ h => hFc q h) hFc (fun H1 locs hB hz hk hS => ?_)
  obtain ⟨hP, hD⟩ := q_join (wr := [(a_t_entries, .inl (G.2 0, 648, .inl x_t_entries)), (a_t_marked, .inl (G.2 0, 648, .inl x_t_marked)), (a_t_present, .inl (G.2 0, 8, .inl x_t_present)), (a_t_whose, .inl (G.2 0, 600, .inl x_t_whose)), (a_t_where, .inl (G.2 0, 600, .inl x_t_where)), (a_t_what, .inl (G.2 0, 600, .inl x_t_what)), (a_t_before, .inl (G.2 0, 600, .inl x_t_before)), (a_t_behind, .inl (G.2 0, 600, .inl x_t_behind))]) (wn := (ws_Md_enter G a_t a_t_truth a_t_helped a_t_counted a_t_told a_t_runs a_t_isOn a_t_tryEntries a_t_tryMarks a_t_text a_t_entries a_t_marked a_t_present a_t_whose a_t_where a_t_what a_t_before a_t_behind (0 : Int32) x_t_places x_t_persons x_t_many x_t_size x_t_at x_t_sought x_t_found x_t_entries x_t_marked x_t_present x_t_whose x_t_where x_t_what x_t_before x_t_behind)) hP hD [0] [1, 2, 3, 4, 5, 6, 7, 8] [8, 0, 1, 2, 3, 4, 5, 6, 7] rfl rfl (by decide) (by decide) rfl (by decide) hk hFc hB.1 hB.2
  generalize H1 = H at hP hS ⊢
  replace hP : va_P G.1 vwCl (ws_Md_enter G a_t a_t_truth a_t_helped a_t_counted a_t_told a_t_runs a_t_isOn a_t_tryEntries a_t_tryMarks a_t_text a_t_entries a_t_marked a_t_present a_t_whose a_t_where a_t_what a_t_before a_t_behind (0 : Int32) x_t_places x_t_persons x_t_many x_t_size x_t_at x_t_sought x_t_found x_t_entries x_t_marked x_t_present x_t_whose x_t_where x_t_what x_t_before x_t_behind) H := hP
  replace hD : va_D A (ws_Md_enter G a_t a_t_truth a_t_helped a_t_counted a_t_told a_t_runs a_t_isOn a_t_tryEntries a_t_tryMarks a_t_text a_t_entries a_t_marked a_t_present a_t_whose a_t_where a_t_what a_t_before a_t_behind (0 : Int32) x_t_places x_t_persons x_t_many x_t_size x_t_at x_t_sought x_t_found x_t_entries x_t_marked x_t_present x_t_whose x_t_where x_t_what x_t_before x_t_behind) := hD
  refine lv_if_eq (tgt := 41) hx hb d_Md_enter_10 (by decide) (fun c2 => ?_) (fun c2 => ?_)
  · replace h := (if_pos c2).symm.trans h
    refine lv_iconst (v := (-1 : Int32)) hx hb d_Md_enter_41 (by decide) ?_
    cases h
    exact q_iretW hx hb hr hlocks hP hD hS d_Md_enter_42
  · replace h := (if_neg c2).symm.trans h
    refine lv_aload_n hx hb d_Md_enter_13 rfl (lv_at hl 0 rfl) ?_
    refine lv_iload_n hx hb d_Md_enter_14 rfl (lv_at hl 2 rfl) ?_
    obtain ⟨y3, hy3, h⟩ := o_bind h
    have hPc := hP.sub (ws' := (ws_Md_isPlace G a_t a_t_truth a_t_entries a_t_marked a_t_present a_t_helped a_t_counted a_t_told a_t_runs a_t_whose a_t_where a_t_what a_t_before a_t_behind a_t_isOn a_t_tryEntries a_t_tryMarks a_t_text (0 : Int32) x_t_places x_t_persons x_t_many x_t_size x_t_at x_t_sought x_t_found)) [0] rfl
    have hDc := hD.sub (ws' := (ws_Md_isPlace G a_t a_t_truth a_t_entries a_t_marked a_t_present a_t_helped a_t_counted a_t_told a_t_runs a_t_whose a_t_where a_t_what a_t_before a_t_behind a_t_isOn a_t_tryEntries a_t_tryMarks a_t_text (0 : Int32) x_t_places x_t_persons x_t_many x_t_size x_t_at x_t_sought x_t_found)) [0] (by decide) rfl
    have hFc := va_free (wc := (ws_Md_isPlace G a_t a_t_truth a_t_entries a_t_marked a_t_present a_t_helped a_t_counted a_t_told a_t_runs a_t_whose a_t_where a_t_what a_t_before a_t_behind a_t_isOn a_t_tryEntries a_t_tryMarks a_t_text (0 : Int32) x_t_places x_t_persons x_t_many x_t_size x_t_at x_t_sought x_t_found)) hD hS hA [0] rfl
    refine q_call1 (va_runV (As := [.int p1]) (rest := []) ⟨hx, hb, hml, hown, hts⟩ (c_Md_isPlace l G H.size a_t a_t_truth a_t_entries a_t_marked a_t_present a_t_helped a_t_counted a_t_told a_t_runs a_t_whose a_t_where a_t_what a_t_before a_t_behind a_t_isOn a_t_tryEntries a_t_tryMarks a_t_text p1 (0 : Int32) x_t_places x_t_persons x_t_many x_t_size x_t_at x_t_sought x_t_found _ hy3) (cwV 1 hts (gV gw_444 gw_445 gw_18 gw_36 gw_446) rfl rfl rfl (by decide +kernel) ⟨Nat.le_of_ble_eq_true rfl, Nat.le_of_ble_eq_true rfl⟩) (pV hK hN hPc hDc (ci := 6) (q0 := 0) rfl rfl) rfl rfl hl.1 rfl (lv_room (Nat.le_of_ble_eq_true rfl)) d_Md_enter_15 ⟨Nat.le_of_ble_eq_true rfl, Nat.le_of_ble_eq_true rfl⟩) hS (fun q _ h => hFc q h) hFc (fun H1 locs hB hz hk hS => ?_)
    obtain ⟨hP, hD⟩ := q_join (wr := [(a_t_entries, .inl (G.2 0, 648, .inl x_t_entries)), (a_t_marked, .inl (G.2 0, 648, .inl x_t_marked)), (a_t_present, .inl (G.2 0, 8, .inl x_t_present)), (a_t_whose, .inl (G.2 0, 600, .inl x_t_whose)), (a_t_where, .inl (G.2 0, 600, .inl x_t_where)), (a_t_what, .inl (G.2 0, 600, .inl x_t_what)), (a_t_before, .inl (G.2 0, 600, .inl x_t_before)), (a_t_behind, .inl (G.2 0, 600, .inl x_t_behind))]) (wn := (ws_Md_enter G a_t a_t_truth a_t_helped a_t_counted a_t_told a_t_runs a_t_isOn a_t_tryEntries a_t_tryMarks a_t_text a_t_entries a_t_marked a_t_present a_t_whose a_t_where a_t_what a_t_before a_t_behind (0 : Int32) x_t_places x_t_persons x_t_many x_t_size x_t_at x_t_sought x_t_found x_t_entries x_t_marked x_t_present x_t_whose x_t_where x_t_what x_t_before x_t_behind)) hP hD [0] [1, 2, 3, 4, 5, 6, 7, 8] [8, 0, 1, 2, 3, 4, 5, 6, 7] rfl rfl (by decide) (by decide) rfl (by decide) hk hFc hB.1 hB.2
    generalize H1 = H at hP hS ⊢
    replace hP : va_P G.1 vwCl (ws_Md_enter G a_t a_t_truth a_t_helped a_t_counted a_t_told a_t_runs a_t_isOn a_t_tryEntries a_t_tryMarks a_t_text a_t_entries a_t_marked a_t_present a_t_whose a_t_where a_t_what a_t_before a_t_behind (0 : Int32) x_t_places x_t_persons x_t_many x_t_size x_t_at x_t_sought x_t_found x_t_entries x_t_marked x_t_present x_t_whose x_t_where x_t_what x_t_before x_t_behind) H := hP
    replace hD : va_D A (ws_Md_enter G a_t a_t_truth a_t_helped a_t_counted a_t_told a_t_runs a_t_isOn a_t_tryEntries a_t_tryMarks a_t_text a_t_entries a_t_marked a_t_present a_t_whose a_t_where a_t_what a_t_before a_t_behind (0 : Int32) x_t_places x_t_persons x_t_many x_t_size x_t_at x_t_sought x_t_found x_t_entries x_t_marked x_t_present x_t_whose x_t_where x_t_what x_t_before x_t_behind) := hD
    refine lv_if_eq (tgt := 41) hx hb d_Md_enter_18 (by decide) (fun c4 => ?_) (fun c4 => ?_)
    · replace h := (if_pos c4).symm.trans h
      refine lv_iconst (v := (-1 : Int32)) hx hb d_Md_enter_41 (by decide) ?_
      cases h
      exact q_iretW hx hb hr hlocks hP hD hS d_Md_enter_42
    · replace h := (if_neg c4).symm.trans h
      refine lv_iload_n hx hb d_Md_enter_21 rfl (lv_at hl 3 rfl) ?_
      refine lv_if_lt (tgt := 41) hx hb d_Md_enter_22 (by decide) (fun c5 => ?_) (fun c5 => ?_)
      · replace h := (if_pos c5).symm.trans h
        refine lv_iconst (v := (-1 : Int32)) hx hb d_Md_enter_41 (by decide) ?_
        cases h
        exact q_iretW hx hb hr hlocks hP hD hS d_Md_enter_42
      · replace h := (if_neg c5).symm.trans h
        refine lv_iload_n hx hb d_Md_enter_25 rfl (lv_at hl 3 rfl) ?_
        refine lv_bipush (v := (9 : Int32)) hx hb d_Md_enter_26 (by decide) ?_
        refine lv_icmp_gt (tgt := 41) hx hb d_Md_enter_28 (by decide) (fun c6 => ?_) (fun c6 => ?_)
        · replace h := (if_pos c6).symm.trans h
          refine lv_iconst (v := (-1 : Int32)) hx hb d_Md_enter_41 (by decide) ?_
          cases h
          exact q_iretW hx hb hr hlocks hP hD hS d_Md_enter_42
        · replace h := (if_neg c6).symm.trans h
          refine lv_aload_n hx hb d_Md_enter_31 rfl (lv_at hl 0 rfl) ?_
          refine va_get (D := G.1) (ci := 6) (v := .int x_t_many) (C := "PlayStatesModel") (T := TMd) (N := 25) hx hb hts iw_6 hown hK hP 0 rfl rfl 11 (by decide) (hts _ gw_390) (fun _ h9 => h9) rfl d_Md_enter_32 ?_
          refine lv_sipush (v := (600 : Int32)) hx hb d_Md_enter_35 (by decide) ?_
          refine lv_icmp_ne (tgt := 43) hx hb d_Md_enter_38 (by decide) (fun c7 => ?_) (fun c7 => ?_)
          · replace h := (if_neg c7).symm.trans h
            refine lv_aload_n hx hb d_Md_enter_43 rfl (lv_at hl 0 rfl) ?_
            refine va_get (D := G.1) (ci := 6) (v := .ref a_t_entries) (C := "PlayStatesModel") (T := TMd) (N := 25) hx hb hts iw_6 hown hK hP 0 rfl rfl 4 (by decide) (hts _ gw_383) (fun _ h9 => h9) rfl d_Md_enter_44 ?_
            refine lv_bipush (v := (81 : Int32)) hx hb d_Md_enter_47 (by decide) ?_
            refine lv_iload_n hx hb d_Md_enter_49 rfl (lv_at hl 1 rfl) ?_
            refine lv_imul hx hb d_Md_enter_50 ?_
            refine lv_iload_n hx hb d_Md_enter_51 rfl (lv_at hl 2 rfl) ?_
            refine lv_iadd hx hb d_Md_enter_52 ?_
            obtain ⟨i8, h⟩ := o_if h
            refine va_iald (n := 648) (f := x_t_entries) hx hb hK hP 1 0 rfl rfl i8 d_Md_enter_53 ?_
            refine lv_iload_n hx hb d_Md_enter_54 rfl (lv_at hl 3 rfl) ?_
            refine lv_icmp_ne (tgt := 62) hx hb d_Md_enter_55 (by decide) (fun c9 => ?_) (fun c9 => ?_)
            · replace h := (if_neg c9).symm.trans h
              refine lv_aload_n hx hb d_Md_enter_62 rfl (lv_at hl 0 rfl) ?_
              refine lv_iload_n hx hb d_Md_enter_63 rfl (lv_at hl 1 rfl) ?_
              refine lv_iload_n hx hb d_Md_enter_64 rfl (lv_at hl 2 rfl) ?_
              refine lv_iload_n hx hb d_Md_enter_65 rfl (lv_at hl 3 rfl) ?_
              obtain ⟨y10, hy10, h⟩ := o_bind h
              have hPc := hP.sub (ws' := (ws_Md_addRow G a_t a_t_truth a_t_helped a_t_counted a_t_told a_t_runs a_t_isOn a_t_tryEntries a_t_tryMarks a_t_text a_t_entries a_t_marked a_t_present a_t_whose a_t_where a_t_what a_t_before a_t_behind (0 : Int32) x_t_places x_t_persons x_t_many x_t_size x_t_at x_t_sought x_t_found x_t_entries x_t_marked x_t_present x_t_whose x_t_where x_t_what x_t_before x_t_behind)) [0, 1, 2, 3, 4, 5, 6, 7, 8] rfl
              have hDc := hD.sub (ws' := (ws_Md_addRow G a_t a_t_truth a_t_helped a_t_counted a_t_told a_t_runs a_t_isOn a_t_tryEntries a_t_tryMarks a_t_text a_t_entries a_t_marked a_t_present a_t_whose a_t_where a_t_what a_t_before a_t_behind (0 : Int32) x_t_places x_t_persons x_t_many x_t_size x_t_at x_t_sought x_t_found x_t_entries x_t_marked x_t_present x_t_whose x_t_where x_t_what x_t_before x_t_behind)) [0, 1, 2, 3, 4, 5, 6, 7, 8] (by decide) rfl
              have hFc := va_free (wc := (ws_Md_addRow G a_t a_t_truth a_t_helped a_t_counted a_t_told a_t_runs a_t_isOn a_t_tryEntries a_t_tryMarks a_t_text a_t_entries a_t_marked a_t_present a_t_whose a_t_where a_t_what a_t_before a_t_behind (0 : Int32) x_t_places x_t_persons x_t_many x_t_size x_t_at x_t_sought x_t_found x_t_entries x_t_marked x_t_present x_t_whose x_t_where x_t_what x_t_before x_t_behind)) hD hS hA [0, 1, 2, 3, 4, 5, 6, 7, 8] rfl
              refine q_call1 (va_runV (As := [.int p0, .int p1, .int p2]) (rest := []) ⟨hx, hb, hml, hown, hts⟩ (c_Md_addRow l G H.size a_t a_t_truth a_t_helped a_t_counted a_t_told a_t_runs a_t_isOn a_t_tryEntries a_t_tryMarks a_t_text a_t_entries a_t_marked a_t_present a_t_whose a_t_where a_t_what a_t_before a_t_behind p0 p1 p2 (0 : Int32) x_t_places x_t_persons x_t_many x_t_size x_t_at x_t_sought x_t_found x_t_entries x_t_marked x_t_present x_t_whose x_t_where x_t_what x_t_before x_t_behind _ _ _ _ _ _ _ _ _ _ hy10) (cwV 3 hts (gV gw_447 gw_448 gw_19 gw_36 gw_449) rfl rfl rfl (by decide +kernel) ⟨Nat.le_of_ble_eq_true rfl, Nat.le_of_ble_eq_true rfl⟩) (pV hK hN hPc hDc (ci := 6) (q0 := 0) rfl rfl) rfl rfl hl.1 rfl (lv_room (Nat.le_of_ble_eq_true rfl)) d_Md_enter_66 ⟨Nat.le_of_ble_eq_true rfl, Nat.le_of_ble_eq_true rfl⟩) hS (fun q _ h => hFc q h) hFc (fun H1 locs hB hz hk hS => ?_)
              obtain ⟨hP, hD⟩ := q_joinA hFc hB.1 hB.2
              generalize H1 = H at hP hS ⊢
              replace hP : va_P G.1 vwCl (ws_Md_enter G a_t a_t_truth a_t_helped a_t_counted a_t_told a_t_runs a_t_isOn a_t_tryEntries a_t_tryMarks a_t_text a_t_entries a_t_marked a_t_present a_t_whose a_t_where a_t_what a_t_before a_t_behind (0 : Int32) x_t_places x_t_persons y10.2.1 x_t_size x_t_at x_t_sought x_t_found y10.2.2.1 y10.2.2.2.1 y10.2.2.2.2.1 y10.2.2.2.2.2.1 y10.2.2.2.2.2.2.1 y10.2.2.2.2.2.2.2.1 y10.2.2.2.2.2.2.2.2.1 y10.2.2.2.2.2.2.2.2.2) H := hP
              replace hD : va_D A (ws_Md_enter G a_t a_t_truth a_t_helped a_t_counted a_t_told a_t_runs a_t_isOn a_t_tryEntries a_t_tryMarks a_t_text a_t_entries a_t_marked a_t_present a_t_whose a_t_where a_t_what a_t_before a_t_behind (0 : Int32) x_t_places x_t_persons y10.2.1 x_t_size x_t_at x_t_sought x_t_found y10.2.2.1 y10.2.2.2.1 y10.2.2.2.2.1 y10.2.2.2.2.2.1 y10.2.2.2.2.2.2.1 y10.2.2.2.2.2.2.2.1 y10.2.2.2.2.2.2.2.2.1 y10.2.2.2.2.2.2.2.2.2) := hD
              cases h
              exact q_iretW hx hb hr hlocks hP hD hS d_Md_enter_69
            · replace h := (if_pos c9).symm.trans h
              refine lv_iconst (v := (-1 : Int32)) hx hb d_Md_enter_58 (by decide) ?_
              refine lv_goto (tgt := 69) hx hb d_Md_enter_59 (by decide) ?_
              cases h
              exact q_iretW hx hb hr hlocks hP hD hS d_Md_enter_69
          · replace h := (if_pos c7).symm.trans h
            refine lv_iconst (v := (-1 : Int32)) hx hb d_Md_enter_41 (by decide) ?_
            cases h
            exact q_iretW hx hb hr hlocks hP hD hS d_Md_enter_42

theorem d_Md_mark_0 : decode prog_8_method_10_code 0 = .ok (.aload_n 0, 1) := by decide +kernel
theorem d_Md_mark_1 : decode prog_8_method_10_code 1 = .ok (.iconst 0, 1) := by decide +kernel
theorem d_Md_mark_2 : decode prog_8_method_10_code 2 = .ok (.putfield 69, 3) := by decide +kernel
theorem d_Md_mark_5 : decode prog_8_method_10_code 5 = .ok (.aload_n 0, 1) := by decide +kernel
theorem d_Md_mark_6 : decode prog_8_method_10_code 6 = .ok (.iload_n 1, 1) := by decide +kernel
theorem d_Md_mark_7 : decode prog_8_method_10_code 7 = .ok (.invokevirtual 86, 3) := by decide +kernel
theorem d_Md_mark_10 : decode prog_8_method_10_code 10 = .ok (.ifCond .eq 32, 3) := by decide +kernel
theorem d_Md_mark_13 : decode prog_8_method_10_code 13 = .ok (.aload_n 0, 1) := by decide +kernel
theorem d_Md_mark_14 : decode prog_8_method_10_code 14 = .ok (.iload_n 2, 1) := by decide +kernel
theorem d_Md_mark_15 : decode prog_8_method_10_code 15 = .ok (.invokevirtual 90, 3) := by decide +kernel
theorem d_Md_mark_18 : decode prog_8_method_10_code 18 = .ok (.ifCond .eq 24, 3) := by decide +kernel
theorem d_Md_mark_21 : decode prog_8_method_10_code 21 = .ok (.iload_n 3, 1) := by decide +kernel
theorem d_Md_mark_22 : decode prog_8_method_10_code 22 = .ok (.iconst 1, 1) := by decide +kernel
theorem d_Md_mark_23 : decode prog_8_method_10_code 23 = .ok (.if_icmp .lt 19, 3) := by decide +kernel
theorem d_Md_mark_26 : decode prog_8_method_10_code 26 = .ok (.iload_n 3, 1) := by decide +kernel
theorem d_Md_mark_27 : decode prog_8_method_10_code 27 = .ok (.bipush 9, 2) := by decide +kernel
theorem d_Md_mark_29 : decode prog_8_method_10_code 29 = .ok (.if_icmp .gt 13, 3) := by decide +kernel
theorem d_Md_mark_32 : decode prog_8_method_10_code 32 = .ok (.aload_n 0, 1) := by decide +kernel
theorem d_Md_mark_33 : decode prog_8_method_10_code 33 = .ok (.getfield 79, 3) := by decide +kernel
theorem d_Md_mark_36 : decode prog_8_method_10_code 36 = .ok (.sipush 600, 3) := by decide +kernel
theorem d_Md_mark_39 : decode prog_8_method_10_code 39 = .ok (.if_icmp .ne 5, 3) := by decide +kernel
theorem d_Md_mark_42 : decode prog_8_method_10_code 42 = .ok (.iconst (-1), 1) := by decide +kernel
theorem d_Md_mark_43 : decode prog_8_method_10_code 43 = .ok (.ireturn, 1) := by decide +kernel
theorem d_Md_mark_44 : decode prog_8_method_10_code 44 = .ok (.aload_n 0, 1) := by decide +kernel
theorem d_Md_mark_45 : decode prog_8_method_10_code 45 = .ok (.getfield 16, 3) := by decide +kernel
theorem d_Md_mark_48 : decode prog_8_method_10_code 48 = .ok (.bipush 81, 2) := by decide +kernel
theorem d_Md_mark_50 : decode prog_8_method_10_code 50 = .ok (.iload_n 1, 1) := by decide +kernel
theorem d_Md_mark_51 : decode prog_8_method_10_code 51 = .ok (.imul, 1) := by decide +kernel
theorem d_Md_mark_52 : decode prog_8_method_10_code 52 = .ok (.iload_n 2, 1) := by decide +kernel
theorem d_Md_mark_53 : decode prog_8_method_10_code 53 = .ok (.iadd, 1) := by decide +kernel
theorem d_Md_mark_54 : decode prog_8_method_10_code 54 = .ok (.iaload, 1) := by decide +kernel
theorem d_Md_mark_55 : decode prog_8_method_10_code 55 = .ok (.iload_n 3, 1) := by decide +kernel
theorem d_Md_mark_56 : decode prog_8_method_10_code 56 = .ok (.ishr, 1) := by decide +kernel
theorem d_Md_mark_57 : decode prog_8_method_10_code 57 = .ok (.iconst 1, 1) := by decide +kernel
theorem d_Md_mark_58 : decode prog_8_method_10_code 58 = .ok (.iand, 1) := by decide +kernel
theorem d_Md_mark_59 : decode prog_8_method_10_code 59 = .ok (.iconst 1, 1) := by decide +kernel
theorem d_Md_mark_60 : decode prog_8_method_10_code 60 = .ok (.if_icmp .ne 7, 3) := by decide +kernel
theorem d_Md_mark_63 : decode prog_8_method_10_code 63 = .ok (.iconst 1, 1) := by decide +kernel
theorem d_Md_mark_64 : decode prog_8_method_10_code 64 = .ok (.goto 4, 3) := by decide +kernel
theorem d_Md_mark_67 : decode prog_8_method_10_code 67 = .ok (.iconst 0, 1) := by decide +kernel
theorem d_Md_mark_68 : decode prog_8_method_10_code 68 = .ok (.istore 5, 2) := by decide +kernel
theorem d_Md_mark_70 : decode prog_8_method_10_code 70 = .ok (.iload 5, 2) := by decide +kernel
theorem d_Md_mark_72 : decode prog_8_method_10_code 72 = .ok (.iload 4, 2) := by decide +kernel
theorem d_Md_mark_74 : decode prog_8_method_10_code 74 = .ok (.if_icmp .ne 7, 3) := by decide +kernel
theorem d_Md_mark_77 : decode prog_8_method_10_code 77 = .ok (.iconst (-1), 1) := by decide +kernel
theorem d_Md_mark_78 : decode prog_8_method_10_code 78 = .ok (.goto 25, 3) := by decide +kernel
theorem d_Md_mark_81 : decode prog_8_method_10_code 81 = .ok (.aload_n 0, 1) := by decide +kernel
theorem d_Md_mark_82 : decode prog_8_method_10_code 82 = .ok (.iload_n 1, 1) := by decide +kernel
theorem d_Md_mark_83 : decode prog_8_method_10_code 83 = .ok (.iload_n 2, 1) := by decide +kernel
theorem d_Md_mark_84 : decode prog_8_method_10_code 84 = .ok (.iload 4, 2) := by decide +kernel
theorem d_Md_mark_86 : decode prog_8_method_10_code 86 = .ok (.ifCond .eq 10, 3) := by decide +kernel
theorem d_Md_mark_89 : decode prog_8_method_10_code 89 = .ok (.bipush 10, 2) := by decide +kernel
theorem d_Md_mark_91 : decode prog_8_method_10_code 91 = .ok (.iload_n 3, 1) := by decide +kernel
theorem d_Md_mark_92 : decode prog_8_method_10_code 92 = .ok (.iadd, 1) := by decide +kernel
theorem d_Md_mark_93 : decode prog_8_method_10_code 93 = .ok (.goto 7, 3) := by decide +kernel
theorem d_Md_mark_96 : decode prog_8_method_10_code 96 = .ok (.bipush 20, 2) := by decide +kernel
theorem d_Md_mark_98 : decode prog_8_method_10_code 98 = .ok (.iload_n 3, 1) := by decide +kernel
theorem d_Md_mark_99 : decode prog_8_method_10_code 99 = .ok (.iadd, 1) := by decide +kernel
theorem d_Md_mark_100 : decode prog_8_method_10_code 100 = .ok (.invokevirtual 93, 3) := by decide +kernel
theorem d_Md_mark_103 : decode prog_8_method_10_code 103 = .ok (.ireturn, 1) := by decide +kernel
-- PlayStatesModel.mark(IIIZ)I 
def ws_Md_mark (G : gG) (a_t a_t_truth a_t_helped a_t_counted a_t_told a_t_runs a_t_isOn a_t_tryEntries a_t_tryMarks a_t_text a_t_entries a_t_marked a_t_present a_t_whose a_t_where a_t_what a_t_before a_t_behind : Nat)  (x_t_thrown : Int32) (x_t_places : Int32) (x_t_persons : Int32) (x_t_many : Int32) (x_t_size : Int32) (x_t_at : Int32) (x_t_sought : Int32) (x_t_found : Int32) (x_t_entries : Nat → Int32) (x_t_marked : Nat → Int32) (x_t_present : Nat → Int32) (x_t_whose : Nat → Int32) (x_t_where : Nat → Int32) (x_t_what : Nat → Int32) (x_t_before : Nat → Int32) (x_t_behind : Nat → Int32) : va_W := [(a_t, .inr (6, [.int x_t_thrown, .int x_t_places, .int x_t_persons, .ref a_t_truth, .ref a_t_entries, .ref a_t_marked, .ref a_t_present, .ref a_t_helped, .ref a_t_counted, .ref a_t_told, .ref a_t_runs, .int x_t_many, .ref a_t_whose, .ref a_t_where, .ref a_t_what, .ref a_t_before, .ref a_t_behind, .ref a_t_isOn, .ref a_t_tryEntries, .ref a_t_tryMarks, .int x_t_size, .ref a_t_text, .int x_t_at, .int x_t_sought, .int x_t_found])), (a_t_entries, .inl (G.2 0, 648, .inl x_t_entries)), (a_t_marked, .inl (G.2 0, 648, .inl x_t_marked)), (a_t_present, .inl (G.2 0, 8, .inl x_t_present)), (a_t_whose, .inl (G.2 0, 600, .inl x_t_whose)), (a_t_where, .inl (G.2 0, 600, .inl x_t_where)), (a_t_what, .inl (G.2 0, 600, .inl x_t_what)), (a_t_before, .inl (G.2 0, 600, .inl x_t_before)), (a_t_behind, .inl (G.2 0, 600, .inl x_t_behind))]
def f_Md_mark  (p0 : Int32) (p1 : Int32) (p2 : Int32) (p3 : Int32) (x_t_thrown : Int32) (x_t_places : Int32) (x_t_persons : Int32) (x_t_many : Int32) (x_t_size : Int32) (x_t_at : Int32) (x_t_sought : Int32) (x_t_found : Int32) (x_t_entries : Nat → Int32) (x_t_marked : Nat → Int32) (x_t_present : Nat → Int32) (x_t_whose : Nat → Int32) (x_t_where : Nat → Int32) (x_t_what : Nat → Int32) (x_t_before : Nat → Int32) (x_t_behind : Nat → Int32) : Option (Int32 × Int32 × Int32 × (Nat → Int32) × (Nat → Int32) × (Nat → Int32) × (Nat → Int32) × (Nat → Int32) × (Nat → Int32) × (Nat → Int32) × (Nat → Int32)) :=
  ((f_Md_isPerson p0 (0 : Int32) x_t_places x_t_persons x_t_many x_t_size x_t_at x_t_sought x_t_found).bind fun y1 => (if y1 = 0 then some ((-1 : Int32), (0 : Int32), x_t_many, x_t_entries, x_t_marked, x_t_present, x_t_whose, x_t_where, x_t_what, x_t_before, x_t_behind) else ((f_Md_isPlace p1 (0 : Int32) x_t_places x_t_persons x_t_many x_t_size x_t_at x_t_sought x_t_found).bind fun y3 => (if y3 = 0 then some ((-1 : Int32), (0 : Int32), x_t_many, x_t_entries, x_t_marked, x_t_present, x_t_whose, x_t_where, x_t_what, x_t_before, x_t_behind) else (if p2 < (1 : Int32) then some ((-1 : Int32), (0 : Int32), x_t_many, x_t_entries, x_t_marked, x_t_present, x_t_whose, x_t_where, x_t_what, x_t_before, x_t_behind) else (if (9 : Int32) < p2 then some ((-1 : Int32), (0 : Int32), x_t_many, x_t_entries, x_t_marked, x_t_present, x_t_whose, x_t_where, x_t_what, x_t_before, x_t_behind) else (if x_t_many = (600 : Int32) then some ((-1 : Int32), (0 : Int32), x_t_many, x_t_entries, x_t_marked, x_t_present, x_t_whose, x_t_where, x_t_what, x_t_before, x_t_behind) else (if inB (((81 : Int32) * p0) + p1) 648 then (if (((x_t_marked (((81 : Int32) * p0) + p1).toNatClampNeg) >>> (p2 &&& 31)) &&& (1 : Int32)) = (1 : Int32) then (if (1 : Int32) = p3 then some ((-1 : Int32), (0 : Int32), x_t_many, x_t_entries, x_t_marked, x_t_present, x_t_whose, x_t_where, x_t_what, x_t_before, x_t_behind) else (if p3 = 0 then ((f_Md_addRow p0 p1 ((20 : Int32) + p2) (0 : Int32) x_t_places x_t_persons x_t_many x_t_size x_t_at x_t_sought x_t_found x_t_entries x_t_marked x_t_present x_t_whose x_t_where x_t_what x_t_before x_t_behind).bind fun y16 => some (y16.1, (0 : Int32), y16.2.1, y16.2.2.1, y16.2.2.2.1, y16.2.2.2.2.1, y16.2.2.2.2.2.1, y16.2.2.2.2.2.2.1, y16.2.2.2.2.2.2.2.1, y16.2.2.2.2.2.2.2.2.1, y16.2.2.2.2.2.2.2.2.2)) else ((f_Md_addRow p0 p1 ((10 : Int32) + p2) (0 : Int32) x_t_places x_t_persons x_t_many x_t_size x_t_at x_t_sought x_t_found x_t_entries x_t_marked x_t_present x_t_whose x_t_where x_t_what x_t_before x_t_behind).bind fun y17 => some (y17.1, (0 : Int32), y17.2.1, y17.2.2.1, y17.2.2.2.1, y17.2.2.2.2.1, y17.2.2.2.2.2.1, y17.2.2.2.2.2.2.1, y17.2.2.2.2.2.2.2.1, y17.2.2.2.2.2.2.2.2.1, y17.2.2.2.2.2.2.2.2.2)))) else (if (0 : Int32) = p3 then some ((-1 : Int32), (0 : Int32), x_t_many, x_t_entries, x_t_marked, x_t_present, x_t_whose, x_t_where, x_t_what, x_t_before, x_t_behind) else (if p3 = 0 then ((f_Md_addRow p0 p1 ((20 : Int32) + p2) (0 : Int32) x_t_places x_t_persons x_t_many x_t_size x_t_at x_t_sought x_t_found x_t_entries x_t_marked x_t_present x_t_whose x_t_where x_t_what x_t_before x_t_behind).bind fun y12 => some (y12.1, (0 : Int32), y12.2.1, y12.2.2.1, y12.2.2.2.1, y12.2.2.2.2.1, y12.2.2.2.2.2.1, y12.2.2.2.2.2.2.1, y12.2.2.2.2.2.2.2.1, y12.2.2.2.2.2.2.2.2.1, y12.2.2.2.2.2.2.2.2.2)) else ((f_Md_addRow p0 p1 ((10 : Int32) + p2) (0 : Int32) x_t_places x_t_persons x_t_many x_t_size x_t_at x_t_sought x_t_found x_t_entries x_t_marked x_t_present x_t_whose x_t_where x_t_what x_t_before x_t_behind).bind fun y13 => some (y13.1, (0 : Int32), y13.2.1, y13.2.2.1, y13.2.2.2.1, y13.2.2.2.2.1, y13.2.2.2.2.2.1, y13.2.2.2.2.2.2.1, y13.2.2.2.2.2.2.2.1, y13.2.2.2.2.2.2.2.2.1, y13.2.2.2.2.2.2.2.2.2))))) else none))))))))
set_option maxHeartbeats 4000000 in
set_option maxRecDepth 100000 in
theorem c_Md_mark (l : Launch) (G : gG) (sz : Nat) (a_t a_t_truth a_t_helped a_t_counted a_t_told a_t_runs a_t_isOn a_t_tryEntries a_t_tryMarks a_t_text a_t_entries a_t_marked a_t_present a_t_whose a_t_where a_t_what a_t_before a_t_behind : Nat)  (p0 : Int32) (p1 : Int32) (p2 : Int32) (p3 : Int32) (x_t_thrown : Int32) (x_t_places : Int32) (x_t_persons : Int32) (x_t_many : Int32) (x_t_size : Int32) (x_t_at : Int32) (x_t_sought : Int32) (x_t_found : Int32) (x_t_entries : Nat → Int32) (x_t_marked : Nat → Int32) (x_t_present : Nat → Int32) (x_t_whose : Nat → Int32) (x_t_where : Nat → Int32) (x_t_what : Nat → Int32) (x_t_before : Nat → Int32) (x_t_behind : Nat → Int32) (r : Int32) (x_t_thrown' : Int32) (x_t_many' : Int32) (x_t_entries' : Nat → Int32) (x_t_marked' : Nat → Int32) (x_t_present' : Nat → Int32) (x_t_whose' : Nat → Int32) (x_t_where' : Nat → Int32) (x_t_what' : Nat → Int32) (x_t_before' : Nat → Int32) (x_t_behind' : Nat → Int32) (h : f_Md_mark p0 p1 p2 p3 x_t_thrown x_t_places x_t_persons x_t_many x_t_size x_t_at x_t_sought x_t_found x_t_entries x_t_marked x_t_present x_t_whose x_t_where x_t_what x_t_before x_t_behind = some (r, x_t_thrown', x_t_many', x_t_entries', x_t_marked', x_t_present', x_t_whose', x_t_where', x_t_what', x_t_before', x_t_behind'))  : cN l y_Md_mark w_Md_mark { frames := 2, cells := 0, slots := 0, locals := 47 } G sz [.ref a_t, .int p0, .int p1, .int p2, .int p3] (ws_Md_mark G a_t a_t_truth a_t_helped a_t_counted a_t_told a_t_runs a_t_isOn a_t_tryEntries a_t_tryMarks a_t_text a_t_entries a_t_marked a_t_present a_t_whose a_t_where a_t_what a_t_before a_t_behind x_t_thrown x_t_places x_t_persons x_t_many x_t_size x_t_at x_t_sought x_t_found x_t_entries x_t_marked x_t_present x_t_whose x_t_where x_t_what x_t_before x_t_behind) (some (.int r)) (wB G (ws_Md_mark G a_t a_t_truth a_t_helped a_t_counted a_t_told a_t_runs a_t_isOn a_t_tryEntries a_t_tryMarks a_t_text a_t_entries a_t_marked a_t_present a_t_whose a_t_where a_t_what a_t_before a_t_behind x_t_thrown' x_t_places x_t_persons x_t_many' x_t_size x_t_at x_t_sought x_t_found x_t_entries' x_t_marked' x_t_present' x_t_whose' x_t_where' x_t_what' x_t_before' x_t_behind')) 0 0 := by
  refine cN_ofW (cc := prog_8_method_10_code) (maxL := 6) (ret := (some .int)) (by decide) rfl (Nat.le_of_ble_eq_true rfl) ?_
  intro p e s m args below meth c A H locs ls hx hb hr hts hown hlocks hin hml hK hN hP hD hA hS hl
  replace hl : lv_has ls 6 [(0, .ref a_t), (1, .int p0), (2, .int p1), (3, .int p2), (4, .int p3)] := hl
  replace hown : s.vm.findClass "PlayStatesModel" = some m.cls := hown
  unfold f_Md_mark at h
  refine lv_aload_n hx hb d_Md_mark_0 rfl (lv_at hl 0 rfl) ?_
  refine lv_iconst (v := (0 : Int32)) hx hb d_Md_mark_1 (by decide) ?_
  refine va_put (D := G.1) (ci := 6) (v := .int (0 : Int32)) (ty := .int) (C := "PlayStatesModel") (T := TMd) (N := 25) hx hb hts iw_6 tyMd tyMd_ok nmMd hown hK hP hD hS 0 rfl rfl 0 (by decide) (hts _ gw_379) (fun _ h9 => h9) rfl (by decide +kernel) (by rfl) (by rfl) (Nat.le_of_ble_eq_true rfl) d_Md_mark_2 (fun H locs hP hD hS => ?_)
  replace hP : va_P G.1 vwCl (ws_Md_mark G a_t a_t_truth a_t_helped a_t_counted a_t_told a_t_runs a_t_isOn a_t_tryEntries a_t_tryMarks a_t_text a_t_entries a_t_marked a_t_present a_t_whose a_t_where a_t_what a_t_before a_t_behind (0 : Int32) x_t_places x_t_persons x_t_many x_t_size x_t_at x_t_sought x_t_found x_t_entries x_t_marked x_t_present x_t_whose x_t_where x_t_what x_t_before x_t_behind) H := hP
  replace hD : va_D A (ws_Md_mark G a_t a_t_truth a_t_helped a_t_counted a_t_told a_t_runs a_t_isOn a_t_tryEntries a_t_tryMarks a_t_text a_t_entries a_t_marked a_t_present a_t_whose a_t_where a_t_what a_t_before a_t_behind (0 : Int32) x_t_places x_t_persons x_t_many x_t_size x_t_at x_t_sought x_t_found x_t_entries x_t_marked x_t_present x_t_whose x_t_where x_t_what x_t_before x_t_behind) := hD
  refine lv_aload_n hx hb d_Md_mark_5 rfl (lv_at hl 0 rfl) ?_
  refine lv_iload_n hx hb d_Md_mark_6 rfl (lv_at hl 1 rfl) ?_
  obtain ⟨y1, hy1, h⟩ := o_bind h
  have hPc := hP.sub (ws' := (ws_Md_isPerson G a_t a_t_truth a_t_entries a_t_marked a_t_present a_t_helped a_t_counted a_t_told a_t_runs a_t_whose a_t_where a_t_what a_t_before a_t_behind a_t_isOn a_t_tryEntries a_t_tryMarks a_t_text (0 : Int32) x_t_places x_t_persons x_t_many x_t_size x_t_at x_t_sought x_t_found)) [0] rfl
  have hDc := hD.sub (ws' := (ws_Md_isPerson G a_t a_t_truth a_t_entries a_t_marked a_t_present a_t_helped a_t_counted a_t_told a_t_runs a_t_whose a_t_where a_t_what a_t_before a_t_behind a_t_isOn a_t_tryEntries a_t_tryMarks a_t_text (0 : Int32) x_t_places x_t_persons x_t_many x_t_size x_t_at x_t_sought x_t_found)) [0] (by decide) rfl
  have hFc := va_free (wc := (ws_Md_isPerson G a_t a_t_truth a_t_entries a_t_marked a_t_present a_t_helped a_t_counted a_t_told a_t_runs a_t_whose a_t_where a_t_what a_t_before a_t_behind a_t_isOn a_t_tryEntries a_t_tryMarks a_t_text (0 : Int32) x_t_places x_t_persons x_t_many x_t_size x_t_at x_t_sought x_t_found)) hD hS hA [0] rfl
  refine q_call1 (va_runV (As := [.int p0]) (rest := []) ⟨hx, hb, hml, hown, hts⟩ (c_Md_isPerson l G H.size a_t a_t_truth a_t_entries a_t_marked a_t_present a_t_helped a_t_counted a_t_told a_t_runs a_t_whose a_t_where a_t_what a_t_before a_t_behind a_t_isOn a_t_tryEntries a_t_tryMarks a_t_text p0 (0 : Int32) x_t_places x_t_persons x_t_many x_t_size x_t_at x_t_sought x_t_found _ hy1) (cwV 1 hts (gV gw_441 gw_442 gw_17 gw_36 gw_443) rfl rfl rfl (by decide +kernel) ⟨Nat.le_of_ble_eq_true rfl, Nat.le_of_ble_eq_true rfl⟩) (pV hK hN hPc hDc (ci := 6) (q0 := 0) rfl rfl) rfl rfl hl.1 rfl (lv_room (Nat.le_of_ble_eq_true rfl)) d_Md_mark_7 ⟨Nat.le_of_ble_eq_true rfl, Nat.le_of_ble_eq_true rfl⟩) hS (fun q _ h => hFc q h) hFc (fun H1 locs hB hz hk hS => ?_)
  obtain ⟨hP, hD⟩ := q_join (wr := [(a_t_entries, .inl (G.2 0, 648, .inl x_t_entries)), (a_t_marked, .inl (G.2 0, 648, .inl x_t_marked)), (a_t_present, .inl (G.2 0, 8, .inl x_t_present)), (a_t_whose, .inl (G.2 0, 600, .inl x_t_whose)), (a_t_where, .inl (G.2 0, 600, .inl x_t_where)), (a_t_what, .inl (G.2 0, 600, .inl x_t_what)), (a_t_before, .inl (G.2 0, 600, .inl x_t_before)), (a_t_behind, .inl (G.2 0, 600, .inl x_t_behind))]) (wn := (ws_Md_mark G a_t a_t_truth a_t_helped a_t_counted a_t_told a_t_runs a_t_isOn a_t_tryEntries a_t_tryMarks a_t_text a_t_entries a_t_marked a_t_present a_t_whose a_t_where a_t_what a_t_before a_t_behind (0 : Int32) x_t_places x_t_persons x_t_many x_t_size x_t_at x_t_sought x_t_found x_t_entries x_t_marked x_t_present x_t_whose x_t_where x_t_what x_t_before x_t_behind)) hP hD [0] [1, 2, 3, 4, 5, 6, 7, 8] [8, 0, 1, 2, 3, 4, 5, 6, 7] rfl rfl (by decide) (by decide) rfl (by decide) hk hFc hB.1 hB.2
  generalize H1 = H at hP hS ⊢
  replace hP : va_P G.1 vwCl (ws_Md_mark G a_t a_t_truth a_t_helped a_t_counted a_t_told a_t_runs a_t_isOn a_t_tryEntries a_t_tryMarks a_t_text a_t_entries a_t_marked a_t_present a_t_whose a_t_where a_t_what a_t_before a_t_behind (0 : Int32) x_t_places x_t_persons x_t_many x_t_size x_t_at x_t_sought x_t_found x_t_entries x_t_marked x_t_present x_t_whose x_t_where x_t_what x_t_before x_t_behind) H := hP
  replace hD : va_D A (ws_Md_mark G a_t a_t_truth a_t_helped a_t_counted a_t_told a_t_runs a_t_isOn a_t_tryEntries a_t_tryMarks a_t_text a_t_entries a_t_marked a_t_present a_t_whose a_t_where a_t_what a_t_before a_t_behind (0 : Int32) x_t_places x_t_persons x_t_many x_t_size x_t_at x_t_sought x_t_found x_t_entries x_t_marked x_t_present x_t_whose x_t_where x_t_what x_t_before x_t_behind) := hD
  refine lv_if_eq (tgt := 42) hx hb d_Md_mark_10 (by decide) (fun c2 => ?_) (fun c2 => ?_)
  · replace h := (if_pos c2).symm.trans h
    refine lv_iconst (v := (-1 : Int32)) hx hb d_Md_mark_42 (by decide) ?_
    cases h
    exact q_iretW hx hb hr hlocks hP hD hS d_Md_mark_43
  · replace h := (if_neg c2).symm.trans h
    refine lv_aload_n hx hb d_Md_mark_13 rfl (lv_at hl 0 rfl) ?_
    refine lv_iload_n hx hb d_Md_mark_14 rfl (lv_at hl 2 rfl) ?_
    obtain ⟨y3, hy3, h⟩ := o_bind h
    have hPc := hP.sub (ws' := (ws_Md_isPlace G a_t a_t_truth a_t_entries a_t_marked a_t_present a_t_helped a_t_counted a_t_told a_t_runs a_t_whose a_t_where a_t_what a_t_before a_t_behind a_t_isOn a_t_tryEntries a_t_tryMarks a_t_text (0 : Int32) x_t_places x_t_persons x_t_many x_t_size x_t_at x_t_sought x_t_found)) [0] rfl
    have hDc := hD.sub (ws' := (ws_Md_isPlace G a_t a_t_truth a_t_entries a_t_marked a_t_present a_t_helped a_t_counted a_t_told a_t_runs a_t_whose a_t_where a_t_what a_t_before a_t_behind a_t_isOn a_t_tryEntries a_t_tryMarks a_t_text (0 : Int32) x_t_places x_t_persons x_t_many x_t_size x_t_at x_t_sought x_t_found)) [0] (by decide) rfl
    have hFc := va_free (wc := (ws_Md_isPlace G a_t a_t_truth a_t_entries a_t_marked a_t_present a_t_helped a_t_counted a_t_told a_t_runs a_t_whose a_t_where a_t_what a_t_before a_t_behind a_t_isOn a_t_tryEntries a_t_tryMarks a_t_text (0 : Int32) x_t_places x_t_persons x_t_many x_t_size x_t_at x_t_sought x_t_found)) hD hS hA [0] rfl
    refine q_call1 (va_runV (As := [.int p1]) (rest := []) ⟨hx, hb, hml, hown, hts⟩ (c_Md_isPlace l G H.size a_t a_t_truth a_t_entries a_t_marked a_t_present a_t_helped a_t_counted a_t_told a_t_runs a_t_whose a_t_where a_t_what a_t_before a_t_behind a_t_isOn a_t_tryEntries a_t_tryMarks a_t_text p1 (0 : Int32) x_t_places x_t_persons x_t_many x_t_size x_t_at x_t_sought x_t_found _ hy3) (cwV 1 hts (gV gw_444 gw_445 gw_18 gw_36 gw_446) rfl rfl rfl (by decide +kernel) ⟨Nat.le_of_ble_eq_true rfl, Nat.le_of_ble_eq_true rfl⟩) (pV hK hN hPc hDc (ci := 6) (q0 := 0) rfl rfl) rfl rfl hl.1 rfl (lv_room (Nat.le_of_ble_eq_true rfl)) d_Md_mark_15 ⟨Nat.le_of_ble_eq_true rfl, Nat.le_of_ble_eq_true rfl⟩) hS (fun q _ h => hFc q h) hFc (fun H1 locs hB hz hk hS => ?_)
    obtain ⟨hP, hD⟩ := q_join (wr := [(a_t_entries, .inl (G.2 0, 648, .inl x_t_entries)), (a_t_marked, .inl (G.2 0, 648, .inl x_t_marked)), (a_t_present, .inl (G.2 0, 8, .inl x_t_present)), (a_t_whose, .inl (G.2 0, 600, .inl x_t_whose)), (a_t_where, .inl (G.2 0, 600, .inl x_t_where)), (a_t_what, .inl (G.2 0, 600, .inl x_t_what)), (a_t_before, .inl (G.2 0, 600, .inl x_t_before)), (a_t_behind, .inl (G.2 0, 600, .inl x_t_behind))]) (wn := (ws_Md_mark G a_t a_t_truth a_t_helped a_t_counted a_t_told a_t_runs a_t_isOn a_t_tryEntries a_t_tryMarks a_t_text a_t_entries a_t_marked a_t_present a_t_whose a_t_where a_t_what a_t_before a_t_behind (0 : Int32) x_t_places x_t_persons x_t_many x_t_size x_t_at x_t_sought x_t_found x_t_entries x_t_marked x_t_present x_t_whose x_t_where x_t_what x_t_before x_t_behind)) hP hD [0] [1, 2, 3, 4, 5, 6, 7, 8] [8, 0, 1, 2, 3, 4, 5, 6, 7] rfl rfl (by decide) (by decide) rfl (by decide) hk hFc hB.1 hB.2
    generalize H1 = H at hP hS ⊢
    replace hP : va_P G.1 vwCl (ws_Md_mark G a_t a_t_truth a_t_helped a_t_counted a_t_told a_t_runs a_t_isOn a_t_tryEntries a_t_tryMarks a_t_text a_t_entries a_t_marked a_t_present a_t_whose a_t_where a_t_what a_t_before a_t_behind (0 : Int32) x_t_places x_t_persons x_t_many x_t_size x_t_at x_t_sought x_t_found x_t_entries x_t_marked x_t_present x_t_whose x_t_where x_t_what x_t_before x_t_behind) H := hP
    replace hD : va_D A (ws_Md_mark G a_t a_t_truth a_t_helped a_t_counted a_t_told a_t_runs a_t_isOn a_t_tryEntries a_t_tryMarks a_t_text a_t_entries a_t_marked a_t_present a_t_whose a_t_where a_t_what a_t_before a_t_behind (0 : Int32) x_t_places x_t_persons x_t_many x_t_size x_t_at x_t_sought x_t_found x_t_entries x_t_marked x_t_present x_t_whose x_t_where x_t_what x_t_before x_t_behind) := hD
    refine lv_if_eq (tgt := 42) hx hb d_Md_mark_18 (by decide) (fun c4 => ?_) (fun c4 => ?_)
    · replace h := (if_pos c4).symm.trans h
      refine lv_iconst (v := (-1 : Int32)) hx hb d_Md_mark_42 (by decide) ?_
      cases h
      exact q_iretW hx hb hr hlocks hP hD hS d_Md_mark_43
    · replace h := (if_neg c4).symm.trans h
      refine lv_iload_n hx hb d_Md_mark_21 rfl (lv_at hl 3 rfl) ?_
      refine lv_iconst (v := (1 : Int32)) hx hb d_Md_mark_22 (by decide) ?_
      refine lv_icmp_lt (tgt := 42) hx hb d_Md_mark_23 (by decide) (fun c5 => ?_) (fun c5 => ?_)
      · replace h := (if_pos c5).symm.trans h
        refine lv_iconst (v := (-1 : Int32)) hx hb d_Md_mark_42 (by decide) ?_
        cases h
        exact q_iretW hx hb hr hlocks hP hD hS d_Md_mark_43
      · replace h := (if_neg c5).symm.trans h
        refine lv_iload_n hx hb d_Md_mark_26 rfl (lv_at hl 3 rfl) ?_
        refine lv_bipush (v := (9 : Int32)) hx hb d_Md_mark_27 (by decide) ?_
        refine lv_icmp_gt (tgt := 42) hx hb d_Md_mark_29 (by decide) (fun c6 => ?_) (fun c6 => ?_)
        · replace h := (if_pos c6).symm.trans h
          refine lv_iconst (v := (-1 : Int32)) hx hb d_Md_mark_42 (by decide) ?_
          cases h
          exact q_iretW hx hb hr hlocks hP hD hS d_Md_mark_43
        · replace h := (if_neg c6).symm.trans h
          refine lv_aload_n hx hb d_Md_mark_32 rfl (lv_at hl 0 rfl) ?_
          refine va_get (D := G.1) (ci := 6) (v := .int x_t_many) (C := "PlayStatesModel") (T := TMd) (N := 25) hx hb hts iw_6 hown hK hP 0 rfl rfl 11 (by decide) (hts _ gw_390) (fun _ h9 => h9) rfl d_Md_mark_33 ?_
          refine lv_sipush (v := (600 : Int32)) hx hb d_Md_mark_36 (by decide) ?_
          refine lv_icmp_ne (tgt := 44) hx hb d_Md_mark_39 (by decide) (fun c7 => ?_) (fun c7 => ?_)
          · replace h := (if_neg c7).symm.trans h
            refine lv_aload_n hx hb d_Md_mark_44 rfl (lv_at hl 0 rfl) ?_
            refine va_get (D := G.1) (ci := 6) (v := .ref a_t_marked) (C := "PlayStatesModel") (T := TMd) (N := 25) hx hb hts iw_6 hown hK hP 0 rfl rfl 5 (by decide) (hts _ gw_384) (fun _ h9 => h9) rfl d_Md_mark_45 ?_
            refine lv_bipush (v := (81 : Int32)) hx hb d_Md_mark_48 (by decide) ?_
            refine lv_iload_n hx hb d_Md_mark_50 rfl (lv_at hl 1 rfl) ?_
            refine lv_imul hx hb d_Md_mark_51 ?_
            refine lv_iload_n hx hb d_Md_mark_52 rfl (lv_at hl 2 rfl) ?_
            refine lv_iadd hx hb d_Md_mark_53 ?_
            obtain ⟨i8, h⟩ := o_if h
            refine va_iald (n := 648) (f := x_t_marked) hx hb hK hP 2 0 rfl rfl i8 d_Md_mark_54 ?_
            refine lv_iload_n hx hb d_Md_mark_55 rfl (lv_at hl 3 rfl) ?_
            refine lv_ishr hx hb d_Md_mark_56 ?_
            refine lv_iconst (v := (1 : Int32)) hx hb d_Md_mark_57 (by decide) ?_
            refine lv_iand hx hb d_Md_mark_58 ?_
            refine lv_iconst (v := (1 : Int32)) hx hb d_Md_mark_59 (by decide) ?_
            refine lv_icmp_ne (tgt := 67) hx hb d_Md_mark_60 (by decide) (fun c9 => ?_) (fun c9 => ?_)
            · replace h := (if_neg c9).symm.trans h
              refine lv_iconst (v := (0 : Int32)) hx hb d_Md_mark_67 (by decide) ?_
              refine lv_istore (lv' := [(5, .int (0 : Int32)), (0, .ref a_t), (1, .int p0), (2, .int p1), (3, .int p2), (4, .int p3)]) hx hb d_Md_mark_68 hl (by decide) rfl (fun ls hl => ?_)
              refine lv_iload hx hb d_Md_mark_70 (lv_at hl 0 rfl) ?_
              refine lv_iload hx hb d_Md_mark_72 (lv_at hl 5 rfl) ?_
              refine lv_icmp_ne (tgt := 81) hx hb d_Md_mark_74 (by decide) (fun c10 => ?_) (fun c10 => ?_)
              · replace h := (if_neg c10).symm.trans h
                refine lv_aload_n hx hb d_Md_mark_81 rfl (lv_at hl 1 rfl) ?_
                refine lv_iload_n hx hb d_Md_mark_82 rfl (lv_at hl 2 rfl) ?_
                refine lv_iload_n hx hb d_Md_mark_83 rfl (lv_at hl 3 rfl) ?_
                refine lv_iload hx hb d_Md_mark_84 (lv_at hl 5 rfl) ?_
                refine lv_if_eq (tgt := 96) hx hb d_Md_mark_86 (by decide) (fun c11 => ?_) (fun c11 => ?_)
                · replace h := (if_pos c11).symm.trans h
                  refine lv_bipush (v := (20 : Int32)) hx hb d_Md_mark_96 (by decide) ?_
                  refine lv_iload_n hx hb d_Md_mark_98 rfl (lv_at hl 4 rfl) ?_
                  refine lv_iadd hx hb d_Md_mark_99 ?_
                  obtain ⟨y12, hy12, h⟩ := o_bind h
                  have hPc := hP.sub (ws' := (ws_Md_addRow G a_t a_t_truth a_t_helped a_t_counted a_t_told a_t_runs a_t_isOn a_t_tryEntries a_t_tryMarks a_t_text a_t_entries a_t_marked a_t_present a_t_whose a_t_where a_t_what a_t_before a_t_behind (0 : Int32) x_t_places x_t_persons x_t_many x_t_size x_t_at x_t_sought x_t_found x_t_entries x_t_marked x_t_present x_t_whose x_t_where x_t_what x_t_before x_t_behind)) [0, 1, 2, 3, 4, 5, 6, 7, 8] rfl
                  have hDc := hD.sub (ws' := (ws_Md_addRow G a_t a_t_truth a_t_helped a_t_counted a_t_told a_t_runs a_t_isOn a_t_tryEntries a_t_tryMarks a_t_text a_t_entries a_t_marked a_t_present a_t_whose a_t_where a_t_what a_t_before a_t_behind (0 : Int32) x_t_places x_t_persons x_t_many x_t_size x_t_at x_t_sought x_t_found x_t_entries x_t_marked x_t_present x_t_whose x_t_where x_t_what x_t_before x_t_behind)) [0, 1, 2, 3, 4, 5, 6, 7, 8] (by decide) rfl
                  have hFc := va_free (wc := (ws_Md_addRow G a_t a_t_truth a_t_helped a_t_counted a_t_told a_t_runs a_t_isOn a_t_tryEntries a_t_tryMarks a_t_text a_t_entries a_t_marked a_t_present a_t_whose a_t_where a_t_what a_t_before a_t_behind (0 : Int32) x_t_places x_t_persons x_t_many x_t_size x_t_at x_t_sought x_t_found x_t_entries x_t_marked x_t_present x_t_whose x_t_where x_t_what x_t_before x_t_behind)) hD hS hA [0, 1, 2, 3, 4, 5, 6, 7, 8] rfl
                  refine q_call1 (va_runV (As := [.int p0, .int p1, .int ((20 : Int32) + p2)]) (rest := []) ⟨hx, hb, hml, hown, hts⟩ (c_Md_addRow l G H.size a_t a_t_truth a_t_helped a_t_counted a_t_told a_t_runs a_t_isOn a_t_tryEntries a_t_tryMarks a_t_text a_t_entries a_t_marked a_t_present a_t_whose a_t_where a_t_what a_t_before a_t_behind p0 p1 ((20 : Int32) + p2) (0 : Int32) x_t_places x_t_persons x_t_many x_t_size x_t_at x_t_sought x_t_found x_t_entries x_t_marked x_t_present x_t_whose x_t_where x_t_what x_t_before x_t_behind _ _ _ _ _ _ _ _ _ _ hy12) (cwV 3 hts (gV gw_447 gw_448 gw_19 gw_36 gw_449) rfl rfl rfl (by decide +kernel) ⟨Nat.le_of_ble_eq_true rfl, Nat.le_of_ble_eq_true rfl⟩) (pV hK hN hPc hDc (ci := 6) (q0 := 0) rfl rfl) rfl rfl hl.1 rfl (lv_room (Nat.le_of_ble_eq_true rfl)) d_Md_mark_100 ⟨Nat.le_of_ble_eq_true rfl, Nat.le_of_ble_eq_true rfl⟩) hS (fun q _ h => hFc q h) hFc (fun H1 locs hB hz hk hS => ?_)
                  obtain ⟨hP, hD⟩ := q_joinA hFc hB.1 hB.2
                  generalize H1 = H at hP hS ⊢
                  replace hP : va_P G.1 vwCl (ws_Md_mark G a_t a_t_truth a_t_helped a_t_counted a_t_told a_t_runs a_t_isOn a_t_tryEntries a_t_tryMarks a_t_text a_t_entries a_t_marked a_t_present a_t_whose a_t_where a_t_what a_t_before a_t_behind (0 : Int32) x_t_places x_t_persons y12.2.1 x_t_size x_t_at x_t_sought x_t_found y12.2.2.1 y12.2.2.2.1 y12.2.2.2.2.1 y12.2.2.2.2.2.1 y12.2.2.2.2.2.2.1 y12.2.2.2.2.2.2.2.1 y12.2.2.2.2.2.2.2.2.1 y12.2.2.2.2.2.2.2.2.2) H := hP
                  replace hD : va_D A (ws_Md_mark G a_t a_t_truth a_t_helped a_t_counted a_t_told a_t_runs a_t_isOn a_t_tryEntries a_t_tryMarks a_t_text a_t_entries a_t_marked a_t_present a_t_whose a_t_where a_t_what a_t_before a_t_behind (0 : Int32) x_t_places x_t_persons y12.2.1 x_t_size x_t_at x_t_sought x_t_found y12.2.2.1 y12.2.2.2.1 y12.2.2.2.2.1 y12.2.2.2.2.2.1 y12.2.2.2.2.2.2.1 y12.2.2.2.2.2.2.2.1 y12.2.2.2.2.2.2.2.2.1 y12.2.2.2.2.2.2.2.2.2) := hD
                  cases h
                  exact q_iretW hx hb hr hlocks hP hD hS d_Md_mark_103
                · replace h := (if_neg c11).symm.trans h
                  refine lv_bipush (v := (10 : Int32)) hx hb d_Md_mark_89 (by decide) ?_
                  refine lv_iload_n hx hb d_Md_mark_91 rfl (lv_at hl 4 rfl) ?_
                  refine lv_iadd hx hb d_Md_mark_92 ?_
                  refine lv_goto (tgt := 100) hx hb d_Md_mark_93 (by decide) ?_
                  obtain ⟨y13, hy13, h⟩ := o_bind h
                  have hPc := hP.sub (ws' := (ws_Md_addRow G a_t a_t_truth a_t_helped a_t_counted a_t_told a_t_runs a_t_isOn a_t_tryEntries a_t_tryMarks a_t_text a_t_entries a_t_marked a_t_present a_t_whose a_t_where a_t_what a_t_before a_t_behind (0 : Int32) x_t_places x_t_persons x_t_many x_t_size x_t_at x_t_sought x_t_found x_t_entries x_t_marked x_t_present x_t_whose x_t_where x_t_what x_t_before x_t_behind)) [0, 1, 2, 3, 4, 5, 6, 7, 8] rfl
                  have hDc := hD.sub (ws' := (ws_Md_addRow G a_t a_t_truth a_t_helped a_t_counted a_t_told a_t_runs a_t_isOn a_t_tryEntries a_t_tryMarks a_t_text a_t_entries a_t_marked a_t_present a_t_whose a_t_where a_t_what a_t_before a_t_behind (0 : Int32) x_t_places x_t_persons x_t_many x_t_size x_t_at x_t_sought x_t_found x_t_entries x_t_marked x_t_present x_t_whose x_t_where x_t_what x_t_before x_t_behind)) [0, 1, 2, 3, 4, 5, 6, 7, 8] (by decide) rfl
                  have hFc := va_free (wc := (ws_Md_addRow G a_t a_t_truth a_t_helped a_t_counted a_t_told a_t_runs a_t_isOn a_t_tryEntries a_t_tryMarks a_t_text a_t_entries a_t_marked a_t_present a_t_whose a_t_where a_t_what a_t_before a_t_behind (0 : Int32) x_t_places x_t_persons x_t_many x_t_size x_t_at x_t_sought x_t_found x_t_entries x_t_marked x_t_present x_t_whose x_t_where x_t_what x_t_before x_t_behind)) hD hS hA [0, 1, 2, 3, 4, 5, 6, 7, 8] rfl
                  refine q_call1 (va_runV (As := [.int p0, .int p1, .int ((10 : Int32) + p2)]) (rest := []) ⟨hx, hb, hml, hown, hts⟩ (c_Md_addRow l G H.size a_t a_t_truth a_t_helped a_t_counted a_t_told a_t_runs a_t_isOn a_t_tryEntries a_t_tryMarks a_t_text a_t_entries a_t_marked a_t_present a_t_whose a_t_where a_t_what a_t_before a_t_behind p0 p1 ((10 : Int32) + p2) (0 : Int32) x_t_places x_t_persons x_t_many x_t_size x_t_at x_t_sought x_t_found x_t_entries x_t_marked x_t_present x_t_whose x_t_where x_t_what x_t_before x_t_behind _ _ _ _ _ _ _ _ _ _ hy13) (cwV 3 hts (gV gw_447 gw_448 gw_19 gw_36 gw_449) rfl rfl rfl (by decide +kernel) ⟨Nat.le_of_ble_eq_true rfl, Nat.le_of_ble_eq_true rfl⟩) (pV hK hN hPc hDc (ci := 6) (q0 := 0) rfl rfl) rfl rfl hl.1 rfl (lv_room (Nat.le_of_ble_eq_true rfl)) d_Md_mark_100 ⟨Nat.le_of_ble_eq_true rfl, Nat.le_of_ble_eq_true rfl⟩) hS (fun q _ h => hFc q h) hFc (fun H1 locs hB hz hk hS => ?_)
                  obtain ⟨hP, hD⟩ := q_joinA hFc hB.1 hB.2
                  generalize H1 = H at hP hS ⊢
                  replace hP : va_P G.1 vwCl (ws_Md_mark G a_t a_t_truth a_t_helped a_t_counted a_t_told a_t_runs a_t_isOn a_t_tryEntries a_t_tryMarks a_t_text a_t_entries a_t_marked a_t_present a_t_whose a_t_where a_t_what a_t_before a_t_behind (0 : Int32) x_t_places x_t_persons y13.2.1 x_t_size x_t_at x_t_sought x_t_found y13.2.2.1 y13.2.2.2.1 y13.2.2.2.2.1 y13.2.2.2.2.2.1 y13.2.2.2.2.2.2.1 y13.2.2.2.2.2.2.2.1 y13.2.2.2.2.2.2.2.2.1 y13.2.2.2.2.2.2.2.2.2) H := hP
                  replace hD : va_D A (ws_Md_mark G a_t a_t_truth a_t_helped a_t_counted a_t_told a_t_runs a_t_isOn a_t_tryEntries a_t_tryMarks a_t_text a_t_entries a_t_marked a_t_present a_t_whose a_t_where a_t_what a_t_before a_t_behind (0 : Int32) x_t_places x_t_persons y13.2.1 x_t_size x_t_at x_t_sought x_t_found y13.2.2.1 y13.2.2.2.1 y13.2.2.2.2.1 y13.2.2.2.2.2.1 y13.2.2.2.2.2.2.1 y13.2.2.2.2.2.2.2.1 y13.2.2.2.2.2.2.2.2.1 y13.2.2.2.2.2.2.2.2.2) := hD
                  cases h
                  exact q_iretW hx hb hr hlocks hP hD hS d_Md_mark_103
              · replace h := (if_pos c10).symm.trans h
                refine lv_iconst (v := (-1 : Int32)) hx hb d_Md_mark_77 (by decide) ?_
                refine lv_goto (tgt := 103) hx hb d_Md_mark_78 (by decide) ?_
                cases h
                exact q_iretW hx hb hr hlocks hP hD hS d_Md_mark_103
            · replace h := (if_pos c9).symm.trans h
              refine lv_iconst (v := (1 : Int32)) hx hb d_Md_mark_63 (by decide) ?_
              refine lv_goto (tgt := 68) hx hb d_Md_mark_64 (by decide) ?_
              refine lv_istore (lv' := [(5, .int (1 : Int32)), (0, .ref a_t), (1, .int p0), (2, .int p1), (3, .int p2), (4, .int p3)]) hx hb d_Md_mark_68 hl (by decide) rfl (fun ls hl => ?_)
              refine lv_iload hx hb d_Md_mark_70 (lv_at hl 0 rfl) ?_
              refine lv_iload hx hb d_Md_mark_72 (lv_at hl 5 rfl) ?_
              refine lv_icmp_ne (tgt := 81) hx hb d_Md_mark_74 (by decide) (fun c14 => ?_) (fun c14 => ?_)
              · replace h := (if_neg c14).symm.trans h
                refine lv_aload_n hx hb d_Md_mark_81 rfl (lv_at hl 1 rfl) ?_
                refine lv_iload_n hx hb d_Md_mark_82 rfl (lv_at hl 2 rfl) ?_
                refine lv_iload_n hx hb d_Md_mark_83 rfl (lv_at hl 3 rfl) ?_
                refine lv_iload hx hb d_Md_mark_84 (lv_at hl 5 rfl) ?_
                refine lv_if_eq (tgt := 96) hx hb d_Md_mark_86 (by decide) (fun c15 => ?_) (fun c15 => ?_)
                · replace h := (if_pos c15).symm.trans h
                  refine lv_bipush (v := (20 : Int32)) hx hb d_Md_mark_96 (by decide) ?_
                  refine lv_iload_n hx hb d_Md_mark_98 rfl (lv_at hl 4 rfl) ?_
                  refine lv_iadd hx hb d_Md_mark_99 ?_
                  obtain ⟨y16, hy16, h⟩ := o_bind h
                  have hPc := hP.sub (ws' := (ws_Md_addRow G a_t a_t_truth a_t_helped a_t_counted a_t_told a_t_runs a_t_isOn a_t_tryEntries a_t_tryMarks a_t_text a_t_entries a_t_marked a_t_present a_t_whose a_t_where a_t_what a_t_before a_t_behind (0 : Int32) x_t_places x_t_persons x_t_many x_t_size x_t_at x_t_sought x_t_found x_t_entries x_t_marked x_t_present x_t_whose x_t_where x_t_what x_t_before x_t_behind)) [0, 1, 2, 3, 4, 5, 6, 7, 8] rfl
                  have hDc := hD.sub (ws' := (ws_Md_addRow G a_t a_t_truth a_t_helped a_t_counted a_t_told a_t_runs a_t_isOn a_t_tryEntries a_t_tryMarks a_t_text a_t_entries a_t_marked a_t_present a_t_whose a_t_where a_t_what a_t_before a_t_behind (0 : Int32) x_t_places x_t_persons x_t_many x_t_size x_t_at x_t_sought x_t_found x_t_entries x_t_marked x_t_present x_t_whose x_t_where x_t_what x_t_before x_t_behind)) [0, 1, 2, 3, 4, 5, 6, 7, 8] (by decide) rfl
                  have hFc := va_free (wc := (ws_Md_addRow G a_t a_t_truth a_t_helped a_t_counted a_t_told a_t_runs a_t_isOn a_t_tryEntries a_t_tryMarks a_t_text a_t_entries a_t_marked a_t_present a_t_whose a_t_where a_t_what a_t_before a_t_behind (0 : Int32) x_t_places x_t_persons x_t_many x_t_size x_t_at x_t_sought x_t_found x_t_entries x_t_marked x_t_present x_t_whose x_t_where x_t_what x_t_before x_t_behind)) hD hS hA [0, 1, 2, 3, 4, 5, 6, 7, 8] rfl
                  refine q_call1 (va_runV (As := [.int p0, .int p1, .int ((20 : Int32) + p2)]) (rest := []) ⟨hx, hb, hml, hown, hts⟩ (c_Md_addRow l G H.size a_t a_t_truth a_t_helped a_t_counted a_t_told a_t_runs a_t_isOn a_t_tryEntries a_t_tryMarks a_t_text a_t_entries a_t_marked a_t_present a_t_whose a_t_where a_t_what a_t_before a_t_behind p0 p1 ((20 : Int32) + p2) (0 : Int32) x_t_places x_t_persons x_t_many x_t_size x_t_at x_t_sought x_t_found x_t_entries x_t_marked x_t_present x_t_whose x_t_where x_t_what x_t_before x_t_behind _ _ _ _ _ _ _ _ _ _ hy16) (cwV 3 hts (gV gw_447 gw_448 gw_19 gw_36 gw_449) rfl rfl rfl (by decide +kernel) ⟨Nat.le_of_ble_eq_true rfl, Nat.le_of_ble_eq_true rfl⟩) (pV hK hN hPc hDc (ci := 6) (q0 := 0) rfl rfl) rfl rfl hl.1 rfl (lv_room (Nat.le_of_ble_eq_true rfl)) d_Md_mark_100 ⟨Nat.le_of_ble_eq_true rfl, Nat.le_of_ble_eq_true rfl⟩) hS (fun q _ h => hFc q h) hFc (fun H1 locs hB hz hk hS => ?_)
                  obtain ⟨hP, hD⟩ := q_joinA hFc hB.1 hB.2
                  generalize H1 = H at hP hS ⊢
                  replace hP : va_P G.1 vwCl (ws_Md_mark G a_t a_t_truth a_t_helped a_t_counted a_t_told a_t_runs a_t_isOn a_t_tryEntries a_t_tryMarks a_t_text a_t_entries a_t_marked a_t_present a_t_whose a_t_where a_t_what a_t_before a_t_behind (0 : Int32) x_t_places x_t_persons y16.2.1 x_t_size x_t_at x_t_sought x_t_found y16.2.2.1 y16.2.2.2.1 y16.2.2.2.2.1 y16.2.2.2.2.2.1 y16.2.2.2.2.2.2.1 y16.2.2.2.2.2.2.2.1 y16.2.2.2.2.2.2.2.2.1 y16.2.2.2.2.2.2.2.2.2) H := hP
                  replace hD : va_D A (ws_Md_mark G a_t a_t_truth a_t_helped a_t_counted a_t_told a_t_runs a_t_isOn a_t_tryEntries a_t_tryMarks a_t_text a_t_entries a_t_marked a_t_present a_t_whose a_t_where a_t_what a_t_before a_t_behind (0 : Int32) x_t_places x_t_persons y16.2.1 x_t_size x_t_at x_t_sought x_t_found y16.2.2.1 y16.2.2.2.1 y16.2.2.2.2.1 y16.2.2.2.2.2.1 y16.2.2.2.2.2.2.1 y16.2.2.2.2.2.2.2.1 y16.2.2.2.2.2.2.2.2.1 y16.2.2.2.2.2.2.2.2.2) := hD
                  cases h
                  exact q_iretW hx hb hr hlocks hP hD hS d_Md_mark_103
                · replace h := (if_neg c15).symm.trans h
                  refine lv_bipush (v := (10 : Int32)) hx hb d_Md_mark_89 (by decide) ?_
                  refine lv_iload_n hx hb d_Md_mark_91 rfl (lv_at hl 4 rfl) ?_
                  refine lv_iadd hx hb d_Md_mark_92 ?_
                  refine lv_goto (tgt := 100) hx hb d_Md_mark_93 (by decide) ?_
                  obtain ⟨y17, hy17, h⟩ := o_bind h
                  have hPc := hP.sub (ws' := (ws_Md_addRow G a_t a_t_truth a_t_helped a_t_counted a_t_told a_t_runs a_t_isOn a_t_tryEntries a_t_tryMarks a_t_text a_t_entries a_t_marked a_t_present a_t_whose a_t_where a_t_what a_t_before a_t_behind (0 : Int32) x_t_places x_t_persons x_t_many x_t_size x_t_at x_t_sought x_t_found x_t_entries x_t_marked x_t_present x_t_whose x_t_where x_t_what x_t_before x_t_behind)) [0, 1, 2, 3, 4, 5, 6, 7, 8] rfl
                  have hDc := hD.sub (ws' := (ws_Md_addRow G a_t a_t_truth a_t_helped a_t_counted a_t_told a_t_runs a_t_isOn a_t_tryEntries a_t_tryMarks a_t_text a_t_entries a_t_marked a_t_present a_t_whose a_t_where a_t_what a_t_before a_t_behind (0 : Int32) x_t_places x_t_persons x_t_many x_t_size x_t_at x_t_sought x_t_found x_t_entries x_t_marked x_t_present x_t_whose x_t_where x_t_what x_t_before x_t_behind)) [0, 1, 2, 3, 4, 5, 6, 7, 8] (by decide) rfl
                  have hFc := va_free (wc := (ws_Md_addRow G a_t a_t_truth a_t_helped a_t_counted a_t_told a_t_runs a_t_isOn a_t_tryEntries a_t_tryMarks a_t_text a_t_entries a_t_marked a_t_present a_t_whose a_t_where a_t_what a_t_before a_t_behind (0 : Int32) x_t_places x_t_persons x_t_many x_t_size x_t_at x_t_sought x_t_found x_t_entries x_t_marked x_t_present x_t_whose x_t_where x_t_what x_t_before x_t_behind)) hD hS hA [0, 1, 2, 3, 4, 5, 6, 7, 8] rfl
                  refine q_call1 (va_runV (As := [.int p0, .int p1, .int ((10 : Int32) + p2)]) (rest := []) ⟨hx, hb, hml, hown, hts⟩ (c_Md_addRow l G H.size a_t a_t_truth a_t_helped a_t_counted a_t_told a_t_runs a_t_isOn a_t_tryEntries a_t_tryMarks a_t_text a_t_entries a_t_marked a_t_present a_t_whose a_t_where a_t_what a_t_before a_t_behind p0 p1 ((10 : Int32) + p2) (0 : Int32) x_t_places x_t_persons x_t_many x_t_size x_t_at x_t_sought x_t_found x_t_entries x_t_marked x_t_present x_t_whose x_t_where x_t_what x_t_before x_t_behind _ _ _ _ _ _ _ _ _ _ hy17) (cwV 3 hts (gV gw_447 gw_448 gw_19 gw_36 gw_449) rfl rfl rfl (by decide +kernel) ⟨Nat.le_of_ble_eq_true rfl, Nat.le_of_ble_eq_true rfl⟩) (pV hK hN hPc hDc (ci := 6) (q0 := 0) rfl rfl) rfl rfl hl.1 rfl (lv_room (Nat.le_of_ble_eq_true rfl)) d_Md_mark_100 ⟨Nat.le_of_ble_eq_true rfl, Nat.le_of_ble_eq_true rfl⟩) hS (fun q _ h => hFc q h) hFc (fun H1 locs hB hz hk hS => ?_)
                  obtain ⟨hP, hD⟩ := q_joinA hFc hB.1 hB.2
                  generalize H1 = H at hP hS ⊢
                  replace hP : va_P G.1 vwCl (ws_Md_mark G a_t a_t_truth a_t_helped a_t_counted a_t_told a_t_runs a_t_isOn a_t_tryEntries a_t_tryMarks a_t_text a_t_entries a_t_marked a_t_present a_t_whose a_t_where a_t_what a_t_before a_t_behind (0 : Int32) x_t_places x_t_persons y17.2.1 x_t_size x_t_at x_t_sought x_t_found y17.2.2.1 y17.2.2.2.1 y17.2.2.2.2.1 y17.2.2.2.2.2.1 y17.2.2.2.2.2.2.1 y17.2.2.2.2.2.2.2.1 y17.2.2.2.2.2.2.2.2.1 y17.2.2.2.2.2.2.2.2.2) H := hP
                  replace hD : va_D A (ws_Md_mark G a_t a_t_truth a_t_helped a_t_counted a_t_told a_t_runs a_t_isOn a_t_tryEntries a_t_tryMarks a_t_text a_t_entries a_t_marked a_t_present a_t_whose a_t_where a_t_what a_t_before a_t_behind (0 : Int32) x_t_places x_t_persons y17.2.1 x_t_size x_t_at x_t_sought x_t_found y17.2.2.1 y17.2.2.2.1 y17.2.2.2.2.1 y17.2.2.2.2.2.1 y17.2.2.2.2.2.2.1 y17.2.2.2.2.2.2.2.1 y17.2.2.2.2.2.2.2.2.1 y17.2.2.2.2.2.2.2.2.2) := hD
                  cases h
                  exact q_iretW hx hb hr hlocks hP hD hS d_Md_mark_103
              · replace h := (if_pos c14).symm.trans h
                refine lv_iconst (v := (-1 : Int32)) hx hb d_Md_mark_77 (by decide) ?_
                refine lv_goto (tgt := 103) hx hb d_Md_mark_78 (by decide) ?_
                cases h
                exact q_iretW hx hb hr hlocks hP hD hS d_Md_mark_103
          · replace h := (if_pos c7).symm.trans h
            refine lv_iconst (v := (-1 : Int32)) hx hb d_Md_mark_42 (by decide) ?_
            cases h
            exact q_iretW hx hb hr hlocks hP hD hS d_Md_mark_43

theorem d_Md_undo_0 : decode prog_8_method_11_code 0 = .ok (.aload_n 0, 1) := by decide +kernel
theorem d_Md_undo_1 : decode prog_8_method_11_code 1 = .ok (.iconst 0, 1) := by decide +kernel
theorem d_Md_undo_2 : decode prog_8_method_11_code 2 = .ok (.putfield 69, 3) := by decide +kernel
theorem d_Md_undo_5 : decode prog_8_method_11_code 5 = .ok (.aload_n 0, 1) := by decide +kernel
theorem d_Md_undo_6 : decode prog_8_method_11_code 6 = .ok (.iload_n 1, 1) := by decide +kernel
theorem d_Md_undo_7 : decode prog_8_method_11_code 7 = .ok (.invokevirtual 86, 3) := by decide +kernel
theorem d_Md_undo_10 : decode prog_8_method_11_code 10 = .ok (.ifCond .eq 12, 3) := by decide +kernel
theorem d_Md_undo_13 : decode prog_8_method_11_code 13 = .ok (.aload_n 0, 1) := by decide +kernel
theorem d_Md_undo_14 : decode prog_8_method_11_code 14 = .ok (.getfield 19, 3) := by decide +kernel
theorem d_Md_undo_17 : decode prog_8_method_11_code 17 = .ok (.iload_n 1, 1) := by decide +kernel
theorem d_Md_undo_18 : decode prog_8_method_11_code 18 = .ok (.iaload, 1) := by decide +kernel
theorem d_Md_undo_19 : decode prog_8_method_11_code 19 = .ok (.ifCond .ge 5, 3) := by decide +kernel
theorem d_Md_undo_22 : decode prog_8_method_11_code 22 = .ok (.iconst (-1), 1) := by decide +kernel
theorem d_Md_undo_23 : decode prog_8_method_11_code 23 = .ok (.ireturn, 1) := by decide +kernel
theorem d_Md_undo_24 : decode prog_8_method_11_code 24 = .ok (.aload_n 0, 1) := by decide +kernel
theorem d_Md_undo_25 : decode prog_8_method_11_code 25 = .ok (.getfield 19, 3) := by decide +kernel
theorem d_Md_undo_28 : decode prog_8_method_11_code 28 = .ok (.iload_n 1, 1) := by decide +kernel
theorem d_Md_undo_29 : decode prog_8_method_11_code 29 = .ok (.iaload, 1) := by decide +kernel
theorem d_Md_undo_30 : decode prog_8_method_11_code 30 = .ok (.istore_n 2, 1) := by decide +kernel
theorem d_Md_undo_31 : decode prog_8_method_11_code 31 = .ok (.aload_n 0, 1) := by decide +kernel
theorem d_Md_undo_32 : decode prog_8_method_11_code 32 = .ok (.getfield 42, 3) := by decide +kernel
theorem d_Md_undo_35 : decode prog_8_method_11_code 35 = .ok (.iload_n 2, 1) := by decide +kernel
theorem d_Md_undo_36 : decode prog_8_method_11_code 36 = .ok (.iaload, 1) := by decide +kernel
theorem d_Md_undo_37 : decode prog_8_method_11_code 37 = .ok (.istore_n 3, 1) := by decide +kernel
theorem d_Md_undo_38 : decode prog_8_method_11_code 38 = .ok (.aload_n 0, 1) := by decide +kernel
theorem d_Md_undo_39 : decode prog_8_method_11_code 39 = .ok (.iload_n 1, 1) := by decide +kernel
theorem d_Md_undo_40 : decode prog_8_method_11_code 40 = .ok (.aload_n 0, 1) := by decide +kernel
theorem d_Md_undo_41 : decode prog_8_method_11_code 41 = .ok (.getfield 39, 3) := by decide +kernel
theorem d_Md_undo_44 : decode prog_8_method_11_code 44 = .ok (.iload_n 2, 1) := by decide +kernel
theorem d_Md_undo_45 : decode prog_8_method_11_code 45 = .ok (.iaload, 1) := by decide +kernel
theorem d_Md_undo_46 : decode prog_8_method_11_code 46 = .ok (.iload_n 3, 1) := by decide +kernel
theorem d_Md_undo_47 : decode prog_8_method_11_code 47 = .ok (.bipush 10, 2) := by decide +kernel
theorem d_Md_undo_49 : decode prog_8_method_11_code 49 = .ok (.if_icmp .ge 12, 3) := by decide +kernel
theorem d_Md_undo_52 : decode prog_8_method_11_code 52 = .ok (.aload_n 0, 1) := by decide +kernel
theorem d_Md_undo_53 : decode prog_8_method_11_code 53 = .ok (.getfield 45, 3) := by decide +kernel
theorem d_Md_undo_56 : decode prog_8_method_11_code 56 = .ok (.iload_n 2, 1) := by decide +kernel
theorem d_Md_undo_57 : decode prog_8_method_11_code 57 = .ok (.iaload, 1) := by decide +kernel
theorem d_Md_undo_58 : decode prog_8_method_11_code 58 = .ok (.goto 20, 3) := by decide +kernel
theorem d_Md_undo_61 : decode prog_8_method_11_code 61 = .ok (.iload_n 3, 1) := by decide +kernel
theorem d_Md_undo_62 : decode prog_8_method_11_code 62 = .ok (.bipush 20, 2) := by decide +kernel
theorem d_Md_undo_64 : decode prog_8_method_11_code 64 = .ok (.if_icmp .ge 10, 3) := by decide +kernel
theorem d_Md_undo_67 : decode prog_8_method_11_code 67 = .ok (.iload_n 3, 1) := by decide +kernel
theorem d_Md_undo_68 : decode prog_8_method_11_code 68 = .ok (.bipush 10, 2) := by decide +kernel
theorem d_Md_undo_70 : decode prog_8_method_11_code 70 = .ok (.iadd, 1) := by decide +kernel
theorem d_Md_undo_71 : decode prog_8_method_11_code 71 = .ok (.goto 7, 3) := by decide +kernel
theorem d_Md_undo_74 : decode prog_8_method_11_code 74 = .ok (.iload_n 3, 1) := by decide +kernel
theorem d_Md_undo_75 : decode prog_8_method_11_code 75 = .ok (.bipush 10, 2) := by decide +kernel
theorem d_Md_undo_77 : decode prog_8_method_11_code 77 = .ok (.isub, 1) := by decide +kernel
theorem d_Md_undo_78 : decode prog_8_method_11_code 78 = .ok (.invokevirtual 82, 3) := by decide +kernel
theorem d_Md_undo_81 : decode prog_8_method_11_code 81 = .ok (.aload_n 0, 1) := by decide +kernel
theorem d_Md_undo_82 : decode prog_8_method_11_code 82 = .ok (.getfield 19, 3) := by decide +kernel
theorem d_Md_undo_85 : decode prog_8_method_11_code 85 = .ok (.iload_n 1, 1) := by decide +kernel
theorem d_Md_undo_86 : decode prog_8_method_11_code 86 = .ok (.aload_n 0, 1) := by decide +kernel
theorem d_Md_undo_87 : decode prog_8_method_11_code 87 = .ok (.getfield 48, 3) := by decide +kernel
theorem d_Md_undo_90 : decode prog_8_method_11_code 90 = .ok (.iload_n 2, 1) := by decide +kernel
theorem d_Md_undo_91 : decode prog_8_method_11_code 91 = .ok (.iaload, 1) := by decide +kernel
theorem d_Md_undo_92 : decode prog_8_method_11_code 92 = .ok (.iastore, 1) := by decide +kernel
theorem d_Md_undo_93 : decode prog_8_method_11_code 93 = .ok (.iload_n 2, 1) := by decide +kernel
theorem d_Md_undo_94 : decode prog_8_method_11_code 94 = .ok (.ireturn, 1) := by decide +kernel
-- PlayStatesModel.undo(I)I 
def ws_Md_undo (G : gG) (a_t a_t_truth a_t_helped a_t_counted a_t_told a_t_runs a_t_whose a_t_isOn a_t_tryEntries a_t_tryMarks a_t_text a_t_entries a_t_marked a_t_present a_t_where a_t_what a_t_before a_t_behind : Nat)  (x_t_thrown : Int32) (x_t_places : Int32) (x_t_persons : Int32) (x_t_many : Int32) (x_t_size : Int32) (x_t_at : Int32) (x_t_sought : Int32) (x_t_found : Int32) (x_t_entries : Nat → Int32) (x_t_marked : Nat → Int32) (x_t_present : Nat → Int32) (x_t_where : Nat → Int32) (x_t_what : Nat → Int32) (x_t_before : Nat → Int32) (x_t_behind : Nat → Int32) : va_W := [(a_t, .inr (6, [.int x_t_thrown, .int x_t_places, .int x_t_persons, .ref a_t_truth, .ref a_t_entries, .ref a_t_marked, .ref a_t_present, .ref a_t_helped, .ref a_t_counted, .ref a_t_told, .ref a_t_runs, .int x_t_many, .ref a_t_whose, .ref a_t_where, .ref a_t_what, .ref a_t_before, .ref a_t_behind, .ref a_t_isOn, .ref a_t_tryEntries, .ref a_t_tryMarks, .int x_t_size, .ref a_t_text, .int x_t_at, .int x_t_sought, .int x_t_found])), (a_t_entries, .inl (G.2 0, 648, .inl x_t_entries)), (a_t_marked, .inl (G.2 0, 648, .inl x_t_marked)), (a_t_present, .inl (G.2 0, 8, .inl x_t_present)), (a_t_where, .inl (G.2 0, 600, .inl x_t_where)), (a_t_what, .inl (G.2 0, 600, .inl x_t_what)), (a_t_before, .inl (G.2 0, 600, .inl x_t_before)), (a_t_behind, .inl (G.2 0, 600, .inl x_t_behind))]
def f_Md_undo  (p0 : Int32) (x_t_thrown : Int32) (x_t_places : Int32) (x_t_persons : Int32) (x_t_many : Int32) (x_t_size : Int32) (x_t_at : Int32) (x_t_sought : Int32) (x_t_found : Int32) (x_t_entries : Nat → Int32) (x_t_marked : Nat → Int32) (x_t_present : Nat → Int32) (x_t_where : Nat → Int32) (x_t_what : Nat → Int32) (x_t_before : Nat → Int32) (x_t_behind : Nat → Int32) : Option (Int32 × Int32 × (Nat → Int32) × (Nat → Int32) × (Nat → Int32)) :=
  ((f_Md_isPerson p0 (0 : Int32) x_t_places x_t_persons x_t_many x_t_size x_t_at x_t_sought x_t_found).bind fun y1 => (if y1 = 0 then some ((-1 : Int32), (0 : Int32), x_t_entries, x_t_marked, x_t_present) else (if inB p0 8 then (if 0 ≤ (x_t_present p0.toNatClampNeg) then (if inB p0 8 then (if inB (x_t_present p0.toNatClampNeg) 600 then (if inB (x_t_present p0.toNatClampNeg) 600 then (if (10 : Int32) ≤ (x_t_what (x_t_present p0.toNatClampNeg).toNatClampNeg) then (if (20 : Int32) ≤ (x_t_what (x_t_present p0.toNatClampNeg).toNatClampNeg) then ((f_Md_act p0 (x_t_where (x_t_present p0.toNatClampNeg).toNatClampNeg) ((x_t_what (x_t_present p0.toNatClampNeg).toNatClampNeg) - (10 : Int32)) (0 : Int32) x_t_places x_t_persons x_t_many x_t_size x_t_at x_t_sought x_t_found x_t_entries x_t_marked).bind fun y10 => (if inB (x_t_present p0.toNatClampNeg) 600 then (if inB p0 8 then some ((x_t_present p0.toNatClampNeg), (0 : Int32), y10.1, y10.2, (upd x_t_present p0.toNatClampNeg (x_t_behind (x_t_present p0.toNatClampNeg).toNatClampNeg))) else none) else none)) else ((f_Md_act p0 (x_t_where (x_t_present p0.toNatClampNeg).toNatClampNeg) ((x_t_what (x_t_present p0.toNatClampNeg).toNatClampNeg) + (10 : Int32)) (0 : Int32) x_t_places x_t_persons x_t_many x_t_size x_t_at x_t_sought x_t_found x_t_entries x_t_marked).bind fun y13 => (if inB (x_t_present p0.toNatClampNeg) 600 then (if inB p0 8 then some ((x_t_present p0.toNatClampNeg), (0 : Int32), y13.1, y13.2, (upd x_t_present p0.toNatClampNeg (x_t_behind (x_t_present p0.toNatClampNeg).toNatClampNeg))) else none) else none))) else (if inB (x_t_present p0.toNatClampNeg) 600 then ((f_Md_act p0 (x_t_where (x_t_present p0.toNatClampNeg).toNatClampNeg) (x_t_before (x_t_present p0.toNatClampNeg).toNatClampNeg) (0 : Int32) x_t_places x_t_persons x_t_many x_t_size x_t_at x_t_sought x_t_found x_t_entries x_t_marked).bind fun y17 => (if inB (x_t_present p0.toNatClampNeg) 600 then (if inB p0 8 then some ((x_t_present p0.toNatClampNeg), (0 : Int32), y17.1, y17.2, (upd x_t_present p0.toNatClampNeg (x_t_behind (x_t_present p0.toNatClampNeg).toNatClampNeg))) else none) else none)) else none)) else none) else none) else none) else some ((-1 : Int32), (0 : Int32), x_t_entries, x_t_marked, x_t_present)) else none)))
set_option maxHeartbeats 4000000 in
set_option maxRecDepth 100000 in
theorem c_Md_undo (l : Launch) (G : gG) (sz : Nat) (a_t a_t_truth a_t_helped a_t_counted a_t_told a_t_runs a_t_whose a_t_isOn a_t_tryEntries a_t_tryMarks a_t_text a_t_entries a_t_marked a_t_present a_t_where a_t_what a_t_before a_t_behind : Nat)  (p0 : Int32) (x_t_thrown : Int32) (x_t_places : Int32) (x_t_persons : Int32) (x_t_many : Int32) (x_t_size : Int32) (x_t_at : Int32) (x_t_sought : Int32) (x_t_found : Int32) (x_t_entries : Nat → Int32) (x_t_marked : Nat → Int32) (x_t_present : Nat → Int32) (x_t_where : Nat → Int32) (x_t_what : Nat → Int32) (x_t_before : Nat → Int32) (x_t_behind : Nat → Int32) (r : Int32) (x_t_thrown' : Int32) (x_t_entries' : Nat → Int32) (x_t_marked' : Nat → Int32) (x_t_present' : Nat → Int32) (h : f_Md_undo p0 x_t_thrown x_t_places x_t_persons x_t_many x_t_size x_t_at x_t_sought x_t_found x_t_entries x_t_marked x_t_present x_t_where x_t_what x_t_before x_t_behind = some (r, x_t_thrown', x_t_entries', x_t_marked', x_t_present'))  : cN l y_Md_undo w_Md_undo { frames := 1, cells := 0, slots := 0, locals := 24 } G sz [.ref a_t, .int p0] (ws_Md_undo G a_t a_t_truth a_t_helped a_t_counted a_t_told a_t_runs a_t_whose a_t_isOn a_t_tryEntries a_t_tryMarks a_t_text a_t_entries a_t_marked a_t_present a_t_where a_t_what a_t_before a_t_behind x_t_thrown x_t_places x_t_persons x_t_many x_t_size x_t_at x_t_sought x_t_found x_t_entries x_t_marked x_t_present x_t_where x_t_what x_t_before x_t_behind) (some (.int r)) (wB G (ws_Md_undo G a_t a_t_truth a_t_helped a_t_counted a_t_told a_t_runs a_t_whose a_t_isOn a_t_tryEntries a_t_tryMarks a_t_text a_t_entries a_t_marked a_t_present a_t_where a_t_what a_t_before a_t_behind x_t_thrown' x_t_places x_t_persons x_t_many x_t_size x_t_at x_t_sought x_t_found x_t_entries' x_t_marked' x_t_present' x_t_where x_t_what x_t_before x_t_behind)) 0 0 := by
  refine cN_ofW (cc := prog_8_method_11_code) (maxL := 4) (ret := (some .int)) (by decide) rfl (Nat.le_of_ble_eq_true rfl) ?_
  intro p e s m args below meth c A H locs ls hx hb hr hts hown hlocks hin hml hK hN hP hD hA hS hl
  replace hl : lv_has ls 4 [(0, .ref a_t), (1, .int p0)] := hl
  replace hown : s.vm.findClass "PlayStatesModel" = some m.cls := hown
  unfold f_Md_undo at h
  refine lv_aload_n hx hb d_Md_undo_0 rfl (lv_at hl 0 rfl) ?_
  refine lv_iconst (v := (0 : Int32)) hx hb d_Md_undo_1 (by decide) ?_
  refine va_put (D := G.1) (ci := 6) (v := .int (0 : Int32)) (ty := .int) (C := "PlayStatesModel") (T := TMd) (N := 25) hx hb hts iw_6 tyMd tyMd_ok nmMd hown hK hP hD hS 0 rfl rfl 0 (by decide) (hts _ gw_379) (fun _ h9 => h9) rfl (by decide +kernel) (by rfl) (by rfl) (Nat.le_of_ble_eq_true rfl) d_Md_undo_2 (fun H locs hP hD hS => ?_)
  replace hP : va_P G.1 vwCl (ws_Md_undo G a_t a_t_truth a_t_helped a_t_counted a_t_told a_t_runs a_t_whose a_t_isOn a_t_tryEntries a_t_tryMarks a_t_text a_t_entries a_t_marked a_t_present a_t_where a_t_what a_t_before a_t_behind (0 : Int32) x_t_places x_t_persons x_t_many x_t_size x_t_at x_t_sought x_t_found x_t_entries x_t_marked x_t_present x_t_where x_t_what x_t_before x_t_behind) H := hP
  replace hD : va_D A (ws_Md_undo G a_t a_t_truth a_t_helped a_t_counted a_t_told a_t_runs a_t_whose a_t_isOn a_t_tryEntries a_t_tryMarks a_t_text a_t_entries a_t_marked a_t_present a_t_where a_t_what a_t_before a_t_behind (0 : Int32) x_t_places x_t_persons x_t_many x_t_size x_t_at x_t_sought x_t_found x_t_entries x_t_marked x_t_present x_t_where x_t_what x_t_before x_t_behind) := hD
  refine lv_aload_n hx hb d_Md_undo_5 rfl (lv_at hl 0 rfl) ?_
  refine lv_iload_n hx hb d_Md_undo_6 rfl (lv_at hl 1 rfl) ?_
  obtain ⟨y1, hy1, h⟩ := o_bind h
  have hPc := hP.sub (ws' := (ws_Md_isPerson G a_t a_t_truth a_t_entries a_t_marked a_t_present a_t_helped a_t_counted a_t_told a_t_runs a_t_whose a_t_where a_t_what a_t_before a_t_behind a_t_isOn a_t_tryEntries a_t_tryMarks a_t_text (0 : Int32) x_t_places x_t_persons x_t_many x_t_size x_t_at x_t_sought x_t_found)) [0] rfl
  have hDc := hD.sub (ws' := (ws_Md_isPerson G a_t a_t_truth a_t_entries a_t_marked a_t_present a_t_helped a_t_counted a_t_told a_t_runs a_t_whose a_t_where a_t_what a_t_before a_t_behind a_t_isOn a_t_tryEntries a_t_tryMarks a_t_text (0 : Int32) x_t_places x_t_persons x_t_many x_t_size x_t_at x_t_sought x_t_found)) [0] (by decide) rfl
  have hFc := va_free (wc := (ws_Md_isPerson G a_t a_t_truth a_t_entries a_t_marked a_t_present a_t_helped a_t_counted a_t_told a_t_runs a_t_whose a_t_where a_t_what a_t_before a_t_behind a_t_isOn a_t_tryEntries a_t_tryMarks a_t_text (0 : Int32) x_t_places x_t_persons x_t_many x_t_size x_t_at x_t_sought x_t_found)) hD hS hA [0] rfl
  refine q_call1 (va_runV (As := [.int p0]) (rest := []) ⟨hx, hb, hml, hown, hts⟩ (c_Md_isPerson l G H.size a_t a_t_truth a_t_entries a_t_marked a_t_present a_t_helped a_t_counted a_t_told a_t_runs a_t_whose a_t_where a_t_what a_t_before a_t_behind a_t_isOn a_t_tryEntries a_t_tryMarks a_t_text p0 (0 : Int32) x_t_places x_t_persons x_t_many x_t_size x_t_at x_t_sought x_t_found _ hy1) (cwV 1 hts (gV gw_441 gw_442 gw_17 gw_36 gw_443) rfl rfl rfl (by decide +kernel) ⟨Nat.le_of_ble_eq_true rfl, Nat.le_of_ble_eq_true rfl⟩) (pV hK hN hPc hDc (ci := 6) (q0 := 0) rfl rfl) rfl rfl hl.1 rfl (lv_room (Nat.le_of_ble_eq_true rfl)) d_Md_undo_7 ⟨Nat.le_of_ble_eq_true rfl, Nat.le_of_ble_eq_true rfl⟩) hS (fun q _ h => hFc q h) hFc (fun H1 locs hB hz hk hS => ?_)
  obtain ⟨hP, hD⟩ := q_join (wr := [(a_t_entries, .inl (G.2 0, 648, .inl x_t_entries)), (a_t_marked, .inl (G.2 0, 648, .inl x_t_marked)), (a_t_present, .inl (G.2 0, 8, .inl x_t_present)), (a_t_where, .inl (G.2 0, 600, .inl x_t_where)), (a_t_what, .inl (G.2 0, 600, .inl x_t_what)), (a_t_before, .inl (G.2 0, 600, .inl x_t_before)), (a_t_behind, .inl (G.2 0, 600, .inl x_t_behind))]) (wn := (ws_Md_undo G a_t a_t_truth a_t_helped a_t_counted a_t_told a_t_runs a_t_whose a_t_isOn a_t_tryEntries a_t_tryMarks a_t_text a_t_entries a_t_marked a_t_present a_t_where a_t_what a_t_before a_t_behind (0 : Int32) x_t_places x_t_persons x_t_many x_t_size x_t_at x_t_sought x_t_found x_t_entries x_t_marked x_t_present x_t_where x_t_what x_t_before x_t_behind)) hP hD [0] [1, 2, 3, 4, 5, 6, 7] [7, 0, 1, 2, 3, 4, 5, 6] rfl rfl (by decide) (by decide) rfl (by decide) hk hFc hB.1 hB.2
  generalize H1 = H at hP hS ⊢
  replace hP : va_P G.1 vwCl (ws_Md_undo G a_t a_t_truth a_t_helped a_t_counted a_t_told a_t_runs a_t_whose a_t_isOn a_t_tryEntries a_t_tryMarks a_t_text a_t_entries a_t_marked a_t_present a_t_where a_t_what a_t_before a_t_behind (0 : Int32) x_t_places x_t_persons x_t_many x_t_size x_t_at x_t_sought x_t_found x_t_entries x_t_marked x_t_present x_t_where x_t_what x_t_before x_t_behind) H := hP
  replace hD : va_D A (ws_Md_undo G a_t a_t_truth a_t_helped a_t_counted a_t_told a_t_runs a_t_whose a_t_isOn a_t_tryEntries a_t_tryMarks a_t_text a_t_entries a_t_marked a_t_present a_t_where a_t_what a_t_before a_t_behind (0 : Int32) x_t_places x_t_persons x_t_many x_t_size x_t_at x_t_sought x_t_found x_t_entries x_t_marked x_t_present x_t_where x_t_what x_t_before x_t_behind) := hD
  refine lv_if_eq (tgt := 22) hx hb d_Md_undo_10 (by decide) (fun c2 => ?_) (fun c2 => ?_)
  · replace h := (if_pos c2).symm.trans h
    refine lv_iconst (v := (-1 : Int32)) hx hb d_Md_undo_22 (by decide) ?_
    cases h
    exact q_iretW hx hb hr hlocks hP hD hS d_Md_undo_23
  · replace h := (if_neg c2).symm.trans h
    refine lv_aload_n hx hb d_Md_undo_13 rfl (lv_at hl 0 rfl) ?_
    refine va_get (D := G.1) (ci := 6) (v := .ref a_t_present) (C := "PlayStatesModel") (T := TMd) (N := 25) hx hb hts iw_6 hown hK hP 0 rfl rfl 6 (by decide) (hts _ gw_385) (fun _ h9 => h9) rfl d_Md_undo_14 ?_
    refine lv_iload_n hx hb d_Md_undo_17 rfl (lv_at hl 1 rfl) ?_
    obtain ⟨i3, h⟩ := o_if h
    refine va_iald (n := 8) (f := x_t_present) hx hb hK hP 3 0 rfl rfl i3 d_Md_undo_18 ?_
    refine lv_if_ge (tgt := 24) hx hb d_Md_undo_19 (by decide) (fun c4 => ?_) (fun c4 => ?_)
    · replace h := (if_pos c4).symm.trans h
      refine lv_aload_n hx hb d_Md_undo_24 rfl (lv_at hl 0 rfl) ?_
      refine va_get (D := G.1) (ci := 6) (v := .ref a_t_present) (C := "PlayStatesModel") (T := TMd) (N := 25) hx hb hts iw_6 hown hK hP 0 rfl rfl 6 (by decide) (hts _ gw_385) (fun _ h9 => h9) rfl d_Md_undo_25 ?_
      refine lv_iload_n hx hb d_Md_undo_28 rfl (lv_at hl 1 rfl) ?_
      obtain ⟨i5, h⟩ := o_if h
      refine va_iald (n := 8) (f := x_t_present) hx hb hK hP 3 0 rfl rfl i5 d_Md_undo_29 ?_
      refine lv_istore_n (lv' := [(2, .int (x_t_present p0.toNatClampNeg)), (0, .ref a_t), (1, .int p0)]) hx hb d_Md_undo_30 rfl hl (by decide) rfl (fun ls hl => ?_)
      refine lv_aload_n hx hb d_Md_undo_31 rfl (lv_at hl 1 rfl) ?_
      refine va_get (D := G.1) (ci := 6) (v := .ref a_t_what) (C := "PlayStatesModel") (T := TMd) (N := 25) hx hb hts iw_6 hown hK hP 0 rfl rfl 14 (by decide) (hts _ gw_393) (fun _ h9 => h9) rfl d_Md_undo_32 ?_
      refine lv_iload_n hx hb d_Md_undo_35 rfl (lv_at hl 0 rfl) ?_
      obtain ⟨i6, h⟩ := o_if h
      refine va_iald (n := 600) (f := x_t_what) hx hb hK hP 5 0 rfl rfl i6 d_Md_undo_36 ?_
      refine lv_istore_n (lv' := [(3, .int (x_t_what (x_t_present p0.toNatClampNeg).toNatClampNeg)), (2, .int (x_t_present p0.toNatClampNeg)), (0, .ref a_t), (1, .int p0)]) hx hb d_Md_undo_37 rfl hl (by decide) rfl (fun ls hl => ?_)
      refine lv_aload_n hx hb d_Md_undo_38 rfl (lv_at hl 2 rfl) ?_
      refine lv_iload_n hx hb d_Md_undo_39 rfl (lv_at hl 3 rfl) ?_
      refine lv_aload_n hx hb d_Md_undo_40 rfl (lv_at hl 2 rfl) ?_
      refine va_get (D := G.1) (ci := 6) (v := .ref a_t_where) (C := "PlayStatesModel") (T := TMd) (N := 25) hx hb hts iw_6 hown hK hP 0 rfl rfl 13 (by decide) (hts _ gw_392) (fun _ h9 => h9) rfl d_Md_undo_41 ?_
      refine lv_iload_n hx hb d_Md_undo_44 rfl (lv_at hl 1 rfl) ?_
      obtain ⟨i7, h⟩ := o_if h
      refine va_iald (n := 600) (f := x_t_where) hx hb hK hP 4 0 rfl rfl i7 d_Md_undo_45 ?_
      refine lv_iload_n hx hb d_Md_undo_46 rfl (lv_at hl 0 rfl) ?_
      refine lv_bipush (v := (10 : Int32)) hx hb d_Md_undo_47 (by decide) ?_
      refine lv_icmp_ge (tgt := 61) hx hb d_Md_undo_49 (by decide) (fun c8 => ?_) (fun c8 => ?_)
      · replace h := (if_pos c8).symm.trans h
        refine lv_iload_n hx hb d_Md_undo_61 rfl (lv_at hl 0 rfl) ?_
        refine lv_bipush (v := (20 : Int32)) hx hb d_Md_undo_62 (by decide) ?_
        refine lv_icmp_ge (tgt := 74) hx hb d_Md_undo_64 (by decide) (fun c9 => ?_) (fun c9 => ?_)
        · replace h := (if_pos c9).symm.trans h
          refine lv_iload_n hx hb d_Md_undo_74 rfl (lv_at hl 0 rfl) ?_
          refine lv_bipush (v := (10 : Int32)) hx hb d_Md_undo_75 (by decide) ?_
          refine lv_isub hx hb d_Md_undo_77 ?_
          obtain ⟨y10, hy10, h⟩ := o_bind h
          have hPc := hP.sub (ws' := (ws_Md_act G a_t a_t_truth a_t_present a_t_helped a_t_counted a_t_told a_t_runs a_t_whose a_t_where a_t_what a_t_before a_t_behind a_t_isOn a_t_tryEntries a_t_tryMarks a_t_text a_t_entries a_t_marked (0 : Int32) x_t_places x_t_persons x_t_many x_t_size x_t_at x_t_sought x_t_found x_t_entries x_t_marked)) [0, 1, 2] rfl
          have hDc := hD.sub (ws' := (ws_Md_act G a_t a_t_truth a_t_present a_t_helped a_t_counted a_t_told a_t_runs a_t_whose a_t_where a_t_what a_t_before a_t_behind a_t_isOn a_t_tryEntries a_t_tryMarks a_t_text a_t_entries a_t_marked (0 : Int32) x_t_places x_t_persons x_t_many x_t_size x_t_at x_t_sought x_t_found x_t_entries x_t_marked)) [0, 1, 2] (by decide) rfl
          have hFc := va_free (wc := (ws_Md_act G a_t a_t_truth a_t_present a_t_helped a_t_counted a_t_told a_t_runs a_t_whose a_t_where a_t_what a_t_before a_t_behind a_t_isOn a_t_tryEntries a_t_tryMarks a_t_text a_t_entries a_t_marked (0 : Int32) x_t_places x_t_persons x_t_many x_t_size x_t_at x_t_sought x_t_found x_t_entries x_t_marked)) hD hS hA [0, 1, 2] rfl
          refine q_call0 (va_runV (As := [.int p0, .int (x_t_where (x_t_present p0.toNatClampNeg).toNatClampNeg), .int ((x_t_what (x_t_present p0.toNatClampNeg).toNatClampNeg) - (10 : Int32))]) (rest := []) ⟨hx, hb, hml, hown, hts⟩ (c_Md_act l G H.size a_t a_t_truth a_t_present a_t_helped a_t_counted a_t_told a_t_runs a_t_whose a_t_where a_t_what a_t_before a_t_behind a_t_isOn a_t_tryEntries a_t_tryMarks a_t_text a_t_entries a_t_marked p0 (x_t_where (x_t_present p0.toNatClampNeg).toNatClampNeg) ((x_t_what (x_t_present p0.toNatClampNeg).toNatClampNeg) - (10 : Int32)) (0 : Int32) x_t_places x_t_persons x_t_many x_t_size x_t_at x_t_sought x_t_found x_t_entries x_t_marked _ _ hy10) (cwV 3 hts (gV gw_450 gw_451 gw_20 gw_36 gw_452) rfl rfl rfl (by decide +kernel) ⟨Nat.le_of_ble_eq_true rfl, Nat.le_of_ble_eq_true rfl⟩) (pV hK hN hPc hDc (ci := 6) (q0 := 0) rfl rfl) rfl rfl hl.1 rfl (lv_room (Nat.le_of_ble_eq_true rfl)) d_Md_undo_78 ⟨Nat.le_of_ble_eq_true rfl, Nat.le_of_ble_eq_true rfl⟩) hS (fun q _ h => hFc q h) hFc (fun H1 locs hB hz hk hS => ?_)
          obtain ⟨hP, hD⟩ := q_join (wr := [(a_t_present, .inl (G.2 0, 8, .inl x_t_present)), (a_t_where, .inl (G.2 0, 600, .inl x_t_where)), (a_t_what, .inl (G.2 0, 600, .inl x_t_what)), (a_t_before, .inl (G.2 0, 600, .inl x_t_before)), (a_t_behind, .inl (G.2 0, 600, .inl x_t_behind))]) (wn := (ws_Md_undo G a_t a_t_truth a_t_helped a_t_counted a_t_told a_t_runs a_t_whose a_t_isOn a_t_tryEntries a_t_tryMarks a_t_text a_t_entries a_t_marked a_t_present a_t_where a_t_what a_t_before a_t_behind (0 : Int32) x_t_places x_t_persons x_t_many x_t_size x_t_at x_t_sought x_t_found y10.1 y10.2 x_t_present x_t_where x_t_what x_t_before x_t_behind)) hP hD [0, 1, 2] [3, 4, 5, 6, 7] [5, 6, 7, 0, 1, 2, 3, 4] rfl rfl (by decide) (by decide) rfl (by decide) hk hFc hB.1 hB.2
          generalize H1 = H at hP hS ⊢
          replace hP : va_P G.1 vwCl (ws_Md_undo G a_t a_t_truth a_t_helped a_t_counted a_t_told a_t_runs a_t_whose a_t_isOn a_t_tryEntries a_t_tryMarks a_t_text a_t_entries a_t_marked a_t_present a_t_where a_t_what a_t_before a_t_behind (0 : Int32) x_t_places x_t_persons x_t_many x_t_size x_t_at x_t_sought x_t_found y10.1 y10.2 x_t_present x_t_where x_t_what x_t_before x_t_behind) H := hP
          replace hD : va_D A (ws_Md_undo G a_t a_t_truth a_t_helped a_t_counted a_t_told a_t_runs a_t_whose a_t_isOn a_t_tryEntries a_t_tryMarks a_t_text a_t_entries a_t_marked a_t_present a_t_where a_t_what a_t_before a_t_behind (0 : Int32) x_t_places x_t_persons x_t_many x_t_size x_t_at x_t_sought x_t_found y10.1 y10.2 x_t_present x_t_where x_t_what x_t_before x_t_behind) := hD
          refine lv_aload_n hx hb d_Md_undo_81 rfl (lv_at hl 2 rfl) ?_
          refine va_get (D := G.1) (ci := 6) (v := .ref a_t_present) (C := "PlayStatesModel") (T := TMd) (N := 25) hx hb hts iw_6 hown hK hP 0 rfl rfl 6 (by decide) (hts _ gw_385) (fun _ h9 => h9) rfl d_Md_undo_82 ?_
          refine lv_iload_n hx hb d_Md_undo_85 rfl (lv_at hl 3 rfl) ?_
          refine lv_aload_n hx hb d_Md_undo_86 rfl (lv_at hl 2 rfl) ?_
          refine va_get (D := G.1) (ci := 6) (v := .ref a_t_behind) (C := "PlayStatesModel") (T := TMd) (N := 25) hx hb hts iw_6 hown hK hP 0 rfl rfl 16 (by decide) (hts _ gw_395) (fun _ h9 => h9) rfl d_Md_undo_87 ?_
          refine lv_iload_n hx hb d_Md_undo_90 rfl (lv_at hl 1 rfl) ?_
          obtain ⟨i11, h⟩ := o_if h
          refine va_iald (n := 600) (f := x_t_behind) hx hb hK hP 7 0 rfl rfl i11 d_Md_undo_91 ?_
          obtain ⟨i12, h⟩ := o_if h
          refine va_iast (n := 8) (f := x_t_present) hx hb hK hP hD hS 3 0 rfl rfl i12 d_Md_undo_92 (fun H locs hP hD hS => ?_)
          replace hP : va_P G.1 vwCl (ws_Md_undo G a_t a_t_truth a_t_helped a_t_counted a_t_told a_t_runs a_t_whose a_t_isOn a_t_tryEntries a_t_tryMarks a_t_text a_t_entries a_t_marked a_t_present a_t_where a_t_what a_t_before a_t_behind (0 : Int32) x_t_places x_t_persons x_t_many x_t_size x_t_at x_t_sought x_t_found y10.1 y10.2 (upd x_t_present p0.toNatClampNeg (x_t_behind (x_t_present p0.toNatClampNeg).toNatClampNeg)) x_t_where x_t_what x_t_before x_t_behind) H := hP
          replace hD : va_D A (ws_Md_undo G a_t a_t_truth a_t_helped a_t_counted a_t_told a_t_runs a_t_whose a_t_isOn a_t_tryEntries a_t_tryMarks a_t_text a_t_entries a_t_marked a_t_present a_t_where a_t_what a_t_before a_t_behind (0 : Int32) x_t_places x_t_persons x_t_many x_t_size x_t_at x_t_sought x_t_found y10.1 y10.2 (upd x_t_present p0.toNatClampNeg (x_t_behind (x_t_present p0.toNatClampNeg).toNatClampNeg)) x_t_where x_t_what x_t_before x_t_behind) := hD
          refine lv_iload_n hx hb d_Md_undo_93 rfl (lv_at hl 1 rfl) ?_
          cases h
          exact q_iretW hx hb hr hlocks hP hD hS d_Md_undo_94
        · replace h := (if_neg c9).symm.trans h
          refine lv_iload_n hx hb d_Md_undo_67 rfl (lv_at hl 0 rfl) ?_
          refine lv_bipush (v := (10 : Int32)) hx hb d_Md_undo_68 (by decide) ?_
          refine lv_iadd hx hb d_Md_undo_70 ?_
          refine lv_goto (tgt := 78) hx hb d_Md_undo_71 (by decide) ?_
          obtain ⟨y13, hy13, h⟩ := o_bind h
          have hPc := hP.sub (ws' := (ws_Md_act G a_t a_t_truth a_t_present a_t_helped a_t_counted a_t_told a_t_runs a_t_whose a_t_where a_t_what a_t_before a_t_behind a_t_isOn a_t_tryEntries a_t_tryMarks a_t_text a_t_entries a_t_marked (0 : Int32) x_t_places x_t_persons x_t_many x_t_size x_t_at x_t_sought x_t_found x_t_entries x_t_marked)) [0, 1, 2] rfl
          have hDc := hD.sub (ws' := (ws_Md_act G a_t a_t_truth a_t_present a_t_helped a_t_counted a_t_told a_t_runs a_t_whose a_t_where a_t_what a_t_before a_t_behind a_t_isOn a_t_tryEntries a_t_tryMarks a_t_text a_t_entries a_t_marked (0 : Int32) x_t_places x_t_persons x_t_many x_t_size x_t_at x_t_sought x_t_found x_t_entries x_t_marked)) [0, 1, 2] (by decide) rfl
          have hFc := va_free (wc := (ws_Md_act G a_t a_t_truth a_t_present a_t_helped a_t_counted a_t_told a_t_runs a_t_whose a_t_where a_t_what a_t_before a_t_behind a_t_isOn a_t_tryEntries a_t_tryMarks a_t_text a_t_entries a_t_marked (0 : Int32) x_t_places x_t_persons x_t_many x_t_size x_t_at x_t_sought x_t_found x_t_entries x_t_marked)) hD hS hA [0, 1, 2] rfl
          refine q_call0 (va_runV (As := [.int p0, .int (x_t_where (x_t_present p0.toNatClampNeg).toNatClampNeg), .int ((x_t_what (x_t_present p0.toNatClampNeg).toNatClampNeg) + (10 : Int32))]) (rest := []) ⟨hx, hb, hml, hown, hts⟩ (c_Md_act l G H.size a_t a_t_truth a_t_present a_t_helped a_t_counted a_t_told a_t_runs a_t_whose a_t_where a_t_what a_t_before a_t_behind a_t_isOn a_t_tryEntries a_t_tryMarks a_t_text a_t_entries a_t_marked p0 (x_t_where (x_t_present p0.toNatClampNeg).toNatClampNeg) ((x_t_what (x_t_present p0.toNatClampNeg).toNatClampNeg) + (10 : Int32)) (0 : Int32) x_t_places x_t_persons x_t_many x_t_size x_t_at x_t_sought x_t_found x_t_entries x_t_marked _ _ hy13) (cwV 3 hts (gV gw_450 gw_451 gw_20 gw_36 gw_452) rfl rfl rfl (by decide +kernel) ⟨Nat.le_of_ble_eq_true rfl, Nat.le_of_ble_eq_true rfl⟩) (pV hK hN hPc hDc (ci := 6) (q0 := 0) rfl rfl) rfl rfl hl.1 rfl (lv_room (Nat.le_of_ble_eq_true rfl)) d_Md_undo_78 ⟨Nat.le_of_ble_eq_true rfl, Nat.le_of_ble_eq_true rfl⟩) hS (fun q _ h => hFc q h) hFc (fun H1 locs hB hz hk hS => ?_)
          obtain ⟨hP, hD⟩ := q_join (wr := [(a_t_present, .inl (G.2 0, 8, .inl x_t_present)), (a_t_where, .inl (G.2 0, 600, .inl x_t_where)), (a_t_what, .inl (G.2 0, 600, .inl x_t_what)), (a_t_before, .inl (G.2 0, 600, .inl x_t_before)), (a_t_behind, .inl (G.2 0, 600, .inl x_t_behind))]) (wn := (ws_Md_undo G a_t a_t_truth a_t_helped a_t_counted a_t_told a_t_runs a_t_whose a_t_isOn a_t_tryEntries a_t_tryMarks a_t_text a_t_entries a_t_marked a_t_present a_t_where a_t_what a_t_before a_t_behind (0 : Int32) x_t_places x_t_persons x_t_many x_t_size x_t_at x_t_sought x_t_found y13.1 y13.2 x_t_present x_t_where x_t_what x_t_before x_t_behind)) hP hD [0, 1, 2] [3, 4, 5, 6, 7] [5, 6, 7, 0, 1, 2, 3, 4] rfl rfl (by decide) (by decide) rfl (by decide) hk hFc hB.1 hB.2
          generalize H1 = H at hP hS ⊢
          replace hP : va_P G.1 vwCl (ws_Md_undo G a_t a_t_truth a_t_helped a_t_counted a_t_told a_t_runs a_t_whose a_t_isOn a_t_tryEntries a_t_tryMarks a_t_text a_t_entries a_t_marked a_t_present a_t_where a_t_what a_t_before a_t_behind (0 : Int32) x_t_places x_t_persons x_t_many x_t_size x_t_at x_t_sought x_t_found y13.1 y13.2 x_t_present x_t_where x_t_what x_t_before x_t_behind) H := hP
          replace hD : va_D A (ws_Md_undo G a_t a_t_truth a_t_helped a_t_counted a_t_told a_t_runs a_t_whose a_t_isOn a_t_tryEntries a_t_tryMarks a_t_text a_t_entries a_t_marked a_t_present a_t_where a_t_what a_t_before a_t_behind (0 : Int32) x_t_places x_t_persons x_t_many x_t_size x_t_at x_t_sought x_t_found y13.1 y13.2 x_t_present x_t_where x_t_what x_t_before x_t_behind) := hD
          refine lv_aload_n hx hb d_Md_undo_81 rfl (lv_at hl 2 rfl) ?_
          refine va_get (D := G.1) (ci := 6) (v := .ref a_t_present) (C := "PlayStatesModel") (T := TMd) (N := 25) hx hb hts iw_6 hown hK hP 0 rfl rfl 6 (by decide) (hts _ gw_385) (fun _ h9 => h9) rfl d_Md_undo_82 ?_
          refine lv_iload_n hx hb d_Md_undo_85 rfl (lv_at hl 3 rfl) ?_
          refine lv_aload_n hx hb d_Md_undo_86 rfl (lv_at hl 2 rfl) ?_
          refine va_get (D := G.1) (ci := 6) (v := .ref a_t_behind) (C := "PlayStatesModel") (T := TMd) (N := 25) hx hb hts iw_6 hown hK hP 0 rfl rfl 16 (by decide) (hts _ gw_395) (fun _ h9 => h9) rfl d_Md_undo_87 ?_
          refine lv_iload_n hx hb d_Md_undo_90 rfl (lv_at hl 1 rfl) ?_
          obtain ⟨i14, h⟩ := o_if h
          refine va_iald (n := 600) (f := x_t_behind) hx hb hK hP 7 0 rfl rfl i14 d_Md_undo_91 ?_
          obtain ⟨i15, h⟩ := o_if h
          refine va_iast (n := 8) (f := x_t_present) hx hb hK hP hD hS 3 0 rfl rfl i15 d_Md_undo_92 (fun H locs hP hD hS => ?_)
          replace hP : va_P G.1 vwCl (ws_Md_undo G a_t a_t_truth a_t_helped a_t_counted a_t_told a_t_runs a_t_whose a_t_isOn a_t_tryEntries a_t_tryMarks a_t_text a_t_entries a_t_marked a_t_present a_t_where a_t_what a_t_before a_t_behind (0 : Int32) x_t_places x_t_persons x_t_many x_t_size x_t_at x_t_sought x_t_found y13.1 y13.2 (upd x_t_present p0.toNatClampNeg (x_t_behind (x_t_present p0.toNatClampNeg).toNatClampNeg)) x_t_where x_t_what x_t_before x_t_behind) H := hP
          replace hD : va_D A (ws_Md_undo G a_t a_t_truth a_t_helped a_t_counted a_t_told a_t_runs a_t_whose a_t_isOn a_t_tryEntries a_t_tryMarks a_t_text a_t_entries a_t_marked a_t_present a_t_where a_t_what a_t_before a_t_behind (0 : Int32) x_t_places x_t_persons x_t_many x_t_size x_t_at x_t_sought x_t_found y13.1 y13.2 (upd x_t_present p0.toNatClampNeg (x_t_behind (x_t_present p0.toNatClampNeg).toNatClampNeg)) x_t_where x_t_what x_t_before x_t_behind) := hD
          refine lv_iload_n hx hb d_Md_undo_93 rfl (lv_at hl 1 rfl) ?_
          cases h
          exact q_iretW hx hb hr hlocks hP hD hS d_Md_undo_94
      · replace h := (if_neg c8).symm.trans h
        refine lv_aload_n hx hb d_Md_undo_52 rfl (lv_at hl 2 rfl) ?_
        refine va_get (D := G.1) (ci := 6) (v := .ref a_t_before) (C := "PlayStatesModel") (T := TMd) (N := 25) hx hb hts iw_6 hown hK hP 0 rfl rfl 15 (by decide) (hts _ gw_394) (fun _ h9 => h9) rfl d_Md_undo_53 ?_
        refine lv_iload_n hx hb d_Md_undo_56 rfl (lv_at hl 1 rfl) ?_
        obtain ⟨i16, h⟩ := o_if h
        refine va_iald (n := 600) (f := x_t_before) hx hb hK hP 6 0 rfl rfl i16 d_Md_undo_57 ?_
        refine lv_goto (tgt := 78) hx hb d_Md_undo_58 (by decide) ?_
        obtain ⟨y17, hy17, h⟩ := o_bind h
        have hPc := hP.sub (ws' := (ws_Md_act G a_t a_t_truth a_t_present a_t_helped a_t_counted a_t_told a_t_runs a_t_whose a_t_where a_t_what a_t_before a_t_behind a_t_isOn a_t_tryEntries a_t_tryMarks a_t_text a_t_entries a_t_marked (0 : Int32) x_t_places x_t_persons x_t_many x_t_size x_t_at x_t_sought x_t_found x_t_entries x_t_marked)) [0, 1, 2] rfl
        have hDc := hD.sub (ws' := (ws_Md_act G a_t a_t_truth a_t_present a_t_helped a_t_counted a_t_told a_t_runs a_t_whose a_t_where a_t_what a_t_before a_t_behind a_t_isOn a_t_tryEntries a_t_tryMarks a_t_text a_t_entries a_t_marked (0 : Int32) x_t_places x_t_persons x_t_many x_t_size x_t_at x_t_sought x_t_found x_t_entries x_t_marked)) [0, 1, 2] (by decide) rfl
        have hFc := va_free (wc := (ws_Md_act G a_t a_t_truth a_t_present a_t_helped a_t_counted a_t_told a_t_runs a_t_whose a_t_where a_t_what a_t_before a_t_behind a_t_isOn a_t_tryEntries a_t_tryMarks a_t_text a_t_entries a_t_marked (0 : Int32) x_t_places x_t_persons x_t_many x_t_size x_t_at x_t_sought x_t_found x_t_entries x_t_marked)) hD hS hA [0, 1, 2] rfl
        refine q_call0 (va_runV (As := [.int p0, .int (x_t_where (x_t_present p0.toNatClampNeg).toNatClampNeg), .int (x_t_before (x_t_present p0.toNatClampNeg).toNatClampNeg)]) (rest := []) ⟨hx, hb, hml, hown, hts⟩ (c_Md_act l G H.size a_t a_t_truth a_t_present a_t_helped a_t_counted a_t_told a_t_runs a_t_whose a_t_where a_t_what a_t_before a_t_behind a_t_isOn a_t_tryEntries a_t_tryMarks a_t_text a_t_entries a_t_marked p0 (x_t_where (x_t_present p0.toNatClampNeg).toNatClampNeg) (x_t_before (x_t_present p0.toNatClampNeg).toNatClampNeg) (0 : Int32) x_t_places x_t_persons x_t_many x_t_size x_t_at x_t_sought x_t_found x_t_entries x_t_marked _ _ hy17) (cwV 3 hts (gV gw_450 gw_451 gw_20 gw_36 gw_452) rfl rfl rfl (by decide +kernel) ⟨Nat.le_of_ble_eq_true rfl, Nat.le_of_ble_eq_true rfl⟩) (pV hK hN hPc hDc (ci := 6) (q0 := 0) rfl rfl) rfl rfl hl.1 rfl (lv_room (Nat.le_of_ble_eq_true rfl)) d_Md_undo_78 ⟨Nat.le_of_ble_eq_true rfl, Nat.le_of_ble_eq_true rfl⟩) hS (fun q _ h => hFc q h) hFc (fun H1 locs hB hz hk hS => ?_)
        obtain ⟨hP, hD⟩ := q_join (wr := [(a_t_present, .inl (G.2 0, 8, .inl x_t_present)), (a_t_where, .inl (G.2 0, 600, .inl x_t_where)), (a_t_what, .inl (G.2 0, 600, .inl x_t_what)), (a_t_before, .inl (G.2 0, 600, .inl x_t_before)), (a_t_behind, .inl (G.2 0, 600, .inl x_t_behind))]) (wn := (ws_Md_undo G a_t a_t_truth a_t_helped a_t_counted a_t_told a_t_runs a_t_whose a_t_isOn a_t_tryEntries a_t_tryMarks a_t_text a_t_entries a_t_marked a_t_present a_t_where a_t_what a_t_before a_t_behind (0 : Int32) x_t_places x_t_persons x_t_many x_t_size x_t_at x_t_sought x_t_found y17.1 y17.2 x_t_present x_t_where x_t_what x_t_before x_t_behind)) hP hD [0, 1, 2] [3, 4, 5, 6, 7] [5, 6, 7, 0, 1, 2, 3, 4] rfl rfl (by decide) (by decide) rfl (by decide) hk hFc hB.1 hB.2
        generalize H1 = H at hP hS ⊢
        replace hP : va_P G.1 vwCl (ws_Md_undo G a_t a_t_truth a_t_helped a_t_counted a_t_told a_t_runs a_t_whose a_t_isOn a_t_tryEntries a_t_tryMarks a_t_text a_t_entries a_t_marked a_t_present a_t_where a_t_what a_t_before a_t_behind (0 : Int32) x_t_places x_t_persons x_t_many x_t_size x_t_at x_t_sought x_t_found y17.1 y17.2 x_t_present x_t_where x_t_what x_t_before x_t_behind) H := hP
        replace hD : va_D A (ws_Md_undo G a_t a_t_truth a_t_helped a_t_counted a_t_told a_t_runs a_t_whose a_t_isOn a_t_tryEntries a_t_tryMarks a_t_text a_t_entries a_t_marked a_t_present a_t_where a_t_what a_t_before a_t_behind (0 : Int32) x_t_places x_t_persons x_t_many x_t_size x_t_at x_t_sought x_t_found y17.1 y17.2 x_t_present x_t_where x_t_what x_t_before x_t_behind) := hD
        refine lv_aload_n hx hb d_Md_undo_81 rfl (lv_at hl 2 rfl) ?_
        refine va_get (D := G.1) (ci := 6) (v := .ref a_t_present) (C := "PlayStatesModel") (T := TMd) (N := 25) hx hb hts iw_6 hown hK hP 0 rfl rfl 6 (by decide) (hts _ gw_385) (fun _ h9 => h9) rfl d_Md_undo_82 ?_
        refine lv_iload_n hx hb d_Md_undo_85 rfl (lv_at hl 3 rfl) ?_
        refine lv_aload_n hx hb d_Md_undo_86 rfl (lv_at hl 2 rfl) ?_
        refine va_get (D := G.1) (ci := 6) (v := .ref a_t_behind) (C := "PlayStatesModel") (T := TMd) (N := 25) hx hb hts iw_6 hown hK hP 0 rfl rfl 16 (by decide) (hts _ gw_395) (fun _ h9 => h9) rfl d_Md_undo_87 ?_
        refine lv_iload_n hx hb d_Md_undo_90 rfl (lv_at hl 1 rfl) ?_
        obtain ⟨i18, h⟩ := o_if h
        refine va_iald (n := 600) (f := x_t_behind) hx hb hK hP 7 0 rfl rfl i18 d_Md_undo_91 ?_
        obtain ⟨i19, h⟩ := o_if h
        refine va_iast (n := 8) (f := x_t_present) hx hb hK hP hD hS 3 0 rfl rfl i19 d_Md_undo_92 (fun H locs hP hD hS => ?_)
        replace hP : va_P G.1 vwCl (ws_Md_undo G a_t a_t_truth a_t_helped a_t_counted a_t_told a_t_runs a_t_whose a_t_isOn a_t_tryEntries a_t_tryMarks a_t_text a_t_entries a_t_marked a_t_present a_t_where a_t_what a_t_before a_t_behind (0 : Int32) x_t_places x_t_persons x_t_many x_t_size x_t_at x_t_sought x_t_found y17.1 y17.2 (upd x_t_present p0.toNatClampNeg (x_t_behind (x_t_present p0.toNatClampNeg).toNatClampNeg)) x_t_where x_t_what x_t_before x_t_behind) H := hP
        replace hD : va_D A (ws_Md_undo G a_t a_t_truth a_t_helped a_t_counted a_t_told a_t_runs a_t_whose a_t_isOn a_t_tryEntries a_t_tryMarks a_t_text a_t_entries a_t_marked a_t_present a_t_where a_t_what a_t_before a_t_behind (0 : Int32) x_t_places x_t_persons x_t_many x_t_size x_t_at x_t_sought x_t_found y17.1 y17.2 (upd x_t_present p0.toNatClampNeg (x_t_behind (x_t_present p0.toNatClampNeg).toNatClampNeg)) x_t_where x_t_what x_t_before x_t_behind) := hD
        refine lv_iload_n hx hb d_Md_undo_93 rfl (lv_at hl 1 rfl) ?_
        cases h
        exact q_iretW hx hb hr hlocks hP hD hS d_Md_undo_94
    · replace h := (if_neg c4).symm.trans h
      refine lv_iconst (v := (-1 : Int32)) hx hb d_Md_undo_22 (by decide) ?_
      cases h
      exact q_iretW hx hb hr hlocks hP hD hS d_Md_undo_23

theorem d_Md_branch_0 : decode prog_8_method_12_code 0 = .ok (.iconst 0, 1) := by decide +kernel
theorem d_Md_branch_1 : decode prog_8_method_12_code 1 = .ok (.istore_n 3, 1) := by decide +kernel
theorem d_Md_branch_2 : decode prog_8_method_12_code 2 = .ok (.iconst 0, 1) := by decide +kernel
theorem d_Md_branch_3 : decode prog_8_method_12_code 3 = .ok (.istore 4, 2) := by decide +kernel
theorem d_Md_branch_5 : decode prog_8_method_12_code 5 = .ok (.iload 4, 2) := by decide +kernel
theorem d_Md_branch_7 : decode prog_8_method_12_code 7 = .ok (.aload_n 0, 1) := by decide +kernel
theorem d_Md_branch_8 : decode prog_8_method_12_code 8 = .ok (.getfield 79, 3) := by decide +kernel
theorem d_Md_branch_11 : decode prog_8_method_12_code 11 = .ok (.if_icmp .ge 50, 3) := by decide +kernel
theorem d_Md_branch_14 : decode prog_8_method_12_code 14 = .ok (.aload_n 0, 1) := by decide +kernel
theorem d_Md_branch_15 : decode prog_8_method_12_code 15 = .ok (.getfield 36, 3) := by decide +kernel
theorem d_Md_branch_18 : decode prog_8_method_12_code 18 = .ok (.iload 4, 2) := by decide +kernel
theorem d_Md_branch_20 : decode prog_8_method_12_code 20 = .ok (.iaload, 1) := by decide +kernel
theorem d_Md_branch_21 : decode prog_8_method_12_code 21 = .ok (.iload_n 1, 1) := by decide +kernel
theorem d_Md_branch_22 : decode prog_8_method_12_code 22 = .ok (.if_icmp .ne 33, 3) := by decide +kernel
theorem d_Md_branch_25 : decode prog_8_method_12_code 25 = .ok (.aload_n 0, 1) := by decide +kernel
theorem d_Md_branch_26 : decode prog_8_method_12_code 26 = .ok (.getfield 48, 3) := by decide +kernel
theorem d_Md_branch_29 : decode prog_8_method_12_code 29 = .ok (.iload 4, 2) := by decide +kernel
theorem d_Md_branch_31 : decode prog_8_method_12_code 31 = .ok (.iaload, 1) := by decide +kernel
theorem d_Md_branch_32 : decode prog_8_method_12_code 32 = .ok (.aload_n 0, 1) := by decide +kernel
theorem d_Md_branch_33 : decode prog_8_method_12_code 33 = .ok (.getfield 19, 3) := by decide +kernel
theorem d_Md_branch_36 : decode prog_8_method_12_code 36 = .ok (.iload_n 1, 1) := by decide +kernel
theorem d_Md_branch_37 : decode prog_8_method_12_code 37 = .ok (.iaload, 1) := by decide +kernel
theorem d_Md_branch_38 : decode prog_8_method_12_code 38 = .ok (.if_icmp .eq 6, 3) := by decide +kernel
theorem d_Md_branch_41 : decode prog_8_method_12_code 41 = .ok (.goto 14, 3) := by decide +kernel
theorem d_Md_branch_44 : decode prog_8_method_12_code 44 = .ok (.iload_n 3, 1) := by decide +kernel
theorem d_Md_branch_45 : decode prog_8_method_12_code 45 = .ok (.iload_n 2, 1) := by decide +kernel
theorem d_Md_branch_46 : decode prog_8_method_12_code 46 = .ok (.if_icmp .ne 6, 3) := by decide +kernel
theorem d_Md_branch_49 : decode prog_8_method_12_code 49 = .ok (.iload 4, 2) := by decide +kernel
theorem d_Md_branch_51 : decode prog_8_method_12_code 51 = .ok (.ireturn, 1) := by decide +kernel
theorem d_Md_branch_52 : decode prog_8_method_12_code 52 = .ok (.iinc 3 1, 3) := by decide +kernel
theorem d_Md_branch_55 : decode prog_8_method_12_code 55 = .ok (.iinc 4 1, 3) := by decide +kernel
theorem d_Md_branch_58 : decode prog_8_method_12_code 58 = .ok (.goto (-53), 3) := by decide +kernel
theorem d_Md_branch_61 : decode prog_8_method_12_code 61 = .ok (.iload_n 2, 1) := by decide +kernel
theorem d_Md_branch_62 : decode prog_8_method_12_code 62 = .ok (.ifCond .ge 7, 3) := by decide +kernel
theorem d_Md_branch_65 : decode prog_8_method_12_code 65 = .ok (.iload_n 3, 1) := by decide +kernel
theorem d_Md_branch_66 : decode prog_8_method_12_code 66 = .ok (.goto 4, 3) := by decide +kernel
theorem d_Md_branch_69 : decode prog_8_method_12_code 69 = .ok (.iconst (-1), 1) := by decide +kernel
theorem d_Md_branch_70 : decode prog_8_method_12_code 70 = .ok (.ireturn, 1) := by decide +kernel
-- PlayStatesModel.branch(II)I 
def ws_Md_branch (G : gG) (a_t a_t_truth a_t_entries a_t_marked a_t_helped a_t_counted a_t_told a_t_runs a_t_where a_t_what a_t_before a_t_isOn a_t_tryEntries a_t_tryMarks a_t_text a_t_present a_t_whose a_t_behind : Nat)  (x_t_thrown : Int32) (x_t_places : Int32) (x_t_persons : Int32) (x_t_many : Int32) (x_t_size : Int32) (x_t_at : Int32) (x_t_sought : Int32) (x_t_found : Int32) (x_t_present : Nat → Int32) (x_t_whose : Nat → Int32) (x_t_behind : Nat → Int32) : va_W := [(a_t, .inr (6, [.int x_t_thrown, .int x_t_places, .int x_t_persons, .ref a_t_truth, .ref a_t_entries, .ref a_t_marked, .ref a_t_present, .ref a_t_helped, .ref a_t_counted, .ref a_t_told, .ref a_t_runs, .int x_t_many, .ref a_t_whose, .ref a_t_where, .ref a_t_what, .ref a_t_before, .ref a_t_behind, .ref a_t_isOn, .ref a_t_tryEntries, .ref a_t_tryMarks, .int x_t_size, .ref a_t_text, .int x_t_at, .int x_t_sought, .int x_t_found])), (a_t_present, .inl (G.2 0, 8, .inl x_t_present)), (a_t_whose, .inl (G.2 0, 600, .inl x_t_whose)), (a_t_behind, .inl (G.2 0, 600, .inl x_t_behind))]
def fb_Md_branch_L5 (fu : Nat) (x_t_thrown : Int32) (x_t_places : Int32) (x_t_persons : Int32) (x_t_many : Int32) (x_t_size : Int32) (x_t_at : Int32) (x_t_sought : Int32) (x_t_found : Int32) (x_t_present : Nat → Int32) (x_t_whose : Nat → Int32) (x_t_behind : Nat → Int32)  (k5 : (Int32 → Int32 → Int32 → Int32 → Option (Int32))) (l5_1 : Int32) (l5_2 : Int32) (l5_3 : Int32) (l5_4 : Int32) : Option (Int32) :=
  (if x_t_many ≤ l5_4 then (if 0 ≤ l5_2 then some (-1 : Int32) else some l5_3) else (if inB l5_4 600 then (if (x_t_whose l5_4.toNatClampNeg) = l5_1 then (if inB l5_4 600 then (if inB l5_1 8 then (if (x_t_behind l5_4.toNatClampNeg) = (x_t_present l5_1.toNatClampNeg) then (if l5_3 = l5_2 then some l5_4 else (k5 l5_1 l5_2 (l5_3 + (1 : Int32)) (l5_4 + (1 : Int32)))) else (k5 l5_1 l5_2 l5_3 (l5_4 + (1 : Int32)))) else none) else none) else (k5 l5_1 l5_2 l5_3 (l5_4 + (1 : Int32)))) else none))
def f_Md_branch_L5 (fu : Nat) (x_t_thrown : Int32) (x_t_places : Int32) (x_t_persons : Int32) (x_t_many : Int32) (x_t_size : Int32) (x_t_at : Int32) (x_t_sought : Int32) (x_t_found : Int32) (x_t_present : Nat → Int32) (x_t_whose : Nat → Int32) (x_t_behind : Nat → Int32)  : Nat → Int32 → Int32 → Int32 → Int32 → Option (Int32)
  | 0 => fun _ _ _ _ => none
  | k9 + 1 => fb_Md_branch_L5 fu x_t_thrown x_t_places x_t_persons x_t_many x_t_size x_t_at x_t_sought x_t_found x_t_present x_t_whose x_t_behind (f_Md_branch_L5 fu x_t_thrown x_t_places x_t_persons x_t_many x_t_size x_t_at x_t_sought x_t_found x_t_present x_t_whose x_t_behind k9)
def f_Md_branch (fu : Nat)  (p0 : Int32) (p1 : Int32) (x_t_thrown : Int32) (x_t_places : Int32) (x_t_persons : Int32) (x_t_many : Int32) (x_t_size : Int32) (x_t_at : Int32) (x_t_sought : Int32) (x_t_found : Int32) (x_t_present : Nat → Int32) (x_t_whose : Nat → Int32) (x_t_behind : Nat → Int32) : Option (Int32) :=
  (f_Md_branch_L5 fu x_t_thrown x_t_places x_t_persons x_t_many x_t_size x_t_at x_t_sought x_t_found x_t_present x_t_whose x_t_behind fu p0 p1 (0 : Int32) (0 : Int32))
set_option maxHeartbeats 4000000 in
set_option maxRecDepth 100000 in
theorem c_Md_branch (l : Launch) (G : gG) (sz : Nat) (a_t a_t_truth a_t_entries a_t_marked a_t_helped a_t_counted a_t_told a_t_runs a_t_where a_t_what a_t_before a_t_isOn a_t_tryEntries a_t_tryMarks a_t_text a_t_present a_t_whose a_t_behind : Nat) (fu : Nat)  (p0 : Int32) (p1 : Int32) (x_t_thrown : Int32) (x_t_places : Int32) (x_t_persons : Int32) (x_t_many : Int32) (x_t_size : Int32) (x_t_at : Int32) (x_t_sought : Int32) (x_t_found : Int32) (x_t_present : Nat → Int32) (x_t_whose : Nat → Int32) (x_t_behind : Nat → Int32) (r : Int32) (h : f_Md_branch fu p0 p1 x_t_thrown x_t_places x_t_persons x_t_many x_t_size x_t_at x_t_sought x_t_found x_t_present x_t_whose x_t_behind = some r)  : cN l y_Md_branch w_Md_branch { frames := 0, cells := 0, slots := 0, locals := 0 } G sz [.ref a_t, .int p0, .int p1] (ws_Md_branch G a_t a_t_truth a_t_entries a_t_marked a_t_helped a_t_counted a_t_told a_t_runs a_t_where a_t_what a_t_before a_t_isOn a_t_tryEntries a_t_tryMarks a_t_text a_t_present a_t_whose a_t_behind x_t_thrown x_t_places x_t_persons x_t_many x_t_size x_t_at x_t_sought x_t_found x_t_present x_t_whose x_t_behind) (some (.int r)) (wB G (ws_Md_branch G a_t a_t_truth a_t_entries a_t_marked a_t_helped a_t_counted a_t_told a_t_runs a_t_where a_t_what a_t_before a_t_isOn a_t_tryEntries a_t_tryMarks a_t_text a_t_present a_t_whose a_t_behind x_t_thrown x_t_places x_t_persons x_t_many x_t_size x_t_at x_t_sought x_t_found x_t_present x_t_whose x_t_behind)) 0 0 := by
  refine cN_ofW (cc := prog_8_method_12_code) (maxL := 5) (ret := (some .int)) (by decide) rfl (Nat.le_of_ble_eq_true rfl) ?_
  intro p e s m args below meth c A H locs ls hx hb hr hts hown hlocks hin hml hK hN hP hD hA hS hl
  replace hl : lv_has ls 5 [(0, .ref a_t), (1, .int p0), (2, .int p1)] := hl
  replace hown : s.vm.findClass "PlayStatesModel" = some m.cls := hown
  unfold f_Md_branch at h
  refine lv_iconst (v := (0 : Int32)) hx hb d_Md_branch_0 (by decide) ?_
  refine lv_istore_n (lv' := [(3, .int (0 : Int32)), (0, .ref a_t), (1, .int p0), (2, .int p1)]) hx hb d_Md_branch_1 rfl hl (by decide) rfl (fun ls hl => ?_)
  refine lv_iconst (v := (0 : Int32)) hx hb d_Md_branch_2 (by decide) ?_
  refine lv_istore (lv' := [(4, .int (0 : Int32)), (3, .int (0 : Int32)), (0, .ref a_t), (1, .int p0), (2, .int p1)]) hx hb d_Md_branch_3 hl (by decide) rfl (fun ls hl => ?_)
  have L5 : ∀ (nf : Nat) (l5_1 : Int32) (l5_2 : Int32) (l5_3 : Int32) (l5_4 : Int32) (H : Heap) (locs : List Loc) (ls : Array Slot), f_Md_branch_L5 fu x_t_thrown x_t_places x_t_persons x_t_many x_t_size x_t_at x_t_sought x_t_found x_t_present x_t_whose x_t_behind nf l5_1 l5_2 l5_3 l5_4 = some r → va_P G.1 vwCl (ws_Md_branch G a_t a_t_truth a_t_entries a_t_marked a_t_helped a_t_counted a_t_told a_t_runs a_t_where a_t_what a_t_before a_t_isOn a_t_tryEntries a_t_tryMarks a_t_text a_t_present a_t_whose a_t_behind x_t_thrown x_t_places x_t_persons x_t_many x_t_size x_t_at x_t_sought x_t_found x_t_present x_t_whose x_t_behind) H → va_D A (ws_Md_branch G a_t a_t_truth a_t_entries a_t_marked a_t_helped a_t_counted a_t_told a_t_runs a_t_where a_t_what a_t_before a_t_isOn a_t_tryEntries a_t_tryMarks a_t_text a_t_present a_t_whose a_t_behind x_t_thrown x_t_places x_t_persons x_t_many x_t_size x_t_at x_t_sought x_t_found x_t_present x_t_whose x_t_behind) → va_S A s.heap H locs → lv_has ls 5 [(0, .ref a_t), (1, .int l5_1), (2, .int l5_2), (3, .int l5_3), (4, .int l5_4)] → W p l e { frames := 0, cells := 0, slots := 0, locals := 0 } s m args below meth c H locs 0 0 (MQ below (qQ (some (.int r)) (wB G (ws_Md_branch G a_t a_t_truth a_t_entries a_t_marked a_t_helped a_t_counted a_t_told a_t_runs a_t_where a_t_what a_t_before a_t_isOn a_t_tryEntries a_t_tryMarks a_t_text a_t_present a_t_whose a_t_behind x_t_thrown x_t_places x_t_persons x_t_many x_t_size x_t_at x_t_sought x_t_found x_t_present x_t_whose x_t_behind) A) A) args s 0 0 A) (F0 m 5 ls []) := by
    clear h hP hD hS hl
    intro n5
    induction n5 with
    | zero => intro _ _ _ _ H locs ls h; exact nomatch (show none = some _ from h)
    | succ n5 ih5 =>
      intro l5_1 l5_2 l5_3 l5_4 H locs ls h hP hD hS hl
      replace h : fb_Md_branch_L5 fu x_t_thrown x_t_places x_t_persons x_t_many x_t_size x_t_at x_t_sought x_t_found x_t_present x_t_whose x_t_behind (f_Md_branch_L5 fu x_t_thrown x_t_places x_t_persons x_t_many x_t_size x_t_at x_t_sought x_t_found x_t_present x_t_whose x_t_behind n5) l5_1 l5_2 l5_3 l5_4 = some r := h
      unfold fb_Md_branch_L5 at h
      refine lv_iload hx hb d_Md_branch_5 (lv_at hl 4 rfl) ?_
      refine lv_aload_n hx hb d_Md_branch_7 rfl (lv_at hl 0 rfl) ?_
      refine va_get (D := G.1) (ci := 6) (v := .int x_t_many) (C := "PlayStatesModel") (T := TMd) (N := 25) hx hb hts iw_6 hown hK hP 0 rfl rfl 11 (by decide) (hts _ gw_390) (fun _ h9 => h9) rfl d_Md_branch_8 ?_
      refine lv_icmp_ge (tgt := 61) hx hb d_Md_branch_11 (by decide) (fun c1 => ?_) (fun c1 => ?_)
      · replace h := (if_pos c1).symm.trans h
        refine lv_iload_n hx hb d_Md_branch_61 rfl (lv_at hl 2 rfl) ?_
        refine lv_if_ge (tgt := 69) hx hb d_Md_branch_62 (by decide) (fun c2 => ?_) (fun c2 => ?_)
        · replace h := (if_pos c2).symm.trans h
          refine lv_iconst (v := (-1 : Int32)) hx hb d_Md_branch_69 (by decide) ?_
          cases h
          exact q_iretW hx hb hr hlocks hP hD hS d_Md_branch_70
        · replace h := (if_neg c2).symm.trans h
          refine lv_iload_n hx hb d_Md_branch_65 rfl (lv_at hl 3 rfl) ?_
          refine lv_goto (tgt := 70) hx hb d_Md_branch_66 (by decide) ?_
          cases h
          exact q_iretW hx hb hr hlocks hP hD hS d_Md_branch_70
      · replace h := (if_neg c1).symm.trans h
        refine lv_aload_n hx hb d_Md_branch_14 rfl (lv_at hl 0 rfl) ?_
        refine va_get (D := G.1) (ci := 6) (v := .ref a_t_whose) (C := "PlayStatesModel") (T := TMd) (N := 25) hx hb hts iw_6 hown hK hP 0 rfl rfl 12 (by decide) (hts _ gw_391) (fun _ h9 => h9) rfl d_Md_branch_15 ?_
        refine lv_iload hx hb d_Md_branch_18 (lv_at hl 4 rfl) ?_
        obtain ⟨i3, h⟩ := o_if h
        refine va_iald (n := 600) (f := x_t_whose) hx hb hK hP 2 0 rfl rfl i3 d_Md_branch_20 ?_
        refine lv_iload_n hx hb d_Md_branch_21 rfl (lv_at hl 1 rfl) ?_
        refine lv_icmp_ne (tgt := 55) hx hb d_Md_branch_22 (by decide) (fun c4 => ?_) (fun c4 => ?_)
        · replace h := (if_neg c4).symm.trans h
          refine lv_iinc (v := (l5_4 + (1 : Int32))) (lv' := [(4, .int (l5_4 + (1 : Int32))), (0, .ref a_t), (1, .int l5_1), (2, .int l5_2), (3, .int l5_3)]) hx hb d_Md_branch_55 hl (k := 4) rfl rfl (by decide) rfl (fun ls hl => ?_)
          refine lv_goto (tgt := 5) hx hb d_Md_branch_58 (by decide) ?_
          exact ih5 l5_1 l5_2 l5_3 (l5_4 + (1 : Int32)) _ _ _ h hP hD hS (lv_sub hl [1, 2, 3, 4, 0] rfl)
        · replace h := (if_pos c4).symm.trans h
          refine lv_aload_n hx hb d_Md_branch_25 rfl (lv_at hl 0 rfl) ?_
          refine va_get (D := G.1) (ci := 6) (v := .ref a_t_behind) (C := "PlayStatesModel") (T := TMd) (N := 25) hx hb hts iw_6 hown hK hP 0 rfl rfl 16 (by decide) (hts _ gw_395) (fun _ h9 => h9) rfl d_Md_branch_26 ?_
          refine lv_iload hx hb d_Md_branch_29 (lv_at hl 4 rfl) ?_
          obtain ⟨i5, h⟩ := o_if h
          refine va_iald (n := 600) (f := x_t_behind) hx hb hK hP 3 0 rfl rfl i5 d_Md_branch_31 ?_
          refine lv_aload_n hx hb d_Md_branch_32 rfl (lv_at hl 0 rfl) ?_
          refine va_get (D := G.1) (ci := 6) (v := .ref a_t_present) (C := "PlayStatesModel") (T := TMd) (N := 25) hx hb hts iw_6 hown hK hP 0 rfl rfl 6 (by decide) (hts _ gw_385) (fun _ h9 => h9) rfl d_Md_branch_33 ?_
          refine lv_iload_n hx hb d_Md_branch_36 rfl (lv_at hl 1 rfl) ?_
          obtain ⟨i6, h⟩ := o_if h
          refine va_iald (n := 8) (f := x_t_present) hx hb hK hP 1 0 rfl rfl i6 d_Md_branch_37 ?_
          refine lv_icmp_eq (tgt := 44) hx hb d_Md_branch_38 (by decide) (fun c7 => ?_) (fun c7 => ?_)
          · replace h := (if_pos c7).symm.trans h
            refine lv_iload_n hx hb d_Md_branch_44 rfl (lv_at hl 3 rfl) ?_
            refine lv_iload_n hx hb d_Md_branch_45 rfl (lv_at hl 2 rfl) ?_
            refine lv_icmp_ne (tgt := 52) hx hb d_Md_branch_46 (by decide) (fun c8 => ?_) (fun c8 => ?_)
            · replace h := (if_neg c8).symm.trans h
              refine lv_iinc (v := (l5_3 + (1 : Int32))) (lv' := [(3, .int (l5_3 + (1 : Int32))), (0, .ref a_t), (1, .int l5_1), (2, .int l5_2), (4, .int l5_4)]) hx hb d_Md_branch_52 hl (k := 3) rfl rfl (by decide) rfl (fun ls hl => ?_)
              refine lv_iinc (v := (l5_4 + (1 : Int32))) (lv' := [(4, .int (l5_4 + (1 : Int32))), (3, .int (l5_3 + (1 : Int32))), (0, .ref a_t), (1, .int l5_1), (2, .int l5_2)]) hx hb d_Md_branch_55 hl (k := 4) rfl rfl (by decide) rfl (fun ls hl => ?_)
              refine lv_goto (tgt := 5) hx hb d_Md_branch_58 (by decide) ?_
              exact ih5 l5_1 l5_2 (l5_3 + (1 : Int32)) (l5_4 + (1 : Int32)) _ _ _ h hP hD hS (lv_sub hl [2, 3, 4, 1, 0] rfl)
            · replace h := (if_pos c8).symm.trans h
              refine lv_iload hx hb d_Md_branch_49 (lv_at hl 4 rfl) ?_
              cases h
              exact q_iretW hx hb hr hlocks hP hD hS d_Md_branch_51
          · replace h := (if_neg c7).symm.trans h
            refine lv_goto (tgt := 55) hx hb d_Md_branch_41 (by decide) ?_
            refine lv_iinc (v := (l5_4 + (1 : Int32))) (lv' := [(4, .int (l5_4 + (1 : Int32))), (0, .ref a_t), (1, .int l5_1), (2, .int l5_2), (3, .int l5_3)]) hx hb d_Md_branch_55 hl (k := 4) rfl rfl (by decide) rfl (fun ls hl => ?_)
            refine lv_goto (tgt := 5) hx hb d_Md_branch_58 (by decide) ?_
            exact ih5 l5_1 l5_2 l5_3 (l5_4 + (1 : Int32)) _ _ _ h hP hD hS (lv_sub hl [1, 2, 3, 4, 0] rfl)
  exact L5 fu p0 p1 (0 : Int32) (0 : Int32) _ _ _ h hP hD hS (lv_sub hl [2, 3, 4, 1, 0] rfl)

theorem gw_467 : (.code ⟨"PlayStatesModel", "branch", "(II)I"⟩ prog_8_method_12_code 5 (some .int) : Cond) ∈ GW := gT 537 (by decide +kernel) (by decide +kernel)
theorem gw_465 : (.methodLink "PlayStatesModel" 97 ⟨"PlayStatesModel", "branch", "(II)I"⟩ : Cond) ∈ GW := gT 534 (by decide +kernel) (by decide +kernel)
theorem gw_466 : (.instanceMethod ⟨"PlayStatesModel", "branch", "(II)I"⟩ : Cond) ∈ GW := gT 536 (by decide +kernel) (by decide +kernel)
theorem gw_21 : (.selects "PlayStatesModel" ⟨"PlayStatesModel", "branch", "(II)I"⟩ ⟨"PlayStatesModel", "branch", "(II)I"⟩ : Cond) ∈ GW := gP 21 (by decide +kernel) (by decide +kernel)
theorem d_Md_redo_0 : decode prog_8_method_13_code 0 = .ok (.aload_n 0, 1) := by decide +kernel
theorem d_Md_redo_1 : decode prog_8_method_13_code 1 = .ok (.iconst 0, 1) := by decide +kernel
theorem d_Md_redo_2 : decode prog_8_method_13_code 2 = .ok (.putfield 69, 3) := by decide +kernel
theorem d_Md_redo_5 : decode prog_8_method_13_code 5 = .ok (.aload_n 0, 1) := by decide +kernel
theorem d_Md_redo_6 : decode prog_8_method_13_code 6 = .ok (.iload_n 1, 1) := by decide +kernel
theorem d_Md_redo_7 : decode prog_8_method_13_code 7 = .ok (.invokevirtual 86, 3) := by decide +kernel
theorem d_Md_redo_10 : decode prog_8_method_13_code 10 = .ok (.ifCond .eq 16, 3) := by decide +kernel
theorem d_Md_redo_13 : decode prog_8_method_13_code 13 = .ok (.iload_n 2, 1) := by decide +kernel
theorem d_Md_redo_14 : decode prog_8_method_13_code 14 = .ok (.ifCond .lt 12, 3) := by decide +kernel
theorem d_Md_redo_17 : decode prog_8_method_13_code 17 = .ok (.aload_n 0, 1) := by decide +kernel
theorem d_Md_redo_18 : decode prog_8_method_13_code 18 = .ok (.iload_n 1, 1) := by decide +kernel
theorem d_Md_redo_19 : decode prog_8_method_13_code 19 = .ok (.iload_n 2, 1) := by decide +kernel
theorem d_Md_redo_20 : decode prog_8_method_13_code 20 = .ok (.invokevirtual 97, 3) := by decide +kernel
theorem d_Md_redo_23 : decode prog_8_method_13_code 23 = .ok (.goto 4, 3) := by decide +kernel
theorem d_Md_redo_26 : decode prog_8_method_13_code 26 = .ok (.iconst (-1), 1) := by decide +kernel
theorem d_Md_redo_27 : decode prog_8_method_13_code 27 = .ok (.istore_n 3, 1) := by decide +kernel
theorem d_Md_redo_28 : decode prog_8_method_13_code 28 = .ok (.iload_n 3, 1) := by decide +kernel
theorem d_Md_redo_29 : decode prog_8_method_13_code 29 = .ok (.ifCond .ge 5, 3) := by decide +kernel
theorem d_Md_redo_32 : decode prog_8_method_13_code 32 = .ok (.iconst (-1), 1) := by decide +kernel
theorem d_Md_redo_33 : decode prog_8_method_13_code 33 = .ok (.ireturn, 1) := by decide +kernel
theorem d_Md_redo_34 : decode prog_8_method_13_code 34 = .ok (.aload_n 0, 1) := by decide +kernel
theorem d_Md_redo_35 : decode prog_8_method_13_code 35 = .ok (.iload_n 1, 1) := by decide +kernel
theorem d_Md_redo_36 : decode prog_8_method_13_code 36 = .ok (.aload_n 0, 1) := by decide +kernel
theorem d_Md_redo_37 : decode prog_8_method_13_code 37 = .ok (.getfield 39, 3) := by decide +kernel
theorem d_Md_redo_40 : decode prog_8_method_13_code 40 = .ok (.iload_n 3, 1) := by decide +kernel
theorem d_Md_redo_41 : decode prog_8_method_13_code 41 = .ok (.iaload, 1) := by decide +kernel
theorem d_Md_redo_42 : decode prog_8_method_13_code 42 = .ok (.aload_n 0, 1) := by decide +kernel
theorem d_Md_redo_43 : decode prog_8_method_13_code 43 = .ok (.getfield 42, 3) := by decide +kernel
theorem d_Md_redo_46 : decode prog_8_method_13_code 46 = .ok (.iload_n 3, 1) := by decide +kernel
theorem d_Md_redo_47 : decode prog_8_method_13_code 47 = .ok (.iaload, 1) := by decide +kernel
theorem d_Md_redo_48 : decode prog_8_method_13_code 48 = .ok (.invokevirtual 82, 3) := by decide +kernel
theorem d_Md_redo_51 : decode prog_8_method_13_code 51 = .ok (.aload_n 0, 1) := by decide +kernel
theorem d_Md_redo_52 : decode prog_8_method_13_code 52 = .ok (.getfield 19, 3) := by decide +kernel
theorem d_Md_redo_55 : decode prog_8_method_13_code 55 = .ok (.iload_n 1, 1) := by decide +kernel
theorem d_Md_redo_56 : decode prog_8_method_13_code 56 = .ok (.iload_n 3, 1) := by decide +kernel
theorem d_Md_redo_57 : decode prog_8_method_13_code 57 = .ok (.iastore, 1) := by decide +kernel
theorem d_Md_redo_58 : decode prog_8_method_13_code 58 = .ok (.iload_n 3, 1) := by decide +kernel
theorem d_Md_redo_59 : decode prog_8_method_13_code 59 = .ok (.ireturn, 1) := by decide +kernel
-- PlayStatesModel.redo(II)I 
def ws_Md_redo (G : gG) (a_t a_t_truth a_t_helped a_t_counted a_t_told a_t_runs a_t_before a_t_isOn a_t_tryEntries a_t_tryMarks a_t_text a_t_entries a_t_marked a_t_present a_t_whose a_t_where a_t_what a_t_behind : Nat)  (x_t_thrown : Int32) (x_t_places : Int32) (x_t_persons : Int32) (x_t_many : Int32) (x_t_size : Int32) (x_t_at : Int32) (x_t_sought : Int32) (x_t_found : Int32) (x_t_entries : Nat → Int32) (x_t_marked : Nat → Int32) (x_t_present : Nat → Int32) (x_t_whose : Nat → Int32) (x_t_where : Nat → Int32) (x_t_what : Nat → Int32) (x_t_behind : Nat → Int32) : va_W := [(a_t, .inr (6, [.int x_t_thrown, .int x_t_places, .int x_t_persons, .ref a_t_truth, .ref a_t_entries, .ref a_t_marked, .ref a_t_present, .ref a_t_helped, .ref a_t_counted, .ref a_t_told, .ref a_t_runs, .int x_t_many, .ref a_t_whose, .ref a_t_where, .ref a_t_what, .ref a_t_before, .ref a_t_behind, .ref a_t_isOn, .ref a_t_tryEntries, .ref a_t_tryMarks, .int x_t_size, .ref a_t_text, .int x_t_at, .int x_t_sought, .int x_t_found])), (a_t_entries, .inl (G.2 0, 648, .inl x_t_entries)), (a_t_marked, .inl (G.2 0, 648, .inl x_t_marked)), (a_t_present, .inl (G.2 0, 8, .inl x_t_present)), (a_t_whose, .inl (G.2 0, 600, .inl x_t_whose)), (a_t_where, .inl (G.2 0, 600, .inl x_t_where)), (a_t_what, .inl (G.2 0, 600, .inl x_t_what)), (a_t_behind, .inl (G.2 0, 600, .inl x_t_behind))]
def f_Md_redo (fu : Nat)  (p0 : Int32) (p1 : Int32) (x_t_thrown : Int32) (x_t_places : Int32) (x_t_persons : Int32) (x_t_many : Int32) (x_t_size : Int32) (x_t_at : Int32) (x_t_sought : Int32) (x_t_found : Int32) (x_t_entries : Nat → Int32) (x_t_marked : Nat → Int32) (x_t_present : Nat → Int32) (x_t_whose : Nat → Int32) (x_t_where : Nat → Int32) (x_t_what : Nat → Int32) (x_t_behind : Nat → Int32) : Option (Int32 × Int32 × (Nat → Int32) × (Nat → Int32) × (Nat → Int32)) :=
  ((f_Md_isPerson p0 (0 : Int32) x_t_places x_t_persons x_t_many x_t_size x_t_at x_t_sought x_t_found).bind fun y1 => (if y1 = 0 then (if 0 ≤ (-1 : Int32) then (if inB (-1 : Int32) 600 then (if inB (-1 : Int32) 600 then ((f_Md_act p0 (x_t_where (-1 : Int32).toNatClampNeg) (x_t_what (-1 : Int32).toNatClampNeg) (0 : Int32) x_t_places x_t_persons x_t_many x_t_size x_t_at x_t_sought x_t_found x_t_entries x_t_marked).bind fun y6 => (if inB p0 8 then some ((-1 : Int32), (0 : Int32), y6.1, y6.2, (upd x_t_present p0.toNatClampNeg (-1 : Int32))) else none)) else none) else none) else some ((-1 : Int32), (0 : Int32), x_t_entries, x_t_marked, x_t_present)) else (if p1 < 0 then (if 0 ≤ (-1 : Int32) then (if inB (-1 : Int32) 600 then (if inB (-1 : Int32) 600 then ((f_Md_act p0 (x_t_where (-1 : Int32).toNatClampNeg) (x_t_what (-1 : Int32).toNatClampNeg) (0 : Int32) x_t_places x_t_persons x_t_many x_t_size x_t_at x_t_sought x_t_found x_t_entries x_t_marked).bind fun y12 => (if inB p0 8 then some ((-1 : Int32), (0 : Int32), y12.1, y12.2, (upd x_t_present p0.toNatClampNeg (-1 : Int32))) else none)) else none) else none) else some ((-1 : Int32), (0 : Int32), x_t_entries, x_t_marked, x_t_present)) else ((f_Md_branch fu p0 p1 (0 : Int32) x_t_places x_t_persons x_t_many x_t_size x_t_at x_t_sought x_t_found x_t_present x_t_whose x_t_behind).bind fun y14 => (if 0 ≤ y14 then (if inB y14 600 then (if inB y14 600 then ((f_Md_act p0 (x_t_where y14.toNatClampNeg) (x_t_what y14.toNatClampNeg) (0 : Int32) x_t_places x_t_persons x_t_many x_t_size x_t_at x_t_sought x_t_found x_t_entries x_t_marked).bind fun y18 => (if inB p0 8 then some (y14, (0 : Int32), y18.1, y18.2, (upd x_t_present p0.toNatClampNeg y14)) else none)) else none) else none) else some ((-1 : Int32), (0 : Int32), x_t_entries, x_t_marked, x_t_present))))))
set_option maxHeartbeats 4000000 in
set_option maxRecDepth 100000 in
theorem c_Md_redo (l : Launch) (G : gG) (sz : Nat) (a_t a_t_truth a_t_helped a_t_counted a_t_told a_t_runs a_t_before a_t_isOn a_t_tryEntries a_t_tryMarks a_t_text a_t_entries a_t_marked a_t_present a_t_whose a_t_where a_t_what a_t_behind : Nat) (fu : Nat)  (p0 : Int32) (p1 : Int32) (x_t_thrown : Int32) (x_t_places : Int32) (x_t_persons : Int32) (x_t_many : Int32) (x_t_size : Int32) (x_t_at : Int32) (x_t_sought : Int32) (x_t_found : Int32) (x_t_entries : Nat → Int32) (x_t_marked : Nat → Int32) (x_t_present : Nat → Int32) (x_t_whose : Nat → Int32) (x_t_where : Nat → Int32) (x_t_what : Nat → Int32) (x_t_behind : Nat → Int32) (r : Int32) (x_t_thrown' : Int32) (x_t_entries' : Nat → Int32) (x_t_marked' : Nat → Int32) (x_t_present' : Nat → Int32) (h : f_Md_redo fu p0 p1 x_t_thrown x_t_places x_t_persons x_t_many x_t_size x_t_at x_t_sought x_t_found x_t_entries x_t_marked x_t_present x_t_whose x_t_where x_t_what x_t_behind = some (r, x_t_thrown', x_t_entries', x_t_marked', x_t_present'))  : cN l y_Md_redo w_Md_redo { frames := 1, cells := 0, slots := 0, locals := 24 } G sz [.ref a_t, .int p0, .int p1] (ws_Md_redo G a_t a_t_truth a_t_helped a_t_counted a_t_told a_t_runs a_t_before a_t_isOn a_t_tryEntries a_t_tryMarks a_t_text a_t_entries a_t_marked a_t_present a_t_whose a_t_where a_t_what a_t_behind x_t_thrown x_t_places x_t_persons x_t_many x_t_size x_t_at x_t_sought x_t_found x_t_entries x_t_marked x_t_present x_t_whose x_t_where x_t_what x_t_behind) (some (.int r)) (wB G (ws_Md_redo G a_t a_t_truth a_t_helped a_t_counted a_t_told a_t_runs a_t_before a_t_isOn a_t_tryEntries a_t_tryMarks a_t_text a_t_entries a_t_marked a_t_present a_t_whose a_t_where a_t_what a_t_behind x_t_thrown' x_t_places x_t_persons x_t_many x_t_size x_t_at x_t_sought x_t_found x_t_entries' x_t_marked' x_t_present' x_t_whose x_t_where x_t_what x_t_behind)) 0 0 := by
  refine cN_ofW (cc := prog_8_method_13_code) (maxL := 4) (ret := (some .int)) (by decide) rfl (Nat.le_of_ble_eq_true rfl) ?_
  intro p e s m args below meth c A H locs ls hx hb hr hts hown hlocks hin hml hK hN hP hD hA hS hl
  replace hl : lv_has ls 4 [(0, .ref a_t), (1, .int p0), (2, .int p1)] := hl
  replace hown : s.vm.findClass "PlayStatesModel" = some m.cls := hown
  unfold f_Md_redo at h
  refine lv_aload_n hx hb d_Md_redo_0 rfl (lv_at hl 0 rfl) ?_
  refine lv_iconst (v := (0 : Int32)) hx hb d_Md_redo_1 (by decide) ?_
  refine va_put (D := G.1) (ci := 6) (v := .int (0 : Int32)) (ty := .int) (C := "PlayStatesModel") (T := TMd) (N := 25) hx hb hts iw_6 tyMd tyMd_ok nmMd hown hK hP hD hS 0 rfl rfl 0 (by decide) (hts _ gw_379) (fun _ h9 => h9) rfl (by decide +kernel) (by rfl) (by rfl) (Nat.le_of_ble_eq_true rfl) d_Md_redo_2 (fun H locs hP hD hS => ?_)
  replace hP : va_P G.1 vwCl (ws_Md_redo G a_t a_t_truth a_t_helped a_t_counted a_t_told a_t_runs a_t_before a_t_isOn a_t_tryEntries a_t_tryMarks a_t_text a_t_entries a_t_marked a_t_present a_t_whose a_t_where a_t_what a_t_behind (0 : Int32) x_t_places x_t_persons x_t_many x_t_size x_t_at x_t_sought x_t_found x_t_entries x_t_marked x_t_present x_t_whose x_t_where x_t_what x_t_behind) H := hP
  replace hD : va_D A (ws_Md_redo G a_t a_t_truth a_t_helped a_t_counted a_t_told a_t_runs a_t_before a_t_isOn a_t_tryEntries a_t_tryMarks a_t_text a_t_entries a_t_marked a_t_present a_t_whose a_t_where a_t_what a_t_behind (0 : Int32) x_t_places x_t_persons x_t_many x_t_size x_t_at x_t_sought x_t_found x_t_entries x_t_marked x_t_present x_t_whose x_t_where x_t_what x_t_behind) := hD
  refine lv_aload_n hx hb d_Md_redo_5 rfl (lv_at hl 0 rfl) ?_
  refine lv_iload_n hx hb d_Md_redo_6 rfl (lv_at hl 1 rfl) ?_
  obtain ⟨y1, hy1, h⟩ := o_bind h
  have hPc := hP.sub (ws' := (ws_Md_isPerson G a_t a_t_truth a_t_entries a_t_marked a_t_present a_t_helped a_t_counted a_t_told a_t_runs a_t_whose a_t_where a_t_what a_t_before a_t_behind a_t_isOn a_t_tryEntries a_t_tryMarks a_t_text (0 : Int32) x_t_places x_t_persons x_t_many x_t_size x_t_at x_t_sought x_t_found)) [0] rfl
  have hDc := hD.sub (ws' := (ws_Md_isPerson G a_t a_t_truth a_t_entries a_t_marked a_t_present a_t_helped a_t_counted a_t_told a_t_runs a_t_whose a_t_where a_t_what a_t_before a_t_behind a_t_isOn a_t_tryEntries a_t_tryMarks a_t_text (0 : Int32) x_t_places x_t_persons x_t_many x_t_size x_t_at x_t_sought x_t_found)) [0] (by decide) rfl
  have hFc := va_free (wc := (ws_Md_isPerson G a_t a_t_truth a_t_entries a_t_marked a_t_present a_t_helped a_t_counted a_t_told a_t_runs a_t_whose a_t_where a_t_what a_t_before a_t_behind a_t_isOn a_t_tryEntries a_t_tryMarks a_t_text (0 : Int32) x_t_places x_t_persons x_t_many x_t_size x_t_at x_t_sought x_t_found)) hD hS hA [0] rfl
  refine q_call1 (va_runV (As := [.int p0]) (rest := []) ⟨hx, hb, hml, hown, hts⟩ (c_Md_isPerson l G H.size a_t a_t_truth a_t_entries a_t_marked a_t_present a_t_helped a_t_counted a_t_told a_t_runs a_t_whose a_t_where a_t_what a_t_before a_t_behind a_t_isOn a_t_tryEntries a_t_tryMarks a_t_text p0 (0 : Int32) x_t_places x_t_persons x_t_many x_t_size x_t_at x_t_sought x_t_found _ hy1) (cwV 1 hts (gV gw_441 gw_442 gw_17 gw_36 gw_443) rfl rfl rfl (by decide +kernel) ⟨Nat.le_of_ble_eq_true rfl, Nat.le_of_ble_eq_true rfl⟩) (pV hK hN hPc hDc (ci := 6) (q0 := 0) rfl rfl) rfl rfl hl.1 rfl (lv_room (Nat.le_of_ble_eq_true rfl)) d_Md_redo_7 ⟨Nat.le_of_ble_eq_true rfl, Nat.le_of_ble_eq_true rfl⟩) hS (fun q _ h => hFc q h) hFc (fun H1 locs hB hz hk hS => ?_)
  obtain ⟨hP, hD⟩ := q_join (wr := [(a_t_entries, .inl (G.2 0, 648, .inl x_t_entries)), (a_t_marked, .inl (G.2 0, 648, .inl x_t_marked)), (a_t_present, .inl (G.2 0, 8, .inl x_t_present)), (a_t_whose, .inl (G.2 0, 600, .inl x_t_whose)), (a_t_where, .inl (G.2 0, 600, .inl x_t_where)), (a_t_what, .inl (G.2 0, 600, .inl x_t_what)), (a_t_behind, .inl (G.2 0, 600, .inl x_t_behind))]) (wn := (ws_Md_redo G a_t a_t_truth a_t_helped a_t_counted a_t_told a_t_runs a_t_before a_t_isOn a_t_tryEntries a_t_tryMarks a_t_text a_t_entries a_t_marked a_t_present a_t_whose a_t_where a_t_what a_t_behind (0 : Int32) x_t_places x_t_persons x_t_many x_t_size x_t_at x_t_sought x_t_found x_t_entries x_t_marked x_t_present x_t_whose x_t_where x_t_what x_t_behind)) hP hD [0] [1, 2, 3, 4, 5, 6, 7] [7, 0, 1, 2, 3, 4, 5, 6] rfl rfl (by decide) (by decide) rfl (by decide) hk hFc hB.1 hB.2
  generalize H1 = H at hP hS ⊢
  replace hP : va_P G.1 vwCl (ws_Md_redo G a_t a_t_truth a_t_helped a_t_counted a_t_told a_t_runs a_t_before a_t_isOn a_t_tryEntries a_t_tryMarks a_t_text a_t_entries a_t_marked a_t_present a_t_whose a_t_where a_t_what a_t_behind (0 : Int32) x_t_places x_t_persons x_t_many x_t_size x_t_at x_t_sought x_t_found x_t_entries x_t_marked x_t_present x_t_whose x_t_where x_t_what x_t_behind) H := hP
  replace hD : va_D A (ws_Md_redo G a_t a_t_truth a_t_helped a_t_counted a_t_told a_t_runs a_t_before a_t_isOn a_t_tryEntries a_t_tryMarks a_t_text a_t_entries a_t_marked a_t_present a_t_whose a_t_where a_t_what a_t_behind (0 : Int32) x_t_places x_t_persons x_t_many x_t_size x_t_at x_t_sought x_t_found x_t_entries x_t_marked x_t_present x_t_whose x_t_where x_t_what x_t_behind) := hD
  refine lv_if_eq (tgt := 26) hx hb d_Md_redo_10 (by decide) (fun c2 => ?_) (fun c2 => ?_)
  · replace h := (if_pos c2).symm.trans h
    refine lv_iconst (v := (-1 : Int32)) hx hb d_Md_redo_26 (by decide) ?_
    refine lv_istore_n (lv' := [(3, .int (-1 : Int32)), (0, .ref a_t), (1, .int p0), (2, .int p1)]) hx hb d_Md_redo_27 rfl hl (by decide) rfl (fun ls hl => ?_)
    refine lv_iload_n hx hb d_Md_redo_28 rfl (lv_at hl 0 rfl) ?_
    refine lv_if_ge (tgt := 34) hx hb d_Md_redo_29 (by decide) (fun c3 => ?_) (fun c3 => ?_)
    · replace h := (if_pos c3).symm.trans h
      refine lv_aload_n hx hb d_Md_redo_34 rfl (lv_at hl 1 rfl) ?_
      refine lv_iload_n hx hb d_Md_redo_35 rfl (lv_at hl 2 rfl) ?_
      refine lv_aload_n hx hb d_Md_redo_36 rfl (lv_at hl 1 rfl) ?_
      refine va_get (D := G.1) (ci := 6) (v := .ref a_t_where) (C := "PlayStatesModel") (T := TMd) (N := 25) hx hb hts iw_6 hown hK hP 0 rfl rfl 13 (by decide) (hts _ gw_392) (fun _ h9 => h9) rfl d_Md_redo_37 ?_
      refine lv_iload_n hx hb d_Md_redo_40 rfl (lv_at hl 0 rfl) ?_
      obtain ⟨i4, h⟩ := o_if h
      refine va_iald (n := 600) (f := x_t_where) hx hb hK hP 5 0 rfl rfl i4 d_Md_redo_41 ?_
      refine lv_aload_n hx hb d_Md_redo_42 rfl (lv_at hl 1 rfl) ?_
      refine va_get (D := G.1) (ci := 6) (v := .ref a_t_what) (C := "PlayStatesModel") (T := TMd) (N := 25) hx hb hts iw_6 hown hK hP 0 rfl rfl 14 (by decide) (hts _ gw_393) (fun _ h9 => h9) rfl d_Md_redo_43 ?_
      refine lv_iload_n hx hb d_Md_redo_46 rfl (lv_at hl 0 rfl) ?_
      obtain ⟨i5, h⟩ := o_if h
      refine va_iald (n := 600) (f := x_t_what) hx hb hK hP 6 0 rfl rfl i5 d_Md_redo_47 ?_
      obtain ⟨y6, hy6, h⟩ := o_bind h
      have hPc := hP.sub (ws' := (ws_Md_act G a_t a_t_truth a_t_present a_t_helped a_t_counted a_t_told a_t_runs a_t_whose a_t_where a_t_what a_t_before a_t_behind a_t_isOn a_t_tryEntries a_t_tryMarks a_t_text a_t_entries a_t_marked (0 : Int32) x_t_places x_t_persons x_t_many x_t_size x_t_at x_t_sought x_t_found x_t_entries x_t_marked)) [0, 1, 2] rfl
      have hDc := hD.sub (ws' := (ws_Md_act G a_t a_t_truth a_t_present a_t_helped a_t_counted a_t_told a_t_runs a_t_whose a_t_where a_t_what a_t_before a_t_behind a_t_isOn a_t_tryEntries a_t_tryMarks a_t_text a_t_entries a_t_marked (0 : Int32) x_t_places x_t_persons x_t_many x_t_size x_t_at x_t_sought x_t_found x_t_entries x_t_marked)) [0, 1, 2] (by decide) rfl
      have hFc := va_free (wc := (ws_Md_act G a_t a_t_truth a_t_present a_t_helped a_t_counted a_t_told a_t_runs a_t_whose a_t_where a_t_what a_t_before a_t_behind a_t_isOn a_t_tryEntries a_t_tryMarks a_t_text a_t_entries a_t_marked (0 : Int32) x_t_places x_t_persons x_t_many x_t_size x_t_at x_t_sought x_t_found x_t_entries x_t_marked)) hD hS hA [0, 1, 2] rfl
      refine q_call0 (va_runV (As := [.int p0, .int (x_t_where (-1 : Int32).toNatClampNeg), .int (x_t_what (-1 : Int32).toNatClampNeg)]) (rest := []) ⟨hx, hb, hml, hown, hts⟩ (c_Md_act l G H.size a_t a_t_truth a_t_present a_t_helped a_t_counted a_t_told a_t_runs a_t_whose a_t_where a_t_what a_t_before a_t_behind a_t_isOn a_t_tryEntries a_t_tryMarks a_t_text a_t_entries a_t_marked p0 (x_t_where (-1 : Int32).toNatClampNeg) (x_t_what (-1 : Int32).toNatClampNeg) (0 : Int32) x_t_places x_t_persons x_t_many x_t_size x_t_at x_t_sought x_t_found x_t_entries x_t_marked _ _ hy6) (cwV 3 hts (gV gw_450 gw_451 gw_20 gw_36 gw_452) rfl rfl rfl (by decide +kernel) ⟨Nat.le_of_ble_eq_true rfl, Nat.le_of_ble_eq_true rfl⟩) (pV hK hN hPc hDc (ci := 6) (q0 := 0) rfl rfl) rfl rfl hl.1 rfl (lv_room (Nat.le_of_ble_eq_true rfl)) d_Md_redo_48 ⟨Nat.le_of_ble_eq_true rfl, Nat.le_of_ble_eq_true rfl⟩) hS (fun q _ h => hFc q h) hFc (fun H1 locs hB hz hk hS => ?_)
      obtain ⟨hP, hD⟩ := q_join (wr := [(a_t_present, .inl (G.2 0, 8, .inl x_t_present)), (a_t_whose, .inl (G.2 0, 600, .inl x_t_whose)), (a_t_where, .inl (G.2 0, 600, .inl x_t_where)), (a_t_what, .inl (G.2 0, 600, .inl x_t_what)), (a_t_behind, .inl (G.2 0, 600, .inl x_t_behind))]) (wn := (ws_Md_redo G a_t a_t_truth a_t_helped a_t_counted a_t_told a_t_runs a_t_before a_t_isOn a_t_tryEntries a_t_tryMarks a_t_text a_t_entries a_t_marked a_t_present a_t_whose a_t_where a_t_what a_t_behind (0 : Int32) x_t_places x_t_persons x_t_many x_t_size x_t_at x_t_sought x_t_found y6.1 y6.2 x_t_present x_t_whose x_t_where x_t_what x_t_behind)) hP hD [0, 1, 2] [3, 4, 5, 6, 7] [5, 6, 7, 0, 1, 2, 3, 4] rfl rfl (by decide) (by decide) rfl (by decide) hk hFc hB.1 hB.2
      generalize H1 = H at hP hS ⊢
      replace hP : va_P G.1 vwCl (ws_Md_redo G a_t a_t_truth a_t_helped a_t_counted a_t_told a_t_runs a_t_before a_t_isOn a_t_tryEntries a_t_tryMarks a_t_text a_t_entries a_t_marked a_t_present a_t_whose a_t_where a_t_what a_t_behind (0 : Int32) x_t_places x_t_persons x_t_many x_t_size x_t_at x_t_sought x_t_found y6.1 y6.2 x_t_present x_t_whose x_t_where x_t_what x_t_behind) H := hP
      replace hD : va_D A (ws_Md_redo G a_t a_t_truth a_t_helped a_t_counted a_t_told a_t_runs a_t_before a_t_isOn a_t_tryEntries a_t_tryMarks a_t_text a_t_entries a_t_marked a_t_present a_t_whose a_t_where a_t_what a_t_behind (0 : Int32) x_t_places x_t_persons x_t_many x_t_size x_t_at x_t_sought x_t_found y6.1 y6.2 x_t_present x_t_whose x_t_where x_t_what x_t_behind) := hD
      refine lv_aload_n hx hb d_Md_redo_51 rfl (lv_at hl 1 rfl) ?_
      refine va_get (D := G.1) (ci := 6) (v := .ref a_t_present) (C := "PlayStatesModel") (T := TMd) (N := 25) hx hb hts iw_6 hown hK hP 0 rfl rfl 6 (by decide) (hts _ gw_385) (fun _ h9 => h9) rfl d_Md_redo_52 ?_
      refine lv_iload_n hx hb d_Md_redo_55 rfl (lv_at hl 2 rfl) ?_
      refine lv_iload_n hx hb d_Md_redo_56 rfl (lv_at hl 0 rfl) ?_
      obtain ⟨i7, h⟩ := o_if h
      refine va_iast (n := 8) (f := x_t_present) hx hb hK hP hD hS 3 0 rfl rfl i7 d_Md_redo_57 (fun H locs hP hD hS => ?_)
      replace hP : va_P G.1 vwCl (ws_Md_redo G a_t a_t_truth a_t_helped a_t_counted a_t_told a_t_runs a_t_before a_t_isOn a_t_tryEntries a_t_tryMarks a_t_text a_t_entries a_t_marked a_t_present a_t_whose a_t_where a_t_what a_t_behind (0 : Int32) x_t_places x_t_persons x_t_many x_t_size x_t_at x_t_sought x_t_found y6.1 y6.2 (upd x_t_present p0.toNatClampNeg (-1 : Int32)) x_t_whose x_t_where x_t_what x_t_behind) H := hP
      replace hD : va_D A (ws_Md_redo G a_t a_t_truth a_t_helped a_t_counted a_t_told a_t_runs a_t_before a_t_isOn a_t_tryEntries a_t_tryMarks a_t_text a_t_entries a_t_marked a_t_present a_t_whose a_t_where a_t_what a_t_behind (0 : Int32) x_t_places x_t_persons x_t_many x_t_size x_t_at x_t_sought x_t_found y6.1 y6.2 (upd x_t_present p0.toNatClampNeg (-1 : Int32)) x_t_whose x_t_where x_t_what x_t_behind) := hD
      refine lv_iload_n hx hb d_Md_redo_58 rfl (lv_at hl 0 rfl) ?_
      cases h
      exact q_iretW hx hb hr hlocks hP hD hS d_Md_redo_59
    · replace h := (if_neg c3).symm.trans h
      refine lv_iconst (v := (-1 : Int32)) hx hb d_Md_redo_32 (by decide) ?_
      cases h
      exact q_iretW hx hb hr hlocks hP hD hS d_Md_redo_33
  · replace h := (if_neg c2).symm.trans h
    refine lv_iload_n hx hb d_Md_redo_13 rfl (lv_at hl 2 rfl) ?_
    refine lv_if_lt (tgt := 26) hx hb d_Md_redo_14 (by decide) (fun c8 => ?_) (fun c8 => ?_)
    · replace h := (if_pos c8).symm.trans h
      refine lv_iconst (v := (-1 : Int32)) hx hb d_Md_redo_26 (by decide) ?_
      refine lv_istore_n (lv' := [(3, .int (-1 : Int32)), (0, .ref a_t), (1, .int p0), (2, .int p1)]) hx hb d_Md_redo_27 rfl hl (by decide) rfl (fun ls hl => ?_)
      refine lv_iload_n hx hb d_Md_redo_28 rfl (lv_at hl 0 rfl) ?_
      refine lv_if_ge (tgt := 34) hx hb d_Md_redo_29 (by decide) (fun c9 => ?_) (fun c9 => ?_)
      · replace h := (if_pos c9).symm.trans h
        refine lv_aload_n hx hb d_Md_redo_34 rfl (lv_at hl 1 rfl) ?_
        refine lv_iload_n hx hb d_Md_redo_35 rfl (lv_at hl 2 rfl) ?_
        refine lv_aload_n hx hb d_Md_redo_36 rfl (lv_at hl 1 rfl) ?_
        refine va_get (D := G.1) (ci := 6) (v := .ref a_t_where) (C := "PlayStatesModel") (T := TMd) (N := 25) hx hb hts iw_6 hown hK hP 0 rfl rfl 13 (by decide) (hts _ gw_392) (fun _ h9 => h9) rfl d_Md_redo_37 ?_
        refine lv_iload_n hx hb d_Md_redo_40 rfl (lv_at hl 0 rfl) ?_
        obtain ⟨i10, h⟩ := o_if h
        refine va_iald (n := 600) (f := x_t_where) hx hb hK hP 5 0 rfl rfl i10 d_Md_redo_41 ?_
        refine lv_aload_n hx hb d_Md_redo_42 rfl (lv_at hl 1 rfl) ?_
        refine va_get (D := G.1) (ci := 6) (v := .ref a_t_what) (C := "PlayStatesModel") (T := TMd) (N := 25) hx hb hts iw_6 hown hK hP 0 rfl rfl 14 (by decide) (hts _ gw_393) (fun _ h9 => h9) rfl d_Md_redo_43 ?_
        refine lv_iload_n hx hb d_Md_redo_46 rfl (lv_at hl 0 rfl) ?_
        obtain ⟨i11, h⟩ := o_if h
        refine va_iald (n := 600) (f := x_t_what) hx hb hK hP 6 0 rfl rfl i11 d_Md_redo_47 ?_
        obtain ⟨y12, hy12, h⟩ := o_bind h
        have hPc := hP.sub (ws' := (ws_Md_act G a_t a_t_truth a_t_present a_t_helped a_t_counted a_t_told a_t_runs a_t_whose a_t_where a_t_what a_t_before a_t_behind a_t_isOn a_t_tryEntries a_t_tryMarks a_t_text a_t_entries a_t_marked (0 : Int32) x_t_places x_t_persons x_t_many x_t_size x_t_at x_t_sought x_t_found x_t_entries x_t_marked)) [0, 1, 2] rfl
        have hDc := hD.sub (ws' := (ws_Md_act G a_t a_t_truth a_t_present a_t_helped a_t_counted a_t_told a_t_runs a_t_whose a_t_where a_t_what a_t_before a_t_behind a_t_isOn a_t_tryEntries a_t_tryMarks a_t_text a_t_entries a_t_marked (0 : Int32) x_t_places x_t_persons x_t_many x_t_size x_t_at x_t_sought x_t_found x_t_entries x_t_marked)) [0, 1, 2] (by decide) rfl
        have hFc := va_free (wc := (ws_Md_act G a_t a_t_truth a_t_present a_t_helped a_t_counted a_t_told a_t_runs a_t_whose a_t_where a_t_what a_t_before a_t_behind a_t_isOn a_t_tryEntries a_t_tryMarks a_t_text a_t_entries a_t_marked (0 : Int32) x_t_places x_t_persons x_t_many x_t_size x_t_at x_t_sought x_t_found x_t_entries x_t_marked)) hD hS hA [0, 1, 2] rfl
        refine q_call0 (va_runV (As := [.int p0, .int (x_t_where (-1 : Int32).toNatClampNeg), .int (x_t_what (-1 : Int32).toNatClampNeg)]) (rest := []) ⟨hx, hb, hml, hown, hts⟩ (c_Md_act l G H.size a_t a_t_truth a_t_present a_t_helped a_t_counted a_t_told a_t_runs a_t_whose a_t_where a_t_what a_t_before a_t_behind a_t_isOn a_t_tryEntries a_t_tryMarks a_t_text a_t_entries a_t_marked p0 (x_t_where (-1 : Int32).toNatClampNeg) (x_t_what (-1 : Int32).toNatClampNeg) (0 : Int32) x_t_places x_t_persons x_t_many x_t_size x_t_at x_t_sought x_t_found x_t_entries x_t_marked _ _ hy12) (cwV 3 hts (gV gw_450 gw_451 gw_20 gw_36 gw_452) rfl rfl rfl (by decide +kernel) ⟨Nat.le_of_ble_eq_true rfl, Nat.le_of_ble_eq_true rfl⟩) (pV hK hN hPc hDc (ci := 6) (q0 := 0) rfl rfl) rfl rfl hl.1 rfl (lv_room (Nat.le_of_ble_eq_true rfl)) d_Md_redo_48 ⟨Nat.le_of_ble_eq_true rfl, Nat.le_of_ble_eq_true rfl⟩) hS (fun q _ h => hFc q h) hFc (fun H1 locs hB hz hk hS => ?_)
        obtain ⟨hP, hD⟩ := q_join (wr := [(a_t_present, .inl (G.2 0, 8, .inl x_t_present)), (a_t_whose, .inl (G.2 0, 600, .inl x_t_whose)), (a_t_where, .inl (G.2 0, 600, .inl x_t_where)), (a_t_what, .inl (G.2 0, 600, .inl x_t_what)), (a_t_behind, .inl (G.2 0, 600, .inl x_t_behind))]) (wn := (ws_Md_redo G a_t a_t_truth a_t_helped a_t_counted a_t_told a_t_runs a_t_before a_t_isOn a_t_tryEntries a_t_tryMarks a_t_text a_t_entries a_t_marked a_t_present a_t_whose a_t_where a_t_what a_t_behind (0 : Int32) x_t_places x_t_persons x_t_many x_t_size x_t_at x_t_sought x_t_found y12.1 y12.2 x_t_present x_t_whose x_t_where x_t_what x_t_behind)) hP hD [0, 1, 2] [3, 4, 5, 6, 7] [5, 6, 7, 0, 1, 2, 3, 4] rfl rfl (by decide) (by decide) rfl (by decide) hk hFc hB.1 hB.2
        generalize H1 = H at hP hS ⊢
        replace hP : va_P G.1 vwCl (ws_Md_redo G a_t a_t_truth a_t_helped a_t_counted a_t_told a_t_runs a_t_before a_t_isOn a_t_tryEntries a_t_tryMarks a_t_text a_t_entries a_t_marked a_t_present a_t_whose a_t_where a_t_what a_t_behind (0 : Int32) x_t_places x_t_persons x_t_many x_t_size x_t_at x_t_sought x_t_found y12.1 y12.2 x_t_present x_t_whose x_t_where x_t_what x_t_behind) H := hP
        replace hD : va_D A (ws_Md_redo G a_t a_t_truth a_t_helped a_t_counted a_t_told a_t_runs a_t_before a_t_isOn a_t_tryEntries a_t_tryMarks a_t_text a_t_entries a_t_marked a_t_present a_t_whose a_t_where a_t_what a_t_behind (0 : Int32) x_t_places x_t_persons x_t_many x_t_size x_t_at x_t_sought x_t_found y12.1 y12.2 x_t_present x_t_whose x_t_where x_t_what x_t_behind) := hD
        refine lv_aload_n hx hb d_Md_redo_51 rfl (lv_at hl 1 rfl) ?_
        refine va_get (D := G.1) (ci := 6) (v := .ref a_t_present) (C := "PlayStatesModel") (T := TMd) (N := 25) hx hb hts iw_6 hown hK hP 0 rfl rfl 6 (by decide) (hts _ gw_385) (fun _ h9 => h9) rfl d_Md_redo_52 ?_
        refine lv_iload_n hx hb d_Md_redo_55 rfl (lv_at hl 2 rfl) ?_
        refine lv_iload_n hx hb d_Md_redo_56 rfl (lv_at hl 0 rfl) ?_
        obtain ⟨i13, h⟩ := o_if h
        refine va_iast (n := 8) (f := x_t_present) hx hb hK hP hD hS 3 0 rfl rfl i13 d_Md_redo_57 (fun H locs hP hD hS => ?_)
        replace hP : va_P G.1 vwCl (ws_Md_redo G a_t a_t_truth a_t_helped a_t_counted a_t_told a_t_runs a_t_before a_t_isOn a_t_tryEntries a_t_tryMarks a_t_text a_t_entries a_t_marked a_t_present a_t_whose a_t_where a_t_what a_t_behind (0 : Int32) x_t_places x_t_persons x_t_many x_t_size x_t_at x_t_sought x_t_found y12.1 y12.2 (upd x_t_present p0.toNatClampNeg (-1 : Int32)) x_t_whose x_t_where x_t_what x_t_behind) H := hP
        replace hD : va_D A (ws_Md_redo G a_t a_t_truth a_t_helped a_t_counted a_t_told a_t_runs a_t_before a_t_isOn a_t_tryEntries a_t_tryMarks a_t_text a_t_entries a_t_marked a_t_present a_t_whose a_t_where a_t_what a_t_behind (0 : Int32) x_t_places x_t_persons x_t_many x_t_size x_t_at x_t_sought x_t_found y12.1 y12.2 (upd x_t_present p0.toNatClampNeg (-1 : Int32)) x_t_whose x_t_where x_t_what x_t_behind) := hD
        refine lv_iload_n hx hb d_Md_redo_58 rfl (lv_at hl 0 rfl) ?_
        cases h
        exact q_iretW hx hb hr hlocks hP hD hS d_Md_redo_59
      · replace h := (if_neg c9).symm.trans h
        refine lv_iconst (v := (-1 : Int32)) hx hb d_Md_redo_32 (by decide) ?_
        cases h
        exact q_iretW hx hb hr hlocks hP hD hS d_Md_redo_33
    · replace h := (if_neg c8).symm.trans h
      refine lv_aload_n hx hb d_Md_redo_17 rfl (lv_at hl 0 rfl) ?_
      refine lv_iload_n hx hb d_Md_redo_18 rfl (lv_at hl 1 rfl) ?_
      refine lv_iload_n hx hb d_Md_redo_19 rfl (lv_at hl 2 rfl) ?_
      obtain ⟨y14, hy14, h⟩ := o_bind h
      have hPc := hP.sub (ws' := (ws_Md_branch G a_t a_t_truth a_t_entries a_t_marked a_t_helped a_t_counted a_t_told a_t_runs a_t_where a_t_what a_t_before a_t_isOn a_t_tryEntries a_t_tryMarks a_t_text a_t_present a_t_whose a_t_behind (0 : Int32) x_t_places x_t_persons x_t_many x_t_size x_t_at x_t_sought x_t_found x_t_present x_t_whose x_t_behind)) [0, 3, 4, 7] rfl
      have hDc := hD.sub (ws' := (ws_Md_branch G a_t a_t_truth a_t_entries a_t_marked a_t_helped a_t_counted a_t_told a_t_runs a_t_where a_t_what a_t_before a_t_isOn a_t_tryEntries a_t_tryMarks a_t_text a_t_present a_t_whose a_t_behind (0 : Int32) x_t_places x_t_persons x_t_many x_t_size x_t_at x_t_sought x_t_found x_t_present x_t_whose x_t_behind)) [0, 3, 4, 7] (by decide) rfl
      have hFc := va_free (wc := (ws_Md_branch G a_t a_t_truth a_t_entries a_t_marked a_t_helped a_t_counted a_t_told a_t_runs a_t_where a_t_what a_t_before a_t_isOn a_t_tryEntries a_t_tryMarks a_t_text a_t_present a_t_whose a_t_behind (0 : Int32) x_t_places x_t_persons x_t_many x_t_size x_t_at x_t_sought x_t_found x_t_present x_t_whose x_t_behind)) hD hS hA [0, 3, 4, 7] rfl
      refine q_call1 (va_runV (As := [.int p0, .int p1]) (rest := []) ⟨hx, hb, hml, hown, hts⟩ (c_Md_branch l G H.size a_t a_t_truth a_t_entries a_t_marked a_t_helped a_t_counted a_t_told a_t_runs a_t_where a_t_what a_t_before a_t_isOn a_t_tryEntries a_t_tryMarks a_t_text a_t_present a_t_whose a_t_behind fu p0 p1 (0 : Int32) x_t_places x_t_persons x_t_many x_t_size x_t_at x_t_sought x_t_found x_t_present x_t_whose x_t_behind _ hy14) (cwV 2 hts (gV gw_465 gw_466 gw_21 gw_36 gw_467) rfl rfl rfl (by decide +kernel) ⟨Nat.le_of_ble_eq_true rfl, Nat.le_of_ble_eq_true rfl⟩) (pV hK hN hPc hDc (ci := 6) (q0 := 0) rfl rfl) rfl rfl hl.1 rfl (lv_room (Nat.le_of_ble_eq_true rfl)) d_Md_redo_20 ⟨Nat.le_of_ble_eq_true rfl, Nat.le_of_ble_eq_true rfl⟩) hS (fun q _ h => hFc q h) hFc (fun H1 locs hB hz hk hS => ?_)
      obtain ⟨hP, hD⟩ := q_join (wr := [(a_t_entries, .inl (G.2 0, 648, .inl x_t_entries)), (a_t_marked, .inl (G.2 0, 648, .inl x_t_marked)), (a_t_where, .inl (G.2 0, 600, .inl x_t_where)), (a_t_what, .inl (G.2 0, 600, .inl x_t_what))]) (wn := (ws_Md_redo G a_t a_t_truth a_t_helped a_t_counted a_t_told a_t_runs a_t_before a_t_isOn a_t_tryEntries a_t_tryMarks a_t_text a_t_entries a_t_marked a_t_present a_t_whose a_t_where a_t_what a_t_behind (0 : Int32) x_t_places x_t_persons x_t_many x_t_size x_t_at x_t_sought x_t_found x_t_entries x_t_marked x_t_present x_t_whose x_t_where x_t_what x_t_behind)) hP hD [0, 3, 4, 7] [1, 2, 5, 6] [4, 0, 1, 5, 6, 2, 3, 7] rfl rfl (by decide) (by decide) rfl (by decide) hk hFc hB.1 hB.2
      generalize H1 = H at hP hS ⊢
      replace hP : va_P G.1 vwCl (ws_Md_redo G a_t a_t_truth a_t_helped a_t_counted a_t_told a_t_runs a_t_before a_t_isOn a_t_tryEntries a_t_tryMarks a_t_text a_t_entries a_t_marked a_t_present a_t_whose a_t_where a_t_what a_t_behind (0 : Int32) x_t_places x_t_persons x_t_many x_t_size x_t_at x_t_sought x_t_found x_t_entries x_t_marked x_t_present x_t_whose x_t_where x_t_what x_t_behind) H := hP
      replace hD : va_D A (ws_Md_redo G a_t a_t_truth a_t_helped a_t_counted a_t_told a_t_runs a_t_before a_t_isOn a_t_tryEntries a_t_tryMarks a_t_text a_t_entries a_t_marked a_t_present a_t_whose a_t_where a_t_what a_t_behind (0 : Int32) x_t_places x_t_persons x_t_many x_t_size x_t_at x_t_sought x_t_found x_t_entries x_t_marked x_t_present x_t_whose x_t_where x_t_what x_t_behind) := hD
      refine lv_goto (tgt := 27) hx hb d_Md_redo_23 (by decide) ?_
      refine lv_istore_n (lv' := [(3, .int y14), (0, .ref a_t), (1, .int p0), (2, .int p1)]) hx hb d_Md_redo_27 rfl hl (by decide) rfl (fun ls hl => ?_)
      refine lv_iload_n hx hb d_Md_redo_28 rfl (lv_at hl 0 rfl) ?_
      refine lv_if_ge (tgt := 34) hx hb d_Md_redo_29 (by decide) (fun c15 => ?_) (fun c15 => ?_)
      · replace h := (if_pos c15).symm.trans h
        refine lv_aload_n hx hb d_Md_redo_34 rfl (lv_at hl 1 rfl) ?_
        refine lv_iload_n hx hb d_Md_redo_35 rfl (lv_at hl 2 rfl) ?_
        refine lv_aload_n hx hb d_Md_redo_36 rfl (lv_at hl 1 rfl) ?_
        refine va_get (D := G.1) (ci := 6) (v := .ref a_t_where) (C := "PlayStatesModel") (T := TMd) (N := 25) hx hb hts iw_6 hown hK hP 0 rfl rfl 13 (by decide) (hts _ gw_392) (fun _ h9 => h9) rfl d_Md_redo_37 ?_
        refine lv_iload_n hx hb d_Md_redo_40 rfl (lv_at hl 0 rfl) ?_
        obtain ⟨i16, h⟩ := o_if h
        refine va_iald (n := 600) (f := x_t_where) hx hb hK hP 5 0 rfl rfl i16 d_Md_redo_41 ?_
        refine lv_aload_n hx hb d_Md_redo_42 rfl (lv_at hl 1 rfl) ?_
        refine va_get (D := G.1) (ci := 6) (v := .ref a_t_what) (C := "PlayStatesModel") (T := TMd) (N := 25) hx hb hts iw_6 hown hK hP 0 rfl rfl 14 (by decide) (hts _ gw_393) (fun _ h9 => h9) rfl d_Md_redo_43 ?_
        refine lv_iload_n hx hb d_Md_redo_46 rfl (lv_at hl 0 rfl) ?_
        obtain ⟨i17, h⟩ := o_if h
        refine va_iald (n := 600) (f := x_t_what) hx hb hK hP 6 0 rfl rfl i17 d_Md_redo_47 ?_
        obtain ⟨y18, hy18, h⟩ := o_bind h
        have hPc := hP.sub (ws' := (ws_Md_act G a_t a_t_truth a_t_present a_t_helped a_t_counted a_t_told a_t_runs a_t_whose a_t_where a_t_what a_t_before a_t_behind a_t_isOn a_t_tryEntries a_t_tryMarks a_t_text a_t_entries a_t_marked (0 : Int32) x_t_places x_t_persons x_t_many x_t_size x_t_at x_t_sought x_t_found x_t_entries x_t_marked)) [0, 1, 2] rfl
        have hDc := hD.sub (ws' := (ws_Md_act G a_t a_t_truth a_t_present a_t_helped a_t_counted a_t_told a_t_runs a_t_whose a_t_where a_t_what a_t_before a_t_behind a_t_isOn a_t_tryEntries a_t_tryMarks a_t_text a_t_entries a_t_marked (0 : Int32) x_t_places x_t_persons x_t_many x_t_size x_t_at x_t_sought x_t_found x_t_entries x_t_marked)) [0, 1, 2] (by decide) rfl
        have hFc := va_free (wc := (ws_Md_act G a_t a_t_truth a_t_present a_t_helped a_t_counted a_t_told a_t_runs a_t_whose a_t_where a_t_what a_t_before a_t_behind a_t_isOn a_t_tryEntries a_t_tryMarks a_t_text a_t_entries a_t_marked (0 : Int32) x_t_places x_t_persons x_t_many x_t_size x_t_at x_t_sought x_t_found x_t_entries x_t_marked)) hD hS hA [0, 1, 2] rfl
        refine q_call0 (va_runV (As := [.int p0, .int (x_t_where y14.toNatClampNeg), .int (x_t_what y14.toNatClampNeg)]) (rest := []) ⟨hx, hb, hml, hown, hts⟩ (c_Md_act l G H.size a_t a_t_truth a_t_present a_t_helped a_t_counted a_t_told a_t_runs a_t_whose a_t_where a_t_what a_t_before a_t_behind a_t_isOn a_t_tryEntries a_t_tryMarks a_t_text a_t_entries a_t_marked p0 (x_t_where y14.toNatClampNeg) (x_t_what y14.toNatClampNeg) (0 : Int32) x_t_places x_t_persons x_t_many x_t_size x_t_at x_t_sought x_t_found x_t_entries x_t_marked _ _ hy18) (cwV 3 hts (gV gw_450 gw_451 gw_20 gw_36 gw_452) rfl rfl rfl (by decide +kernel) ⟨Nat.le_of_ble_eq_true rfl, Nat.le_of_ble_eq_true rfl⟩) (pV hK hN hPc hDc (ci := 6) (q0 := 0) rfl rfl) rfl rfl hl.1 rfl (lv_room (Nat.le_of_ble_eq_true rfl)) d_Md_redo_48 ⟨Nat.le_of_ble_eq_true rfl, Nat.le_of_ble_eq_true rfl⟩) hS (fun q _ h => hFc q h) hFc (fun H1 locs hB hz hk hS => ?_)
        obtain ⟨hP, hD⟩ := q_join (wr := [(a_t_present, .inl (G.2 0, 8, .inl x_t_present)), (a_t_whose, .inl (G.2 0, 600, .inl x_t_whose)), (a_t_where, .inl (G.2 0, 600, .inl x_t_where)), (a_t_what, .inl (G.2 0, 600, .inl x_t_what)), (a_t_behind, .inl (G.2 0, 600, .inl x_t_behind))]) (wn := (ws_Md_redo G a_t a_t_truth a_t_helped a_t_counted a_t_told a_t_runs a_t_before a_t_isOn a_t_tryEntries a_t_tryMarks a_t_text a_t_entries a_t_marked a_t_present a_t_whose a_t_where a_t_what a_t_behind (0 : Int32) x_t_places x_t_persons x_t_many x_t_size x_t_at x_t_sought x_t_found y18.1 y18.2 x_t_present x_t_whose x_t_where x_t_what x_t_behind)) hP hD [0, 1, 2] [3, 4, 5, 6, 7] [5, 6, 7, 0, 1, 2, 3, 4] rfl rfl (by decide) (by decide) rfl (by decide) hk hFc hB.1 hB.2
        generalize H1 = H at hP hS ⊢
        replace hP : va_P G.1 vwCl (ws_Md_redo G a_t a_t_truth a_t_helped a_t_counted a_t_told a_t_runs a_t_before a_t_isOn a_t_tryEntries a_t_tryMarks a_t_text a_t_entries a_t_marked a_t_present a_t_whose a_t_where a_t_what a_t_behind (0 : Int32) x_t_places x_t_persons x_t_many x_t_size x_t_at x_t_sought x_t_found y18.1 y18.2 x_t_present x_t_whose x_t_where x_t_what x_t_behind) H := hP
        replace hD : va_D A (ws_Md_redo G a_t a_t_truth a_t_helped a_t_counted a_t_told a_t_runs a_t_before a_t_isOn a_t_tryEntries a_t_tryMarks a_t_text a_t_entries a_t_marked a_t_present a_t_whose a_t_where a_t_what a_t_behind (0 : Int32) x_t_places x_t_persons x_t_many x_t_size x_t_at x_t_sought x_t_found y18.1 y18.2 x_t_present x_t_whose x_t_where x_t_what x_t_behind) := hD
        refine lv_aload_n hx hb d_Md_redo_51 rfl (lv_at hl 1 rfl) ?_
        refine va_get (D := G.1) (ci := 6) (v := .ref a_t_present) (C := "PlayStatesModel") (T := TMd) (N := 25) hx hb hts iw_6 hown hK hP 0 rfl rfl 6 (by decide) (hts _ gw_385) (fun _ h9 => h9) rfl d_Md_redo_52 ?_
        refine lv_iload_n hx hb d_Md_redo_55 rfl (lv_at hl 2 rfl) ?_
        refine lv_iload_n hx hb d_Md_redo_56 rfl (lv_at hl 0 rfl) ?_
        obtain ⟨i19, h⟩ := o_if h
        refine va_iast (n := 8) (f := x_t_present) hx hb hK hP hD hS 3 0 rfl rfl i19 d_Md_redo_57 (fun H locs hP hD hS => ?_)
        replace hP : va_P G.1 vwCl (ws_Md_redo G a_t a_t_truth a_t_helped a_t_counted a_t_told a_t_runs a_t_before a_t_isOn a_t_tryEntries a_t_tryMarks a_t_text a_t_entries a_t_marked a_t_present a_t_whose a_t_where a_t_what a_t_behind (0 : Int32) x_t_places x_t_persons x_t_many x_t_size x_t_at x_t_sought x_t_found y18.1 y18.2 (upd x_t_present p0.toNatClampNeg y14) x_t_whose x_t_where x_t_what x_t_behind) H := hP
        replace hD : va_D A (ws_Md_redo G a_t a_t_truth a_t_helped a_t_counted a_t_told a_t_runs a_t_before a_t_isOn a_t_tryEntries a_t_tryMarks a_t_text a_t_entries a_t_marked a_t_present a_t_whose a_t_where a_t_what a_t_behind (0 : Int32) x_t_places x_t_persons x_t_many x_t_size x_t_at x_t_sought x_t_found y18.1 y18.2 (upd x_t_present p0.toNatClampNeg y14) x_t_whose x_t_where x_t_what x_t_behind) := hD
        refine lv_iload_n hx hb d_Md_redo_58 rfl (lv_at hl 0 rfl) ?_
        cases h
        exact q_iretW hx hb hr hlocks hP hD hS d_Md_redo_59
      · replace h := (if_neg c15).symm.trans h
        refine lv_iconst (v := (-1 : Int32)) hx hb d_Md_redo_32 (by decide) ?_
        cases h
        exact q_iretW hx hb hr hlocks hP hD hS d_Md_redo_33

theorem d_Md_branches_0 : decode prog_8_method_14_code 0 = .ok (.aload_n 0, 1) := by decide +kernel
theorem d_Md_branches_1 : decode prog_8_method_14_code 1 = .ok (.iconst 0, 1) := by decide +kernel
theorem d_Md_branches_2 : decode prog_8_method_14_code 2 = .ok (.putfield 69, 3) := by decide +kernel
theorem d_Md_branches_5 : decode prog_8_method_14_code 5 = .ok (.aload_n 0, 1) := by decide +kernel
theorem d_Md_branches_6 : decode prog_8_method_14_code 6 = .ok (.iload_n 1, 1) := by decide +kernel
theorem d_Md_branches_7 : decode prog_8_method_14_code 7 = .ok (.invokevirtual 86, 3) := by decide +kernel
theorem d_Md_branches_10 : decode prog_8_method_14_code 10 = .ok (.ifCond .eq 12, 3) := by decide +kernel
theorem d_Md_branches_13 : decode prog_8_method_14_code 13 = .ok (.aload_n 0, 1) := by decide +kernel
theorem d_Md_branches_14 : decode prog_8_method_14_code 14 = .ok (.iload_n 1, 1) := by decide +kernel
theorem d_Md_branches_15 : decode prog_8_method_14_code 15 = .ok (.iconst (-1), 1) := by decide +kernel
theorem d_Md_branches_16 : decode prog_8_method_14_code 16 = .ok (.invokevirtual 97, 3) := by decide +kernel
theorem d_Md_branches_19 : decode prog_8_method_14_code 19 = .ok (.goto 4, 3) := by decide +kernel
theorem d_Md_branches_22 : decode prog_8_method_14_code 22 = .ok (.iconst (-1), 1) := by decide +kernel
theorem d_Md_branches_23 : decode prog_8_method_14_code 23 = .ok (.ireturn, 1) := by decide +kernel
-- PlayStatesModel.branches(I)I 
def ws_Md_branches (G : gG) (a_t a_t_truth a_t_entries a_t_marked a_t_helped a_t_counted a_t_told a_t_runs a_t_where a_t_what a_t_before a_t_isOn a_t_tryEntries a_t_tryMarks a_t_text a_t_present a_t_whose a_t_behind : Nat)  (x_t_thrown : Int32) (x_t_places : Int32) (x_t_persons : Int32) (x_t_many : Int32) (x_t_size : Int32) (x_t_at : Int32) (x_t_sought : Int32) (x_t_found : Int32) (x_t_present : Nat → Int32) (x_t_whose : Nat → Int32) (x_t_behind : Nat → Int32) : va_W := [(a_t, .inr (6, [.int x_t_thrown, .int x_t_places, .int x_t_persons, .ref a_t_truth, .ref a_t_entries, .ref a_t_marked, .ref a_t_present, .ref a_t_helped, .ref a_t_counted, .ref a_t_told, .ref a_t_runs, .int x_t_many, .ref a_t_whose, .ref a_t_where, .ref a_t_what, .ref a_t_before, .ref a_t_behind, .ref a_t_isOn, .ref a_t_tryEntries, .ref a_t_tryMarks, .int x_t_size, .ref a_t_text, .int x_t_at, .int x_t_sought, .int x_t_found])), (a_t_present, .inl (G.2 0, 8, .inl x_t_present)), (a_t_whose, .inl (G.2 0, 600, .inl x_t_whose)), (a_t_behind, .inl (G.2 0, 600, .inl x_t_behind))]
def f_Md_branches (fu : Nat)  (p0 : Int32) (x_t_thrown : Int32) (x_t_places : Int32) (x_t_persons : Int32) (x_t_many : Int32) (x_t_size : Int32) (x_t_at : Int32) (x_t_sought : Int32) (x_t_found : Int32) (x_t_present : Nat → Int32) (x_t_whose : Nat → Int32) (x_t_behind : Nat → Int32) : Option (Int32 × Int32) :=
  ((f_Md_isPerson p0 (0 : Int32) x_t_places x_t_persons x_t_many x_t_size x_t_at x_t_sought x_t_found).bind fun y1 => (if y1 = 0 then some ((-1 : Int32), (0 : Int32)) else ((f_Md_branch fu p0 (-1 : Int32) (0 : Int32) x_t_places x_t_persons x_t_many x_t_size x_t_at x_t_sought x_t_found x_t_present x_t_whose x_t_behind).bind fun y3 => some (y3, (0 : Int32)))))
set_option maxHeartbeats 4000000 in
set_option maxRecDepth 100000 in
theorem c_Md_branches (l : Launch) (G : gG) (sz : Nat) (a_t a_t_truth a_t_entries a_t_marked a_t_helped a_t_counted a_t_told a_t_runs a_t_where a_t_what a_t_before a_t_isOn a_t_tryEntries a_t_tryMarks a_t_text a_t_present a_t_whose a_t_behind : Nat) (fu : Nat)  (p0 : Int32) (x_t_thrown : Int32) (x_t_places : Int32) (x_t_persons : Int32) (x_t_many : Int32) (x_t_size : Int32) (x_t_at : Int32) (x_t_sought : Int32) (x_t_found : Int32) (x_t_present : Nat → Int32) (x_t_whose : Nat → Int32) (x_t_behind : Nat → Int32) (r : Int32) (x_t_thrown' : Int32) (h : f_Md_branches fu p0 x_t_thrown x_t_places x_t_persons x_t_many x_t_size x_t_at x_t_sought x_t_found x_t_present x_t_whose x_t_behind = some (r, x_t_thrown'))  : cN l y_Md_branches w_Md_branches { frames := 1, cells := 0, slots := 0, locals := 24 } G sz [.ref a_t, .int p0] (ws_Md_branches G a_t a_t_truth a_t_entries a_t_marked a_t_helped a_t_counted a_t_told a_t_runs a_t_where a_t_what a_t_before a_t_isOn a_t_tryEntries a_t_tryMarks a_t_text a_t_present a_t_whose a_t_behind x_t_thrown x_t_places x_t_persons x_t_many x_t_size x_t_at x_t_sought x_t_found x_t_present x_t_whose x_t_behind) (some (.int r)) (wB G (ws_Md_branches G a_t a_t_truth a_t_entries a_t_marked a_t_helped a_t_counted a_t_told a_t_runs a_t_where a_t_what a_t_before a_t_isOn a_t_tryEntries a_t_tryMarks a_t_text a_t_present a_t_whose a_t_behind x_t_thrown' x_t_places x_t_persons x_t_many x_t_size x_t_at x_t_sought x_t_found x_t_present x_t_whose x_t_behind)) 0 0 := by
  refine cN_ofW (cc := prog_8_method_14_code) (maxL := 2) (ret := (some .int)) (by decide) rfl (Nat.le_of_ble_eq_true rfl) ?_
  intro p e s m args below meth c A H locs ls hx hb hr hts hown hlocks hin hml hK hN hP hD hA hS hl
  replace hl : lv_has ls 2 [(0, .ref a_t), (1, .int p0)] := hl
  replace hown : s.vm.findClass "PlayStatesModel" = some m.cls := hown
  unfold f_Md_branches at h
  refine lv_aload_n hx hb d_Md_branches_0 rfl (lv_at hl 0 rfl) ?_
  refine lv_iconst (v := (0 : Int32)) hx hb d_Md_branches_1 (by decide) ?_
  refine va_put (D := G.1) (ci := 6) (v := .int (0 : Int32)) (ty := .int) (C := "PlayStatesModel") (T := TMd) (N := 25) hx hb hts iw_6 tyMd tyMd_ok nmMd hown hK hP hD hS 0 rfl rfl 0 (by decide) (hts _ gw_379) (fun _ h9 => h9) rfl (by decide +kernel) (by rfl) (by rfl) (Nat.le_of_ble_eq_true rfl) d_Md_branches_2 (fun H locs hP hD hS => ?_)
  replace hP : va_P G.1 vwCl (ws_Md_branches G a_t a_t_truth a_t_entries a_t_marked a_t_helped a_t_counted a_t_told a_t_runs a_t_where a_t_what a_t_before a_t_isOn a_t_tryEntries a_t_tryMarks a_t_text a_t_present a_t_whose a_t_behind (0 : Int32) x_t_places x_t_persons x_t_many x_t_size x_t_at x_t_sought x_t_found x_t_present x_t_whose x_t_behind) H := hP
  replace hD : va_D A (ws_Md_branches G a_t a_t_truth a_t_entries a_t_marked a_t_helped a_t_counted a_t_told a_t_runs a_t_where a_t_what a_t_before a_t_isOn a_t_tryEntries a_t_tryMarks a_t_text a_t_present a_t_whose a_t_behind (0 : Int32) x_t_places x_t_persons x_t_many x_t_size x_t_at x_t_sought x_t_found x_t_present x_t_whose x_t_behind) := hD
  refine lv_aload_n hx hb d_Md_branches_5 rfl (lv_at hl 0 rfl) ?_
  refine lv_iload_n hx hb d_Md_branches_6 rfl (lv_at hl 1 rfl) ?_
  obtain ⟨y1, hy1, h⟩ := o_bind h
  have hPc := hP.sub (ws' := (ws_Md_isPerson G a_t a_t_truth a_t_entries a_t_marked a_t_present a_t_helped a_t_counted a_t_told a_t_runs a_t_whose a_t_where a_t_what a_t_before a_t_behind a_t_isOn a_t_tryEntries a_t_tryMarks a_t_text (0 : Int32) x_t_places x_t_persons x_t_many x_t_size x_t_at x_t_sought x_t_found)) [0] rfl
  have hDc := hD.sub (ws' := (ws_Md_isPerson G a_t a_t_truth a_t_entries a_t_marked a_t_present a_t_helped a_t_counted a_t_told a_t_runs a_t_whose a_t_where a_t_what a_t_before a_t_behind a_t_isOn a_t_tryEntries a_t_tryMarks a_t_text (0 : Int32) x_t_places x_t_persons x_t_many x_t_size x_t_at x_t_sought x_t_found)) [0] (by decide) rfl
  have hFc := va_free (wc := (ws_Md_isPerson G a_t a_t_truth a_t_entries a_t_marked a_t_present a_t_helped a_t_counted a_t_told a_t_runs a_t_whose a_t_where a_t_what a_t_before a_t_behind a_t_isOn a_t_tryEntries a_t_tryMarks a_t_text (0 : Int32) x_t_places x_t_persons x_t_many x_t_size x_t_at x_t_sought x_t_found)) hD hS hA [0] rfl
  refine q_call1 (va_runV (As := [.int p0]) (rest := []) ⟨hx, hb, hml, hown, hts⟩ (c_Md_isPerson l G H.size a_t a_t_truth a_t_entries a_t_marked a_t_present a_t_helped a_t_counted a_t_told a_t_runs a_t_whose a_t_where a_t_what a_t_before a_t_behind a_t_isOn a_t_tryEntries a_t_tryMarks a_t_text p0 (0 : Int32) x_t_places x_t_persons x_t_many x_t_size x_t_at x_t_sought x_t_found _ hy1) (cwV 1 hts (gV gw_441 gw_442 gw_17 gw_36 gw_443) rfl rfl rfl (by decide +kernel) ⟨Nat.le_of_ble_eq_true rfl, Nat.le_of_ble_eq_true rfl⟩) (pV hK hN hPc hDc (ci := 6) (q0 := 0) rfl rfl) rfl rfl hl.1 rfl (lv_room (Nat.le_of_ble_eq_true rfl)) d_Md_branches_7 ⟨Nat.le_of_ble_eq_true rfl, Nat.le_of_ble_eq_true rfl⟩) hS (fun q _ h => hFc q h) hFc (fun H1 locs hB hz hk hS => ?_)
  obtain ⟨hP, hD⟩ := q_join (wr := [(a_t_present, .inl (G.2 0, 8, .inl x_t_present)), (a_t_whose, .inl (G.2 0, 600, .inl x_t_whose)), (a_t_behind, .inl (G.2 0, 600, .inl x_t_behind))]) (wn := (ws_Md_branches G a_t a_t_truth a_t_entries a_t_marked a_t_helped a_t_counted a_t_told a_t_runs a_t_where a_t_what a_t_before a_t_isOn a_t_tryEntries a_t_tryMarks a_t_text a_t_present a_t_whose a_t_behind (0 : Int32) x_t_places x_t_persons x_t_many x_t_size x_t_at x_t_sought x_t_found x_t_present x_t_whose x_t_behind)) hP hD [0] [1, 2, 3] [3, 0, 1, 2] rfl rfl (by decide) (by decide) rfl (by decide) hk hFc hB.1 hB.2
  generalize H1 = H at hP hS ⊢
  replace hP : va_P G.1 vwCl (ws_Md_branches G a_t a_t_truth a_t_entries a_t_marked a_t_helped a_t_counted a_t_told a_t_runs a_t_where a_t_what a_t_before a_t_isOn a_t_tryEntries a_t_tryMarks a_t_text a_t_present a_t_whose a_t_behind (0 : Int32) x_t_places x_t_persons x_t_many x_t_size x_t_at x_t_sought x_t_found x_t_present x_t_whose x_t_behind) H := hP
  replace hD : va_D A (ws_Md_branches G a_t a_t_truth a_t_entries a_t_marked a_t_helped a_t_counted a_t_told a_t_runs a_t_where a_t_what a_t_before a_t_isOn a_t_tryEntries a_t_tryMarks a_t_text a_t_present a_t_whose a_t_behind (0 : Int32) x_t_places x_t_persons x_t_many x_t_size x_t_at x_t_sought x_t_found x_t_present x_t_whose x_t_behind) := hD
  refine lv_if_eq (tgt := 22) hx hb d_Md_branches_10 (by decide) (fun c2 => ?_) (fun c2 => ?_)
  · replace h := (if_pos c2).symm.trans h
    refine lv_iconst (v := (-1 : Int32)) hx hb d_Md_branches_22 (by decide) ?_
    cases h
    exact q_iretW hx hb hr hlocks hP hD hS d_Md_branches_23
  · replace h := (if_neg c2).symm.trans h
    refine lv_aload_n hx hb d_Md_branches_13 rfl (lv_at hl 0 rfl) ?_
    refine lv_iload_n hx hb d_Md_branches_14 rfl (lv_at hl 1 rfl) ?_
    refine lv_iconst (v := (-1 : Int32)) hx hb d_Md_branches_15 (by decide) ?_
    obtain ⟨y3, hy3, h⟩ := o_bind h
    have hPc := hP.sub (ws' := (ws_Md_branch G a_t a_t_truth a_t_entries a_t_marked a_t_helped a_t_counted a_t_told a_t_runs a_t_where a_t_what a_t_before a_t_isOn a_t_tryEntries a_t_tryMarks a_t_text a_t_present a_t_whose a_t_behind (0 : Int32) x_t_places x_t_persons x_t_many x_t_size x_t_at x_t_sought x_t_found x_t_present x_t_whose x_t_behind)) [0, 1, 2, 3] rfl
    have hDc := hD.sub (ws' := (ws_Md_branch G a_t a_t_truth a_t_entries a_t_marked a_t_helped a_t_counted a_t_told a_t_runs a_t_where a_t_what a_t_before a_t_isOn a_t_tryEntries a_t_tryMarks a_t_text a_t_present a_t_whose a_t_behind (0 : Int32) x_t_places x_t_persons x_t_many x_t_size x_t_at x_t_sought x_t_found x_t_present x_t_whose x_t_behind)) [0, 1, 2, 3] (by decide) rfl
    have hFc := va_free (wc := (ws_Md_branch G a_t a_t_truth a_t_entries a_t_marked a_t_helped a_t_counted a_t_told a_t_runs a_t_where a_t_what a_t_before a_t_isOn a_t_tryEntries a_t_tryMarks a_t_text a_t_present a_t_whose a_t_behind (0 : Int32) x_t_places x_t_persons x_t_many x_t_size x_t_at x_t_sought x_t_found x_t_present x_t_whose x_t_behind)) hD hS hA [0, 1, 2, 3] rfl
    refine q_call1 (va_runV (As := [.int p0, .int (-1 : Int32)]) (rest := []) ⟨hx, hb, hml, hown, hts⟩ (c_Md_branch l G H.size a_t a_t_truth a_t_entries a_t_marked a_t_helped a_t_counted a_t_told a_t_runs a_t_where a_t_what a_t_before a_t_isOn a_t_tryEntries a_t_tryMarks a_t_text a_t_present a_t_whose a_t_behind fu p0 (-1 : Int32) (0 : Int32) x_t_places x_t_persons x_t_many x_t_size x_t_at x_t_sought x_t_found x_t_present x_t_whose x_t_behind _ hy3) (cwV 2 hts (gV gw_465 gw_466 gw_21 gw_36 gw_467) rfl rfl rfl (by decide +kernel) ⟨Nat.le_of_ble_eq_true rfl, Nat.le_of_ble_eq_true rfl⟩) (pV hK hN hPc hDc (ci := 6) (q0 := 0) rfl rfl) rfl rfl hl.1 rfl (lv_room (Nat.le_of_ble_eq_true rfl)) d_Md_branches_16 ⟨Nat.le_of_ble_eq_true rfl, Nat.le_of_ble_eq_true rfl⟩) hS (fun q _ h => hFc q h) hFc (fun H1 locs hB hz hk hS => ?_)
    obtain ⟨hP, hD⟩ := q_joinA hFc hB.1 hB.2
    generalize H1 = H at hP hS ⊢
    replace hP : va_P G.1 vwCl (ws_Md_branches G a_t a_t_truth a_t_entries a_t_marked a_t_helped a_t_counted a_t_told a_t_runs a_t_where a_t_what a_t_before a_t_isOn a_t_tryEntries a_t_tryMarks a_t_text a_t_present a_t_whose a_t_behind (0 : Int32) x_t_places x_t_persons x_t_many x_t_size x_t_at x_t_sought x_t_found x_t_present x_t_whose x_t_behind) H := hP
    replace hD : va_D A (ws_Md_branches G a_t a_t_truth a_t_entries a_t_marked a_t_helped a_t_counted a_t_told a_t_runs a_t_where a_t_what a_t_before a_t_isOn a_t_tryEntries a_t_tryMarks a_t_text a_t_present a_t_whose a_t_behind (0 : Int32) x_t_places x_t_persons x_t_many x_t_size x_t_at x_t_sought x_t_found x_t_present x_t_whose x_t_behind) := hD
    refine lv_goto (tgt := 23) hx hb d_Md_branches_19 (by decide) ?_
    cases h
    exact q_iretW hx hb hr hlocks hP hD hS d_Md_branches_23
