theorem d_Md_at_0 : decode prog_8_method_15_code 0 = .ok (.aload_n 0, 1) := by decide +kernel
theorem d_Md_at_1 : decode prog_8_method_15_code 1 = .ok (.iconst 0, 1) := by decide +kernel
theorem d_Md_at_2 : decode prog_8_method_15_code 2 = .ok (.putfield 69, 3) := by decide +kernel
theorem d_Md_at_5 : decode prog_8_method_15_code 5 = .ok (.aload_n 0, 1) := by decide +kernel
theorem d_Md_at_6 : decode prog_8_method_15_code 6 = .ok (.iload_n 1, 1) := by decide +kernel
theorem d_Md_at_7 : decode prog_8_method_15_code 7 = .ok (.invokevirtual 86, 3) := by decide +kernel
theorem d_Md_at_10 : decode prog_8_method_15_code 10 = .ok (.ifCond .eq 25, 3) := by decide +kernel
theorem d_Md_at_13 : decode prog_8_method_15_code 13 = .ok (.aload_n 0, 1) := by decide +kernel
theorem d_Md_at_14 : decode prog_8_method_15_code 14 = .ok (.iload_n 2, 1) := by decide +kernel
theorem d_Md_at_15 : decode prog_8_method_15_code 15 = .ok (.invokevirtual 90, 3) := by decide +kernel
theorem d_Md_at_18 : decode prog_8_method_15_code 18 = .ok (.ifCond .eq 17, 3) := by decide +kernel
theorem d_Md_at_21 : decode prog_8_method_15_code 21 = .ok (.aload_n 0, 1) := by decide +kernel
theorem d_Md_at_22 : decode prog_8_method_15_code 22 = .ok (.getfield 13, 3) := by decide +kernel
theorem d_Md_at_25 : decode prog_8_method_15_code 25 = .ok (.bipush 81, 2) := by decide +kernel
theorem d_Md_at_27 : decode prog_8_method_15_code 27 = .ok (.iload_n 1, 1) := by decide +kernel
theorem d_Md_at_28 : decode prog_8_method_15_code 28 = .ok (.imul, 1) := by decide +kernel
theorem d_Md_at_29 : decode prog_8_method_15_code 29 = .ok (.iload_n 2, 1) := by decide +kernel
theorem d_Md_at_30 : decode prog_8_method_15_code 30 = .ok (.iadd, 1) := by decide +kernel
theorem d_Md_at_31 : decode prog_8_method_15_code 31 = .ok (.iaload, 1) := by decide +kernel
theorem d_Md_at_32 : decode prog_8_method_15_code 32 = .ok (.goto 4, 3) := by decide +kernel
theorem d_Md_at_35 : decode prog_8_method_15_code 35 = .ok (.iconst (-1), 1) := by decide +kernel
theorem d_Md_at_36 : decode prog_8_method_15_code 36 = .ok (.ireturn, 1) := by decide +kernel
-- PlayStatesModel.at(II)I 
def ws_Md_at (G : gG) (a_t a_t_truth a_t_marked a_t_present a_t_helped a_t_counted a_t_told a_t_runs a_t_whose a_t_where a_t_what a_t_before a_t_behind a_t_isOn a_t_tryEntries a_t_tryMarks a_t_text a_t_entries : Nat)  (x_t_thrown : Int32) (x_t_places : Int32) (x_t_persons : Int32) (x_t_many : Int32) (x_t_size : Int32) (x_t_at : Int32) (x_t_sought : Int32) (x_t_found : Int32) (x_t_entries : Nat → Int32) : va_W := [(a_t, .inr (6, [.int x_t_thrown, .int x_t_places, .int x_t_persons, .ref a_t_truth, .ref a_t_entries, .ref a_t_marked, .ref a_t_present, .ref a_t_helped, .ref a_t_counted, .ref a_t_told, .ref a_t_runs, .int x_t_many, .ref a_t_whose, .ref a_t_where, .ref a_t_what, .ref a_t_before, .ref a_t_behind, .ref a_t_isOn, .ref a_t_tryEntries, .ref a_t_tryMarks, .int x_t_size, .ref a_t_text, .int x_t_at, .int x_t_sought, .int x_t_found])), (a_t_entries, .inl (G.2 0, 648, .inl x_t_entries))]
def f_Md_at  (p0 : Int32) (p1 : Int32) (x_t_thrown : Int32) (x_t_places : Int32) (x_t_persons : Int32) (x_t_many : Int32) (x_t_size : Int32) (x_t_at : Int32) (x_t_sought : Int32) (x_t_found : Int32) (x_t_entries : Nat → Int32) : Option (Int32 × Int32) :=
  ((f_Md_isPerson p0 (0 : Int32) x_t_places x_t_persons x_t_many x_t_size x_t_at x_t_sought x_t_found).bind fun y1 => (if y1 = 0 then some ((-1 : Int32), (0 : Int32)) else ((f_Md_isPlace p1 (0 : Int32) x_t_places x_t_persons x_t_many x_t_size x_t_at x_t_sought x_t_found).bind fun y3 => (if y3 = 0 then some ((-1 : Int32), (0 : Int32)) else (if inB (((81 : Int32) * p0) + p1) 648 then some ((x_t_entries (((81 : Int32) * p0) + p1).toNatClampNeg), (0 : Int32)) else none)))))
set_option maxHeartbeats 4000000 in
set_option maxRecDepth 100000 in
theorem c_Md_at (l : Launch) (G : gG) (sz : Nat) (a_t a_t_truth a_t_marked a_t_present a_t_helped a_t_counted a_t_told a_t_runs a_t_whose a_t_where a_t_what a_t_before a_t_behind a_t_isOn a_t_tryEntries a_t_tryMarks a_t_text a_t_entries : Nat)  (p0 : Int32) (p1 : Int32) (x_t_thrown : Int32) (x_t_places : Int32) (x_t_persons : Int32) (x_t_many : Int32) (x_t_size : Int32) (x_t_at : Int32) (x_t_sought : Int32) (x_t_found : Int32) (x_t_entries : Nat → Int32) (r : Int32) (x_t_thrown' : Int32) (h : f_Md_at p0 p1 x_t_thrown x_t_places x_t_persons x_t_many x_t_size x_t_at x_t_sought x_t_found x_t_entries = some (r, x_t_thrown'))  : cN l y_Md_at w_Md_at { frames := 1, cells := 0, slots := 0, locals := 21 } G sz [.ref a_t, .int p0, .int p1] (ws_Md_at G a_t a_t_truth a_t_marked a_t_present a_t_helped a_t_counted a_t_told a_t_runs a_t_whose a_t_where a_t_what a_t_before a_t_behind a_t_isOn a_t_tryEntries a_t_tryMarks a_t_text a_t_entries x_t_thrown x_t_places x_t_persons x_t_many x_t_size x_t_at x_t_sought x_t_found x_t_entries) (some (.int r)) (wB G (ws_Md_at G a_t a_t_truth a_t_marked a_t_present a_t_helped a_t_counted a_t_told a_t_runs a_t_whose a_t_where a_t_what a_t_before a_t_behind a_t_isOn a_t_tryEntries a_t_tryMarks a_t_text a_t_entries x_t_thrown' x_t_places x_t_persons x_t_many x_t_size x_t_at x_t_sought x_t_found x_t_entries)) 0 0 := by
  refine cN_ofW (cc := prog_8_method_15_code) (maxL := 3) (ret := (some .int)) (by decide) rfl (Nat.le_of_ble_eq_true rfl) ?_
  intro p e s m args below meth c A H locs ls hx hb hr hts hown hlocks hin hml hK hN hP hD hA hS hl
  replace hl : lv_has ls 3 [(0, .ref a_t), (1, .int p0), (2, .int p1)] := hl
  replace hown : s.vm.findClass "PlayStatesModel" = some m.cls := hown
  unfold f_Md_at at h
  refine lv_aload_n hx hb d_Md_at_0 rfl (lv_at hl 0 rfl) ?_
  refine lv_iconst (v := (0 : Int32)) hx hb d_Md_at_1 (by decide) ?_
  refine va_put (D := G.1) (ci := 6) (v := .int (0 : Int32)) (ty := .int) (C := "PlayStatesModel") (T := TMd) (N := 25) hx hb hts iw_6 tyMd tyMd_ok nmMd hown hK hP hD hS 0 rfl rfl 0 (by decide) (hts _ gw_379) (fun _ h9 => h9) rfl (by decide +kernel) (by rfl) (by rfl) (Nat.le_of_ble_eq_true rfl) d_Md_at_2 (fun H locs hP hD hS => ?_)
  replace hP : va_P G.1 vwCl (ws_Md_at G a_t a_t_truth a_t_marked a_t_present a_t_helped a_t_counted a_t_told a_t_runs a_t_whose a_t_where a_t_what a_t_before a_t_behind a_t_isOn a_t_tryEntries a_t_tryMarks a_t_text a_t_entries (0 : Int32) x_t_places x_t_persons x_t_many x_t_size x_t_at x_t_sought x_t_found x_t_entries) H := hP
  replace hD : va_D A (ws_Md_at G a_t a_t_truth a_t_marked a_t_present a_t_helped a_t_counted a_t_told a_t_runs a_t_whose a_t_where a_t_what a_t_before a_t_behind a_t_isOn a_t_tryEntries a_t_tryMarks a_t_text a_t_entries (0 : Int32) x_t_places x_t_persons x_t_many x_t_size x_t_at x_t_sought x_t_found x_t_entries) := hD
  refine lv_aload_n hx hb d_Md_at_5 rfl (lv_at hl 0 rfl) ?_
  refine lv_iload_n hx hb d_Md_at_6 rfl (lv_at hl 1 rfl) ?_
  obtain ⟨y1, hy1, h⟩ := o_bind h
  have hPc := hP.sub (ws' := (ws_Md_isPerson G a_t a_t_truth a_t_entries a_t_marked a_t_present a_t_helped a_t_counted a_t_told a_t_runs a_t_whose a_t_where a_t_what a_t_before a_t_behind a_t_isOn a_t_tryEntries a_t_tryMarks a_t_text (0 : Int32) x_t_places x_t_persons x_t_many x_t_size x_t_at x_t_sought x_t_found)) [0] rfl
  have hDc := hD.sub (ws' := (ws_Md_isPerson G a_t a_t_truth a_t_entries a_t_marked a_t_present a_t_helped a_t_counted a_t_told a_t_runs a_t_whose a_t_where a_t_what a_t_before a_t_behind a_t_isOn a_t_tryEntries a_t_tryMarks a_t_text (0 : Int32) x_t_places x_t_persons x_t_many x_t_size x_t_at x_t_sought x_t_found)) [0] (by decide) rfl
  have hFc := va_free (wc := (ws_Md_isPerson G a_t a_t_truth a_t_entries a_t_marked a_t_present a_t_helped a_t_counted a_t_told a_t_runs a_t_whose a_t_where a_t_what a_t_before a_t_behind a_t_isOn a_t_tryEntries a_t_tryMarks a_t_text (0 : Int32) x_t_places x_t_persons x_t_many x_t_size x_t_at x_t_sought x_t_found)) hD hS hA [0] rfl
  refine q_call1 (va_runV (As := [.int p0]) (rest := []) ⟨hx, hb, hml, hown, hts⟩ (c_Md_isPerson l G H.size a_t a_t_truth a_t_entries a_t_marked a_t_present a_t_helped a_t_counted a_t_told a_t_runs a_t_whose a_t_where a_t_what a_t_before a_t_behind a_t_isOn a_t_tryEntries a_t_tryMarks a_t_text p0 (0 : Int32) x_t_places x_t_persons x_t_many x_t_size x_t_at x_t_sought x_t_found _ hy1) (cwV 1 hts (gV gw_441 gw_442 gw_17 gw_36 gw_443) rfl rfl rfl (by decide +kernel) ⟨Nat.le_of_ble_eq_true rfl, Nat.le_of_ble_eq_true rfl⟩) (pV hK hN hPc hDc (ci := 6) (q0 := 0) rfl rfl) rfl rfl hl.1 rfl (lv_room (Nat.le_of_ble_eq_true rfl)) d_Md_at_7 ⟨Nat.le_of_ble_eq_true rfl, Nat.le_of_ble_eq_true rfl⟩) hS (fun q _ h => hFc q h) hFc (fun H1 locs hB hz hk hS => ?_)
  obtain ⟨hP, hD⟩ := q_join (wr := [(a_t_entries, .inl (G.2 0, 648, .inl x_t_entries))]) (wn := (ws_Md_at G a_t a_t_truth a_t_marked a_t_present a_t_helped a_t_counted a_t_told a_t_runs a_t_whose a_t_where a_t_what a_t_before a_t_behind a_t_isOn a_t_tryEntries a_t_tryMarks a_t_text a_t_entries (0 : Int32) x_t_places x_t_persons x_t_many x_t_size x_t_at x_t_sought x_t_found x_t_entries)) hP hD [0] [1] [1, 0] rfl rfl (by decide) (by decide) rfl (by decide) hk hFc hB.1 hB.2
  generalize H1 = H at hP hS ⊢
  replace hP : va_P G.1 vwCl (ws_Md_at G a_t a_t_truth a_t_marked a_t_present a_t_helped a_t_counted a_t_told a_t_runs a_t_whose a_t_where a_t_what a_t_before a_t_behind a_t_isOn a_t_tryEntries a_t_tryMarks a_t_text a_t_entries (0 : Int32) x_t_places x_t_persons x_t_many x_t_size x_t_at x_t_sought x_t_found x_t_entries) H := hP
  replace hD : va_D A (ws_Md_at G a_t a_t_truth a_t_marked a_t_present a_t_helped a_t_counted a_t_told a_t_runs a_t_whose a_t_where a_t_what a_t_before a_t_behind a_t_isOn a_t_tryEntries a_t_tryMarks a_t_text a_t_entries (0 : Int32) x_t_places x_t_persons x_t_many x_t_size x_t_at x_t_sought x_t_found x_t_entries) := hD
  refine lv_if_eq (tgt := 35) hx hb d_Md_at_10 (by decide) (fun c2 => ?_) (fun c2 => ?_)
  · replace h := (if_pos c2).symm.trans h
    refine lv_iconst (v := (-1 : Int32)) hx hb d_Md_at_35 (by decide) ?_
    cases h
    exact q_iretW hx hb hr hlocks hP hD hS d_Md_at_36
  · replace h := (if_neg c2).symm.trans h
    refine lv_aload_n hx hb d_Md_at_13 rfl (lv_at hl 0 rfl) ?_
    refine lv_iload_n hx hb d_Md_at_14 rfl (lv_at hl 2 rfl) ?_
    obtain ⟨y3, hy3, h⟩ := o_bind h
    have hPc := hP.sub (ws' := (ws_Md_isPlace G a_t a_t_truth a_t_entries a_t_marked a_t_present a_t_helped a_t_counted a_t_told a_t_runs a_t_whose a_t_where a_t_what a_t_before a_t_behind a_t_isOn a_t_tryEntries a_t_tryMarks a_t_text (0 : Int32) x_t_places x_t_persons x_t_many x_t_size x_t_at x_t_sought x_t_found)) [0] rfl
    have hDc := hD.sub (ws' := (ws_Md_isPlace G a_t a_t_truth a_t_entries a_t_marked a_t_present a_t_helped a_t_counted a_t_told a_t_runs a_t_whose a_t_where a_t_what a_t_before a_t_behind a_t_isOn a_t_tryEntries a_t_tryMarks a_t_text (0 : Int32) x_t_places x_t_persons x_t_many x_t_size x_t_at x_t_sought x_t_found)) [0] (by decide) rfl
    have hFc := va_free (wc := (ws_Md_isPlace G a_t a_t_truth a_t_entries a_t_marked a_t_present a_t_helped a_t_counted a_t_told a_t_runs a_t_whose a_t_where a_t_what a_t_before a_t_behind a_t_isOn a_t_tryEntries a_t_tryMarks a_t_text (0 : Int32) x_t_places x_t_persons x_t_many x_t_size x_t_at x_t_sought x_t_found)) hD hS hA [0] rfl
    refine q_call1 (va_runV (As := [.int p1]) (rest := []) ⟨hx, hb, hml, hown, hts⟩ (c_Md_isPlace l G H.size a_t a_t_truth a_t_entries a_t_marked a_t_present a_t_helped a_t_counted a_t_told a_t_runs a_t_whose a_t_where a_t_what a_t_before a_t_behind a_t_isOn a_t_tryEntries a_t_tryMarks a_t_text p1 (0 : Int32) x_t_places x_t_persons x_t_many x_t_size x_t_at x_t_sought x_t_found _ hy3) (cwV 1 hts (gV gw_444 gw_445 gw_18 gw_36 gw_446) rfl rfl rfl (by decide +kernel) ⟨Nat.le_of_ble_eq_true rfl, Nat.le_of_ble_eq_true rfl⟩) (pV hK hN hPc hDc (ci := 6) (q0 := 0) rfl rfl) rfl rfl hl.1 rfl (lv_room (Nat.le_of_ble_eq_true rfl)) d_Md_at_15 ⟨Nat.le_of_ble_eq_true rfl, Nat.le_of_ble_eq_true rfl⟩) hS (fun q _ h => hFc q h) hFc (fun H1 locs hB hz hk hS => ?_)
    obtain ⟨hP, hD⟩ := q_join (wr := [(a_t_entries, .inl (G.2 0, 648, .inl x_t_entries))]) (wn := (ws_Md_at G a_t a_t_truth a_t_marked a_t_present a_t_helped a_t_counted a_t_told a_t_runs a_t_whose a_t_where a_t_what a_t_before a_t_behind a_t_isOn a_t_tryEntries a_t_tryMarks a_t_text a_t_entries (0 : Int32) x_t_places x_t_persons x_t_many x_t_size x_t_at x_t_sought x_t_found x_t_entries)) hP hD [0] [1] [1, 0] rfl rfl (by decide) (by decide) rfl (by decide) hk hFc hB.1 hB.2
    generalize H1 = H at hP hS ⊢
    replace hP : va_P G.1 vwCl (ws_Md_at G a_t a_t_truth a_t_marked a_t_present a_t_helped a_t_counted a_t_told a_t_runs a_t_whose a_t_where a_t_what a_t_before a_t_behind a_t_isOn a_t_tryEntries a_t_tryMarks a_t_text a_t_entries (0 : Int32) x_t_places x_t_persons x_t_many x_t_size x_t_at x_t_sought x_t_found x_t_entries) H := hP
    replace hD : va_D A (ws_Md_at G a_t a_t_truth a_t_marked a_t_present a_t_helped a_t_counted a_t_told a_t_runs a_t_whose a_t_where a_t_what a_t_before a_t_behind a_t_isOn a_t_tryEntries a_t_tryMarks a_t_text a_t_entries (0 : Int32) x_t_places x_t_persons x_t_many x_t_size x_t_at x_t_sought x_t_found x_t_entries) := hD
    refine lv_if_eq (tgt := 35) hx hb d_Md_at_18 (by decide) (fun c4 => ?_) (fun c4 => ?_)
    · replace h := (if_pos c4).symm.trans h
      refine lv_iconst (v := (-1 : Int32)) hx hb d_Md_at_35 (by decide) ?_
      cases h
      exact q_iretW hx hb hr hlocks hP hD hS d_Md_at_36
    · replace h := (if_neg c4).symm.trans h
      refine lv_aload_n hx hb d_Md_at_21 rfl (lv_at hl 0 rfl) ?_
      refine va_get (D := G.1) (ci := 6) (v := .ref a_t_entries) (C := "PlayStatesModel") (T := TMd) (N := 25) hx hb hts iw_6 hown hK hP 0 rfl rfl 4 (by decide) (hts _ gw_383) (fun _ h9 => h9) rfl d_Md_at_22 ?_
      refine lv_bipush (v := (81 : Int32)) hx hb d_Md_at_25 (by decide) ?_
      refine lv_iload_n hx hb d_Md_at_27 rfl (lv_at hl 1 rfl) ?_
      refine lv_imul hx hb d_Md_at_28 ?_
      refine lv_iload_n hx hb d_Md_at_29 rfl (lv_at hl 2 rfl) ?_
      refine lv_iadd hx hb d_Md_at_30 ?_
      obtain ⟨i5, h⟩ := o_if h
      refine va_iald (n := 648) (f := x_t_entries) hx hb hK hP 1 0 rfl rfl i5 d_Md_at_31 ?_
      refine lv_goto (tgt := 36) hx hb d_Md_at_32 (by decide) ?_
      cases h
      exact q_iretW hx hb hr hlocks hP hD hS d_Md_at_36

theorem d_Md_marks_0 : decode prog_8_method_16_code 0 = .ok (.aload_n 0, 1) := by decide +kernel
theorem d_Md_marks_1 : decode prog_8_method_16_code 1 = .ok (.iconst 0, 1) := by decide +kernel
theorem d_Md_marks_2 : decode prog_8_method_16_code 2 = .ok (.putfield 69, 3) := by decide +kernel
theorem d_Md_marks_5 : decode prog_8_method_16_code 5 = .ok (.aload_n 0, 1) := by decide +kernel
theorem d_Md_marks_6 : decode prog_8_method_16_code 6 = .ok (.iload_n 1, 1) := by decide +kernel
theorem d_Md_marks_7 : decode prog_8_method_16_code 7 = .ok (.invokevirtual 86, 3) := by decide +kernel
theorem d_Md_marks_10 : decode prog_8_method_16_code 10 = .ok (.ifCond .eq 25, 3) := by decide +kernel
theorem d_Md_marks_13 : decode prog_8_method_16_code 13 = .ok (.aload_n 0, 1) := by decide +kernel
theorem d_Md_marks_14 : decode prog_8_method_16_code 14 = .ok (.iload_n 2, 1) := by decide +kernel
theorem d_Md_marks_15 : decode prog_8_method_16_code 15 = .ok (.invokevirtual 90, 3) := by decide +kernel
theorem d_Md_marks_18 : decode prog_8_method_16_code 18 = .ok (.ifCond .eq 17, 3) := by decide +kernel
theorem d_Md_marks_21 : decode prog_8_method_16_code 21 = .ok (.aload_n 0, 1) := by decide +kernel
theorem d_Md_marks_22 : decode prog_8_method_16_code 22 = .ok (.getfield 16, 3) := by decide +kernel
theorem d_Md_marks_25 : decode prog_8_method_16_code 25 = .ok (.bipush 81, 2) := by decide +kernel
theorem d_Md_marks_27 : decode prog_8_method_16_code 27 = .ok (.iload_n 1, 1) := by decide +kernel
theorem d_Md_marks_28 : decode prog_8_method_16_code 28 = .ok (.imul, 1) := by decide +kernel
theorem d_Md_marks_29 : decode prog_8_method_16_code 29 = .ok (.iload_n 2, 1) := by decide +kernel
theorem d_Md_marks_30 : decode prog_8_method_16_code 30 = .ok (.iadd, 1) := by decide +kernel
theorem d_Md_marks_31 : decode prog_8_method_16_code 31 = .ok (.iaload, 1) := by decide +kernel
theorem d_Md_marks_32 : decode prog_8_method_16_code 32 = .ok (.goto 4, 3) := by decide +kernel
theorem d_Md_marks_35 : decode prog_8_method_16_code 35 = .ok (.iconst (-1), 1) := by decide +kernel
theorem d_Md_marks_36 : decode prog_8_method_16_code 36 = .ok (.ireturn, 1) := by decide +kernel
-- PlayStatesModel.marks(II)I 
def ws_Md_marks (G : gG) (a_t a_t_truth a_t_entries a_t_present a_t_helped a_t_counted a_t_told a_t_runs a_t_whose a_t_where a_t_what a_t_before a_t_behind a_t_isOn a_t_tryEntries a_t_tryMarks a_t_text a_t_marked : Nat)  (x_t_thrown : Int32) (x_t_places : Int32) (x_t_persons : Int32) (x_t_many : Int32) (x_t_size : Int32) (x_t_at : Int32) (x_t_sought : Int32) (x_t_found : Int32) (x_t_marked : Nat → Int32) : va_W := [(a_t, .inr (6, [.int x_t_thrown, .int x_t_places, .int x_t_persons, .ref a_t_truth, .ref a_t_entries, .ref a_t_marked, .ref a_t_present, .ref a_t_helped, .ref a_t_counted, .ref a_t_told, .ref a_t_runs, .int x_t_many, .ref a_t_whose, .ref a_t_where, .ref a_t_what, .ref a_t_before, .ref a_t_behind, .ref a_t_isOn, .ref a_t_tryEntries, .ref a_t_tryMarks, .int x_t_size, .ref a_t_text, .int x_t_at, .int x_t_sought, .int x_t_found])), (a_t_marked, .inl (G.2 0, 648, .inl x_t_marked))]
def f_Md_marks  (p0 : Int32) (p1 : Int32) (x_t_thrown : Int32) (x_t_places : Int32) (x_t_persons : Int32) (x_t_many : Int32) (x_t_size : Int32) (x_t_at : Int32) (x_t_sought : Int32) (x_t_found : Int32) (x_t_marked : Nat → Int32) : Option (Int32 × Int32) :=
  ((f_Md_isPerson p0 (0 : Int32) x_t_places x_t_persons x_t_many x_t_size x_t_at x_t_sought x_t_found).bind fun y1 => (if y1 = 0 then some ((-1 : Int32), (0 : Int32)) else ((f_Md_isPlace p1 (0 : Int32) x_t_places x_t_persons x_t_many x_t_size x_t_at x_t_sought x_t_found).bind fun y3 => (if y3 = 0 then some ((-1 : Int32), (0 : Int32)) else (if inB (((81 : Int32) * p0) + p1) 648 then some ((x_t_marked (((81 : Int32) * p0) + p1).toNatClampNeg), (0 : Int32)) else none)))))
set_option maxHeartbeats 4000000 in
set_option maxRecDepth 100000 in
theorem c_Md_marks (l : Launch) (G : gG) (sz : Nat) (a_t a_t_truth a_t_entries a_t_present a_t_helped a_t_counted a_t_told a_t_runs a_t_whose a_t_where a_t_what a_t_before a_t_behind a_t_isOn a_t_tryEntries a_t_tryMarks a_t_text a_t_marked : Nat)  (p0 : Int32) (p1 : Int32) (x_t_thrown : Int32) (x_t_places : Int32) (x_t_persons : Int32) (x_t_many : Int32) (x_t_size : Int32) (x_t_at : Int32) (x_t_sought : Int32) (x_t_found : Int32) (x_t_marked : Nat → Int32) (r : Int32) (x_t_thrown' : Int32) (h : f_Md_marks p0 p1 x_t_thrown x_t_places x_t_persons x_t_many x_t_size x_t_at x_t_sought x_t_found x_t_marked = some (r, x_t_thrown'))  : cN l y_Md_marks w_Md_marks { frames := 1, cells := 0, slots := 0, locals := 21 } G sz [.ref a_t, .int p0, .int p1] (ws_Md_marks G a_t a_t_truth a_t_entries a_t_present a_t_helped a_t_counted a_t_told a_t_runs a_t_whose a_t_where a_t_what a_t_before a_t_behind a_t_isOn a_t_tryEntries a_t_tryMarks a_t_text a_t_marked x_t_thrown x_t_places x_t_persons x_t_many x_t_size x_t_at x_t_sought x_t_found x_t_marked) (some (.int r)) (wB G (ws_Md_marks G a_t a_t_truth a_t_entries a_t_present a_t_helped a_t_counted a_t_told a_t_runs a_t_whose a_t_where a_t_what a_t_before a_t_behind a_t_isOn a_t_tryEntries a_t_tryMarks a_t_text a_t_marked x_t_thrown' x_t_places x_t_persons x_t_many x_t_size x_t_at x_t_sought x_t_found x_t_marked)) 0 0 := by
  refine cN_ofW (cc := prog_8_method_16_code) (maxL := 3) (ret := (some .int)) (by decide) rfl (Nat.le_of_ble_eq_true rfl) ?_
  intro p e s m args below meth c A H locs ls hx hb hr hts hown hlocks hin hml hK hN hP hD hA hS hl
  replace hl : lv_has ls 3 [(0, .ref a_t), (1, .int p0), (2, .int p1)] := hl
  replace hown : s.vm.findClass "PlayStatesModel" = some m.cls := hown
  unfold f_Md_marks at h
  refine lv_aload_n hx hb d_Md_marks_0 rfl (lv_at hl 0 rfl) ?_
  refine lv_iconst (v := (0 : Int32)) hx hb d_Md_marks_1 (by decide) ?_
  refine va_put (D := G.1) (ci := 6) (v := .int (0 : Int32)) (ty := .int) (C := "PlayStatesModel") (T := TMd) (N := 25) hx hb hts iw_6 tyMd tyMd_ok nmMd hown hK hP hD hS 0 rfl rfl 0 (by decide) (hts _ gw_379) (fun _ h9 => h9) rfl (by decide +kernel) (by rfl) (by rfl) (Nat.le_of_ble_eq_true rfl) d_Md_marks_2 (fun H locs hP hD hS => ?_)
  replace hP : va_P G.1 vwCl (ws_Md_marks G a_t a_t_truth a_t_entries a_t_present a_t_helped a_t_counted a_t_told a_t_runs a_t_whose a_t_where a_t_what a_t_before a_t_behind a_t_isOn a_t_tryEntries a_t_tryMarks a_t_text a_t_marked (0 : Int32) x_t_places x_t_persons x_t_many x_t_size x_t_at x_t_sought x_t_found x_t_marked) H := hP
  replace hD : va_D A (ws_Md_marks G a_t a_t_truth a_t_entries a_t_present a_t_helped a_t_counted a_t_told a_t_runs a_t_whose a_t_where a_t_what a_t_before a_t_behind a_t_isOn a_t_tryEntries a_t_tryMarks a_t_text a_t_marked (0 : Int32) x_t_places x_t_persons x_t_many x_t_size x_t_at x_t_sought x_t_found x_t_marked) := hD
  refine lv_aload_n hx hb d_Md_marks_5 rfl (lv_at hl 0 rfl) ?_
  refine lv_iload_n hx hb d_Md_marks_6 rfl (lv_at hl 1 rfl) ?_
  obtain ⟨y1, hy1, h⟩ := o_bind h
  have hPc := hP.sub (ws' := (ws_Md_isPerson G a_t a_t_truth a_t_entries a_t_marked a_t_present a_t_helped a_t_counted a_t_told a_t_runs a_t_whose a_t_where a_t_what a_t_before a_t_behind a_t_isOn a_t_tryEntries a_t_tryMarks a_t_text (0 : Int32) x_t_places x_t_persons x_t_many x_t_size x_t_at x_t_sought x_t_found)) [0] rfl
  have hDc := hD.sub (ws' := (ws_Md_isPerson G a_t a_t_truth a_t_entries a_t_marked a_t_present a_t_helped a_t_counted a_t_told a_t_runs a_t_whose a_t_where a_t_what a_t_before a_t_behind a_t_isOn a_t_tryEntries a_t_tryMarks a_t_text (0 : Int32) x_t_places x_t_persons x_t_many x_t_size x_t_at x_t_sought x_t_found)) [0] (by decide) rfl
  have hFc := va_free (wc := (ws_Md_isPerson G a_t a_t_truth a_t_entries a_t_marked a_t_present a_t_helped a_t_counted a_t_told a_t_runs a_t_whose a_t_where a_t_what a_t_before a_t_behind a_t_isOn a_t_tryEntries a_t_tryMarks a_t_text (0 : Int32) x_t_places x_t_persons x_t_many x_t_size x_t_at x_t_sought x_t_found)) hD hS hA [0] rfl
  refine q_call1 (va_runV (As := [.int p0]) (rest := []) ⟨hx, hb, hml, hown, hts⟩ (c_Md_isPerson l G H.size a_t a_t_truth a_t_entries a_t_marked a_t_present a_t_helped a_t_counted a_t_told a_t_runs a_t_whose a_t_where a_t_what a_t_before a_t_behind a_t_isOn a_t_tryEntries a_t_tryMarks a_t_text p0 (0 : Int32) x_t_places x_t_persons x_t_many x_t_size x_t_at x_t_sought x_t_found _ hy1) (cwV 1 hts (gV gw_441 gw_442 gw_17 gw_36 gw_443) rfl rfl rfl (by decide +kernel) ⟨Nat.le_of_ble_eq_true rfl, Nat.le_of_ble_eq_true rfl⟩) (pV hK hN hPc hDc (ci := 6) (q0 := 0) rfl rfl) rfl rfl hl.1 rfl (lv_room (Nat.le_of_ble_eq_true rfl)) d_Md_marks_7 ⟨Nat.le_of_ble_eq_true rfl, Nat.le_of_ble_eq_true rfl⟩) hS (fun q _ h => hFc q h) hFc (fun H1 locs hB hz hk hS => ?_)
  obtain ⟨hP, hD⟩ := q_join (wr := [(a_t_marked, .inl (G.2 0, 648, .inl x_t_marked))]) (wn := (ws_Md_marks G a_t a_t_truth a_t_entries a_t_present a_t_helped a_t_counted a_t_told a_t_runs a_t_whose a_t_where a_t_what a_t_before a_t_behind a_t_isOn a_t_tryEntries a_t_tryMarks a_t_text a_t_marked (0 : Int32) x_t_places x_t_persons x_t_many x_t_size x_t_at x_t_sought x_t_found x_t_marked)) hP hD [0] [1] [1, 0] rfl rfl (by decide) (by decide) rfl (by decide) hk hFc hB.1 hB.2
  generalize H1 = H at hP hS ⊢
  replace hP : va_P G.1 vwCl (ws_Md_marks G a_t a_t_truth a_t_entries a_t_present a_t_helped a_t_counted a_t_told a_t_runs a_t_whose a_t_where a_t_what a_t_before a_t_behind a_t_isOn a_t_tryEntries a_t_tryMarks a_t_text a_t_marked (0 : Int32) x_t_places x_t_persons x_t_many x_t_size x_t_at x_t_sought x_t_found x_t_marked) H := hP
  replace hD : va_D A (ws_Md_marks G a_t a_t_truth a_t_entries a_t_present a_t_helped a_t_counted a_t_told a_t_runs a_t_whose a_t_where a_t_what a_t_before a_t_behind a_t_isOn a_t_tryEntries a_t_tryMarks a_t_text a_t_marked (0 : Int32) x_t_places x_t_persons x_t_many x_t_size x_t_at x_t_sought x_t_found x_t_marked) := hD
  refine lv_if_eq (tgt := 35) hx hb d_Md_marks_10 (by decide) (fun c2 => ?_) (fun c2 => ?_)
  · replace h := (if_pos c2).symm.trans h
    refine lv_iconst (v := (-1 : Int32)) hx hb d_Md_marks_35 (by decide) ?_
    cases h
    exact q_iretW hx hb hr hlocks hP hD hS d_Md_marks_36
  · replace h := (if_neg c2).symm.trans h
    refine lv_aload_n hx hb d_Md_marks_13 rfl (lv_at hl 0 rfl) ?_
    refine lv_iload_n hx hb d_Md_marks_14 rfl (lv_at hl 2 rfl) ?_
    obtain ⟨y3, hy3, h⟩ := o_bind h
    have hPc := hP.sub (ws' := (ws_Md_isPlace G a_t a_t_truth a_t_entries a_t_marked a_t_present a_t_helped a_t_counted a_t_told a_t_runs a_t_whose a_t_where a_t_what a_t_before a_t_behind a_t_isOn a_t_tryEntries a_t_tryMarks a_t_text (0 : Int32) x_t_places x_t_persons x_t_many x_t_size x_t_at x_t_sought x_t_found)) [0] rfl
    have hDc := hD.sub (ws' := (ws_Md_isPlace G a_t a_t_truth a_t_entries a_t_marked a_t_present a_t_helped a_t_counted a_t_told a_t_runs a_t_whose a_t_where a_t_what a_t_before a_t_behind a_t_isOn a_t_tryEntries a_t_tryMarks a_t_text (0 : Int32) x_t_places x_t_persons x_t_many x_t_size x_t_at x_t_sought x_t_found)) [0] (by decide) rfl
    have hFc := va_free (wc := (ws_Md_isPlace G a_t a_t_truth a_t_entries a_t_marked a_t_present a_t_helped a_t_counted a_t_told a_t_runs a_t_whose a_t_where a_t_what a_t_before a_t_behind a_t_isOn a_t_tryEntries a_t_tryMarks a_t_text (0 : Int32) x_t_places x_t_persons x_t_many x_t_size x_t_at x_t_sought x_t_found)) hD hS hA [0] rfl
    refine q_call1 (va_runV (As := [.int p1]) (rest := []) ⟨hx, hb, hml, hown, hts⟩ (c_Md_isPlace l G H.size a_t a_t_truth a_t_entries a_t_marked a_t_present a_t_helped a_t_counted a_t_told a_t_runs a_t_whose a_t_where a_t_what a_t_before a_t_behind a_t_isOn a_t_tryEntries a_t_tryMarks a_t_text p1 (0 : Int32) x_t_places x_t_persons x_t_many x_t_size x_t_at x_t_sought x_t_found _ hy3) (cwV 1 hts (gV gw_444 gw_445 gw_18 gw_36 gw_446) rfl rfl rfl (by decide +kernel) ⟨Nat.le_of_ble_eq_true rfl, Nat.le_of_ble_eq_true rfl⟩) (pV hK hN hPc hDc (ci := 6) (q0 := 0) rfl rfl) rfl rfl hl.1 rfl (lv_room (Nat.le_of_ble_eq_true rfl)) d_Md_marks_15 ⟨Nat.le_of_ble_eq_true rfl, Nat.le_of_ble_eq_true rfl⟩) hS (fun q _ h => hFc q h) hFc (fun H1 locs hB hz hk hS => ?_)
    obtain ⟨hP, hD⟩ := q_join (wr := [(a_t_marked, .inl (G.2 0, 648, .inl x_t_marked))]) (wn := (ws_Md_marks G a_t a_t_truth a_t_entries a_t_present a_t_helped a_t_counted a_t_told a_t_runs a_t_whose a_t_where a_t_what a_t_before a_t_behind a_t_isOn a_t_tryEntries a_t_tryMarks a_t_text a_t_marked (0 : Int32) x_t_places x_t_persons x_t_many x_t_size x_t_at x_t_sought x_t_found x_t_marked)) hP hD [0] [1] [1, 0] rfl rfl (by decide) (by decide) rfl (by decide) hk hFc hB.1 hB.2
    generalize H1 = H at hP hS ⊢
    replace hP : va_P G.1 vwCl (ws_Md_marks G a_t a_t_truth a_t_entries a_t_present a_t_helped a_t_counted a_t_told a_t_runs a_t_whose a_t_where a_t_what a_t_before a_t_behind a_t_isOn a_t_tryEntries a_t_tryMarks a_t_text a_t_marked (0 : Int32) x_t_places x_t_persons x_t_many x_t_size x_t_at x_t_sought x_t_found x_t_marked) H := hP
    replace hD : va_D A (ws_Md_marks G a_t a_t_truth a_t_entries a_t_present a_t_helped a_t_counted a_t_told a_t_runs a_t_whose a_t_where a_t_what a_t_before a_t_behind a_t_isOn a_t_tryEntries a_t_tryMarks a_t_text a_t_marked (0 : Int32) x_t_places x_t_persons x_t_many x_t_size x_t_at x_t_sought x_t_found x_t_marked) := hD
    refine lv_if_eq (tgt := 35) hx hb d_Md_marks_18 (by decide) (fun c4 => ?_) (fun c4 => ?_)
    · replace h := (if_pos c4).symm.trans h
      refine lv_iconst (v := (-1 : Int32)) hx hb d_Md_marks_35 (by decide) ?_
      cases h
      exact q_iretW hx hb hr hlocks hP hD hS d_Md_marks_36
    · replace h := (if_neg c4).symm.trans h
      refine lv_aload_n hx hb d_Md_marks_21 rfl (lv_at hl 0 rfl) ?_
      refine va_get (D := G.1) (ci := 6) (v := .ref a_t_marked) (C := "PlayStatesModel") (T := TMd) (N := 25) hx hb hts iw_6 hown hK hP 0 rfl rfl 5 (by decide) (hts _ gw_384) (fun _ h9 => h9) rfl d_Md_marks_22 ?_
      refine lv_bipush (v := (81 : Int32)) hx hb d_Md_marks_25 (by decide) ?_
      refine lv_iload_n hx hb d_Md_marks_27 rfl (lv_at hl 1 rfl) ?_
      refine lv_imul hx hb d_Md_marks_28 ?_
      refine lv_iload_n hx hb d_Md_marks_29 rfl (lv_at hl 2 rfl) ?_
      refine lv_iadd hx hb d_Md_marks_30 ?_
      obtain ⟨i5, h⟩ := o_if h
      refine va_iald (n := 648) (f := x_t_marked) hx hb hK hP 1 0 rfl rfl i5 d_Md_marks_31 ?_
      refine lv_goto (tgt := 36) hx hb d_Md_marks_32 (by decide) ?_
      cases h
      exact q_iretW hx hb hr hlocks hP hD hS d_Md_marks_36

theorem gw_382 : (.fieldLink "PlayStatesModel" 7 "PlayStatesModel" "truth" "[I" : Cond) ∈ GW := gT 420 (by decide +kernel) (by decide +kernel)
theorem d_Md_truth_0 : decode prog_8_method_17_code 0 = .ok (.aload_n 0, 1) := by decide +kernel
theorem d_Md_truth_1 : decode prog_8_method_17_code 1 = .ok (.iconst 0, 1) := by decide +kernel
theorem d_Md_truth_2 : decode prog_8_method_17_code 2 = .ok (.putfield 69, 3) := by decide +kernel
theorem d_Md_truth_5 : decode prog_8_method_17_code 5 = .ok (.aload_n 0, 1) := by decide +kernel
theorem d_Md_truth_6 : decode prog_8_method_17_code 6 = .ok (.iload_n 1, 1) := by decide +kernel
theorem d_Md_truth_7 : decode prog_8_method_17_code 7 = .ok (.invokevirtual 90, 3) := by decide +kernel
theorem d_Md_truth_10 : decode prog_8_method_17_code 10 = .ok (.ifCond .eq 13, 3) := by decide +kernel
theorem d_Md_truth_13 : decode prog_8_method_17_code 13 = .ok (.iload_n 2, 1) := by decide +kernel
theorem d_Md_truth_14 : decode prog_8_method_17_code 14 = .ok (.ifCond .lt 9, 3) := by decide +kernel
theorem d_Md_truth_17 : decode prog_8_method_17_code 17 = .ok (.iload_n 2, 1) := by decide +kernel
theorem d_Md_truth_18 : decode prog_8_method_17_code 18 = .ok (.bipush 9, 2) := by decide +kernel
theorem d_Md_truth_20 : decode prog_8_method_17_code 20 = .ok (.if_icmp .le 5, 3) := by decide +kernel
theorem d_Md_truth_23 : decode prog_8_method_17_code 23 = .ok (.iconst 0, 1) := by decide +kernel
theorem d_Md_truth_24 : decode prog_8_method_17_code 24 = .ok (.ireturn, 1) := by decide +kernel
theorem d_Md_truth_25 : decode prog_8_method_17_code 25 = .ok (.aload_n 0, 1) := by decide +kernel
theorem d_Md_truth_26 : decode prog_8_method_17_code 26 = .ok (.getfield 7, 3) := by decide +kernel
theorem d_Md_truth_29 : decode prog_8_method_17_code 29 = .ok (.iload_n 1, 1) := by decide +kernel
theorem d_Md_truth_30 : decode prog_8_method_17_code 30 = .ok (.iload_n 2, 1) := by decide +kernel
theorem d_Md_truth_31 : decode prog_8_method_17_code 31 = .ok (.iastore, 1) := by decide +kernel
theorem d_Md_truth_32 : decode prog_8_method_17_code 32 = .ok (.iconst 1, 1) := by decide +kernel
theorem d_Md_truth_33 : decode prog_8_method_17_code 33 = .ok (.ireturn, 1) := by decide +kernel
-- PlayStatesModel.truth(II)Z 
def ws_Md_truth (G : gG) (a_t a_t_entries a_t_marked a_t_present a_t_helped a_t_counted a_t_told a_t_runs a_t_whose a_t_where a_t_what a_t_before a_t_behind a_t_isOn a_t_tryEntries a_t_tryMarks a_t_text a_t_truth : Nat)  (x_t_thrown : Int32) (x_t_places : Int32) (x_t_persons : Int32) (x_t_many : Int32) (x_t_size : Int32) (x_t_at : Int32) (x_t_sought : Int32) (x_t_found : Int32) (x_t_truth : Nat → Int32) : va_W := [(a_t, .inr (6, [.int x_t_thrown, .int x_t_places, .int x_t_persons, .ref a_t_truth, .ref a_t_entries, .ref a_t_marked, .ref a_t_present, .ref a_t_helped, .ref a_t_counted, .ref a_t_told, .ref a_t_runs, .int x_t_many, .ref a_t_whose, .ref a_t_where, .ref a_t_what, .ref a_t_before, .ref a_t_behind, .ref a_t_isOn, .ref a_t_tryEntries, .ref a_t_tryMarks, .int x_t_size, .ref a_t_text, .int x_t_at, .int x_t_sought, .int x_t_found])), (a_t_truth, .inl (G.2 0, 81, .inl x_t_truth))]
def f_Md_truth  (p0 : Int32) (p1 : Int32) (x_t_thrown : Int32) (x_t_places : Int32) (x_t_persons : Int32) (x_t_many : Int32) (x_t_size : Int32) (x_t_at : Int32) (x_t_sought : Int32) (x_t_found : Int32) (x_t_truth : Nat → Int32) : Option (Int32 × Int32 × (Nat → Int32)) :=
  ((f_Md_isPlace p0 (0 : Int32) x_t_places x_t_persons x_t_many x_t_size x_t_at x_t_sought x_t_found).bind fun y1 => (if y1 = 0 then some ((0 : Int32), (0 : Int32), x_t_truth) else (if p1 < 0 then some ((0 : Int32), (0 : Int32), x_t_truth) else (if p1 ≤ (9 : Int32) then (if inB p0 81 then some ((1 : Int32), (0 : Int32), (upd x_t_truth p0.toNatClampNeg p1)) else none) else some ((0 : Int32), (0 : Int32), x_t_truth)))))
set_option maxHeartbeats 4000000 in
set_option maxRecDepth 100000 in
theorem c_Md_truth (l : Launch) (G : gG) (sz : Nat) (a_t a_t_entries a_t_marked a_t_present a_t_helped a_t_counted a_t_told a_t_runs a_t_whose a_t_where a_t_what a_t_before a_t_behind a_t_isOn a_t_tryEntries a_t_tryMarks a_t_text a_t_truth : Nat)  (p0 : Int32) (p1 : Int32) (x_t_thrown : Int32) (x_t_places : Int32) (x_t_persons : Int32) (x_t_many : Int32) (x_t_size : Int32) (x_t_at : Int32) (x_t_sought : Int32) (x_t_found : Int32) (x_t_truth : Nat → Int32) (r : Int32) (x_t_thrown' : Int32) (x_t_truth' : Nat → Int32) (h : f_Md_truth p0 p1 x_t_thrown x_t_places x_t_persons x_t_many x_t_size x_t_at x_t_sought x_t_found x_t_truth = some (r, x_t_thrown', x_t_truth'))  : cN l y_Md_truth w_Md_truth { frames := 1, cells := 0, slots := 0, locals := 21 } G sz [.ref a_t, .int p0, .int p1] (ws_Md_truth G a_t a_t_entries a_t_marked a_t_present a_t_helped a_t_counted a_t_told a_t_runs a_t_whose a_t_where a_t_what a_t_before a_t_behind a_t_isOn a_t_tryEntries a_t_tryMarks a_t_text a_t_truth x_t_thrown x_t_places x_t_persons x_t_many x_t_size x_t_at x_t_sought x_t_found x_t_truth) (some (.int r)) (wB G (ws_Md_truth G a_t a_t_entries a_t_marked a_t_present a_t_helped a_t_counted a_t_told a_t_runs a_t_whose a_t_where a_t_what a_t_before a_t_behind a_t_isOn a_t_tryEntries a_t_tryMarks a_t_text a_t_truth x_t_thrown' x_t_places x_t_persons x_t_many x_t_size x_t_at x_t_sought x_t_found x_t_truth')) 0 0 := by
  refine cN_ofW (cc := prog_8_method_17_code) (maxL := 3) (ret := (some .boolean)) (by decide) rfl (Nat.le_of_ble_eq_true rfl) ?_
  intro p e s m args below meth c A H locs ls hx hb hr hts hown hlocks hin hml hK hN hP hD hA hS hl
  replace hl : lv_has ls 3 [(0, .ref a_t), (1, .int p0), (2, .int p1)] := hl
  replace hown : s.vm.findClass "PlayStatesModel" = some m.cls := hown
  unfold f_Md_truth at h
  refine lv_aload_n hx hb d_Md_truth_0 rfl (lv_at hl 0 rfl) ?_
  refine lv_iconst (v := (0 : Int32)) hx hb d_Md_truth_1 (by decide) ?_
  refine va_put (D := G.1) (ci := 6) (v := .int (0 : Int32)) (ty := .int) (C := "PlayStatesModel") (T := TMd) (N := 25) hx hb hts iw_6 tyMd tyMd_ok nmMd hown hK hP hD hS 0 rfl rfl 0 (by decide) (hts _ gw_379) (fun _ h9 => h9) rfl (by decide +kernel) (by rfl) (by rfl) (Nat.le_of_ble_eq_true rfl) d_Md_truth_2 (fun H locs hP hD hS => ?_)
  replace hP : va_P G.1 vwCl (ws_Md_truth G a_t a_t_entries a_t_marked a_t_present a_t_helped a_t_counted a_t_told a_t_runs a_t_whose a_t_where a_t_what a_t_before a_t_behind a_t_isOn a_t_tryEntries a_t_tryMarks a_t_text a_t_truth (0 : Int32) x_t_places x_t_persons x_t_many x_t_size x_t_at x_t_sought x_t_found x_t_truth) H := hP
  replace hD : va_D A (ws_Md_truth G a_t a_t_entries a_t_marked a_t_present a_t_helped a_t_counted a_t_told a_t_runs a_t_whose a_t_where a_t_what a_t_before a_t_behind a_t_isOn a_t_tryEntries a_t_tryMarks a_t_text a_t_truth (0 : Int32) x_t_places x_t_persons x_t_many x_t_size x_t_at x_t_sought x_t_found x_t_truth) := hD
  refine lv_aload_n hx hb d_Md_truth_5 rfl (lv_at hl 0 rfl) ?_
  refine lv_iload_n hx hb d_Md_truth_6 rfl (lv_at hl 1 rfl) ?_
  obtain ⟨y1, hy1, h⟩ := o_bind h
  have hPc := hP.sub (ws' := (ws_Md_isPlace G a_t a_t_truth a_t_entries a_t_marked a_t_present a_t_helped a_t_counted a_t_told a_t_runs a_t_whose a_t_where a_t_what a_t_before a_t_behind a_t_isOn a_t_tryEntries a_t_tryMarks a_t_text (0 : Int32) x_t_places x_t_persons x_t_many x_t_size x_t_at x_t_sought x_t_found)) [0] rfl
  have hDc := hD.sub (ws' := (ws_Md_isPlace G a_t a_t_truth a_t_entries a_t_marked a_t_present a_t_helped a_t_counted a_t_told a_t_runs a_t_whose a_t_where a_t_what a_t_before a_t_behind a_t_isOn a_t_tryEntries a_t_tryMarks a_t_text (0 : Int32) x_t_places x_t_persons x_t_many x_t_size x_t_at x_t_sought x_t_found)) [0] (by decide) rfl
  have hFc := va_free (wc := (ws_Md_isPlace G a_t a_t_truth a_t_entries a_t_marked a_t_present a_t_helped a_t_counted a_t_told a_t_runs a_t_whose a_t_where a_t_what a_t_before a_t_behind a_t_isOn a_t_tryEntries a_t_tryMarks a_t_text (0 : Int32) x_t_places x_t_persons x_t_many x_t_size x_t_at x_t_sought x_t_found)) hD hS hA [0] rfl
  refine q_call1 (va_runV (As := [.int p0]) (rest := []) ⟨hx, hb, hml, hown, hts⟩ (c_Md_isPlace l G H.size a_t a_t_truth a_t_entries a_t_marked a_t_present a_t_helped a_t_counted a_t_told a_t_runs a_t_whose a_t_where a_t_what a_t_before a_t_behind a_t_isOn a_t_tryEntries a_t_tryMarks a_t_text p0 (0 : Int32) x_t_places x_t_persons x_t_many x_t_size x_t_at x_t_sought x_t_found _ hy1) (cwV 1 hts (gV gw_444 gw_445 gw_18 gw_36 gw_446) rfl rfl rfl (by decide +kernel) ⟨Nat.le_of_ble_eq_true rfl, Nat.le_of_ble_eq_true rfl⟩) (pV hK hN hPc hDc (ci := 6) (q0 := 0) rfl rfl) rfl rfl hl.1 rfl (lv_room (Nat.le_of_ble_eq_true rfl)) d_Md_truth_7 ⟨Nat.le_of_ble_eq_true rfl, Nat.le_of_ble_eq_true rfl⟩) hS (fun q _ h => hFc q h) hFc (fun H1 locs hB hz hk hS => ?_)
  obtain ⟨hP, hD⟩ := q_join (wr := [(a_t_truth, .inl (G.2 0, 81, .inl x_t_truth))]) (wn := (ws_Md_truth G a_t a_t_entries a_t_marked a_t_present a_t_helped a_t_counted a_t_told a_t_runs a_t_whose a_t_where a_t_what a_t_before a_t_behind a_t_isOn a_t_tryEntries a_t_tryMarks a_t_text a_t_truth (0 : Int32) x_t_places x_t_persons x_t_many x_t_size x_t_at x_t_sought x_t_found x_t_truth)) hP hD [0] [1] [1, 0] rfl rfl (by decide) (by decide) rfl (by decide) hk hFc hB.1 hB.2
  generalize H1 = H at hP hS ⊢
  replace hP : va_P G.1 vwCl (ws_Md_truth G a_t a_t_entries a_t_marked a_t_present a_t_helped a_t_counted a_t_told a_t_runs a_t_whose a_t_where a_t_what a_t_before a_t_behind a_t_isOn a_t_tryEntries a_t_tryMarks a_t_text a_t_truth (0 : Int32) x_t_places x_t_persons x_t_many x_t_size x_t_at x_t_sought x_t_found x_t_truth) H := hP
  replace hD : va_D A (ws_Md_truth G a_t a_t_entries a_t_marked a_t_present a_t_helped a_t_counted a_t_told a_t_runs a_t_whose a_t_where a_t_what a_t_before a_t_behind a_t_isOn a_t_tryEntries a_t_tryMarks a_t_text a_t_truth (0 : Int32) x_t_places x_t_persons x_t_many x_t_size x_t_at x_t_sought x_t_found x_t_truth) := hD
  refine lv_if_eq (tgt := 23) hx hb d_Md_truth_10 (by decide) (fun c2 => ?_) (fun c2 => ?_)
  · replace h := (if_pos c2).symm.trans h
    refine lv_iconst (v := (0 : Int32)) hx hb d_Md_truth_23 (by decide) ?_
    cases h
    exact q_zretW hx hb hr hlocks (by decide) hP hD hS d_Md_truth_24
  · replace h := (if_neg c2).symm.trans h
    refine lv_iload_n hx hb d_Md_truth_13 rfl (lv_at hl 2 rfl) ?_
    refine lv_if_lt (tgt := 23) hx hb d_Md_truth_14 (by decide) (fun c3 => ?_) (fun c3 => ?_)
    · replace h := (if_pos c3).symm.trans h
      refine lv_iconst (v := (0 : Int32)) hx hb d_Md_truth_23 (by decide) ?_
      cases h
      exact q_zretW hx hb hr hlocks (by decide) hP hD hS d_Md_truth_24
    · replace h := (if_neg c3).symm.trans h
      refine lv_iload_n hx hb d_Md_truth_17 rfl (lv_at hl 2 rfl) ?_
      refine lv_bipush (v := (9 : Int32)) hx hb d_Md_truth_18 (by decide) ?_
      refine lv_icmp_le (tgt := 25) hx hb d_Md_truth_20 (by decide) (fun c4 => ?_) (fun c4 => ?_)
      · replace h := (if_pos c4).symm.trans h
        refine lv_aload_n hx hb d_Md_truth_25 rfl (lv_at hl 0 rfl) ?_
        refine va_get (D := G.1) (ci := 6) (v := .ref a_t_truth) (C := "PlayStatesModel") (T := TMd) (N := 25) hx hb hts iw_6 hown hK hP 0 rfl rfl 3 (by decide) (hts _ gw_382) (fun _ h9 => h9) rfl d_Md_truth_26 ?_
        refine lv_iload_n hx hb d_Md_truth_29 rfl (lv_at hl 1 rfl) ?_
        refine lv_iload_n hx hb d_Md_truth_30 rfl (lv_at hl 2 rfl) ?_
        obtain ⟨i5, h⟩ := o_if h
        refine va_iast (n := 81) (f := x_t_truth) hx hb hK hP hD hS 1 0 rfl rfl i5 d_Md_truth_31 (fun H locs hP hD hS => ?_)
        replace hP : va_P G.1 vwCl (ws_Md_truth G a_t a_t_entries a_t_marked a_t_present a_t_helped a_t_counted a_t_told a_t_runs a_t_whose a_t_where a_t_what a_t_before a_t_behind a_t_isOn a_t_tryEntries a_t_tryMarks a_t_text a_t_truth (0 : Int32) x_t_places x_t_persons x_t_many x_t_size x_t_at x_t_sought x_t_found (upd x_t_truth p0.toNatClampNeg p1)) H := hP
        replace hD : va_D A (ws_Md_truth G a_t a_t_entries a_t_marked a_t_present a_t_helped a_t_counted a_t_told a_t_runs a_t_whose a_t_where a_t_what a_t_before a_t_behind a_t_isOn a_t_tryEntries a_t_tryMarks a_t_text a_t_truth (0 : Int32) x_t_places x_t_persons x_t_many x_t_size x_t_at x_t_sought x_t_found (upd x_t_truth p0.toNatClampNeg p1)) := hD
        refine lv_iconst (v := (1 : Int32)) hx hb d_Md_truth_32 (by decide) ?_
        cases h
        exact q_zretW hx hb hr hlocks (by decide) hP hD hS d_Md_truth_33
      · replace h := (if_neg c4).symm.trans h
        refine lv_iconst (v := (0 : Int32)) hx hb d_Md_truth_23 (by decide) ?_
        cases h
        exact q_zretW hx hb hr hlocks (by decide) hP hD hS d_Md_truth_24

theorem d_Md_wrong_0 : decode prog_8_method_18_code 0 = .ok (.aload_n 0, 1) := by decide +kernel
theorem d_Md_wrong_1 : decode prog_8_method_18_code 1 = .ok (.iconst 0, 1) := by decide +kernel
theorem d_Md_wrong_2 : decode prog_8_method_18_code 2 = .ok (.putfield 69, 3) := by decide +kernel
theorem d_Md_wrong_5 : decode prog_8_method_18_code 5 = .ok (.aload_n 0, 1) := by decide +kernel
theorem d_Md_wrong_6 : decode prog_8_method_18_code 6 = .ok (.iload_n 1, 1) := by decide +kernel
theorem d_Md_wrong_7 : decode prog_8_method_18_code 7 = .ok (.invokevirtual 86, 3) := by decide +kernel
theorem d_Md_wrong_10 : decode prog_8_method_18_code 10 = .ok (.ifCond .ne 5, 3) := by decide +kernel
theorem d_Md_wrong_13 : decode prog_8_method_18_code 13 = .ok (.iconst (-1), 1) := by decide +kernel
theorem d_Md_wrong_14 : decode prog_8_method_18_code 14 = .ok (.ireturn, 1) := by decide +kernel
theorem d_Md_wrong_15 : decode prog_8_method_18_code 15 = .ok (.iconst 0, 1) := by decide +kernel
theorem d_Md_wrong_16 : decode prog_8_method_18_code 16 = .ok (.istore_n 2, 1) := by decide +kernel
theorem d_Md_wrong_17 : decode prog_8_method_18_code 17 = .ok (.iconst 0, 1) := by decide +kernel
theorem d_Md_wrong_18 : decode prog_8_method_18_code 18 = .ok (.istore_n 3, 1) := by decide +kernel
theorem d_Md_wrong_19 : decode prog_8_method_18_code 19 = .ok (.iload_n 3, 1) := by decide +kernel
theorem d_Md_wrong_20 : decode prog_8_method_18_code 20 = .ok (.aload_n 0, 1) := by decide +kernel
theorem d_Md_wrong_21 : decode prog_8_method_18_code 21 = .ok (.getfield 63, 3) := by decide +kernel
theorem d_Md_wrong_24 : decode prog_8_method_18_code 24 = .ok (.if_icmp .ge 55, 3) := by decide +kernel
theorem d_Md_wrong_27 : decode prog_8_method_18_code 27 = .ok (.aload_n 0, 1) := by decide +kernel
theorem d_Md_wrong_28 : decode prog_8_method_18_code 28 = .ok (.getfield 13, 3) := by decide +kernel
theorem d_Md_wrong_31 : decode prog_8_method_18_code 31 = .ok (.bipush 81, 2) := by decide +kernel
theorem d_Md_wrong_33 : decode prog_8_method_18_code 33 = .ok (.iload_n 1, 1) := by decide +kernel
theorem d_Md_wrong_34 : decode prog_8_method_18_code 34 = .ok (.imul, 1) := by decide +kernel
theorem d_Md_wrong_35 : decode prog_8_method_18_code 35 = .ok (.iload_n 3, 1) := by decide +kernel
theorem d_Md_wrong_36 : decode prog_8_method_18_code 36 = .ok (.iadd, 1) := by decide +kernel
theorem d_Md_wrong_37 : decode prog_8_method_18_code 37 = .ok (.iaload, 1) := by decide +kernel
theorem d_Md_wrong_38 : decode prog_8_method_18_code 38 = .ok (.istore 4, 2) := by decide +kernel
theorem d_Md_wrong_40 : decode prog_8_method_18_code 40 = .ok (.iload_n 2, 1) := by decide +kernel
theorem d_Md_wrong_41 : decode prog_8_method_18_code 41 = .ok (.iload 4, 2) := by decide +kernel
theorem d_Md_wrong_43 : decode prog_8_method_18_code 43 = .ok (.ifCond .le 27, 3) := by decide +kernel
theorem d_Md_wrong_46 : decode prog_8_method_18_code 46 = .ok (.aload_n 0, 1) := by decide +kernel
theorem d_Md_wrong_47 : decode prog_8_method_18_code 47 = .ok (.getfield 7, 3) := by decide +kernel
theorem d_Md_wrong_50 : decode prog_8_method_18_code 50 = .ok (.iload_n 3, 1) := by decide +kernel
theorem d_Md_wrong_51 : decode prog_8_method_18_code 51 = .ok (.iaload, 1) := by decide +kernel
theorem d_Md_wrong_52 : decode prog_8_method_18_code 52 = .ok (.ifCond .le 18, 3) := by decide +kernel
theorem d_Md_wrong_55 : decode prog_8_method_18_code 55 = .ok (.iload 4, 2) := by decide +kernel
theorem d_Md_wrong_57 : decode prog_8_method_18_code 57 = .ok (.aload_n 0, 1) := by decide +kernel
theorem d_Md_wrong_58 : decode prog_8_method_18_code 58 = .ok (.getfield 7, 3) := by decide +kernel
theorem d_Md_wrong_61 : decode prog_8_method_18_code 61 = .ok (.iload_n 3, 1) := by decide +kernel
theorem d_Md_wrong_62 : decode prog_8_method_18_code 62 = .ok (.iaload, 1) := by decide +kernel
theorem d_Md_wrong_63 : decode prog_8_method_18_code 63 = .ok (.if_icmp .eq 7, 3) := by decide +kernel
theorem d_Md_wrong_66 : decode prog_8_method_18_code 66 = .ok (.iconst 1, 1) := by decide +kernel
theorem d_Md_wrong_67 : decode prog_8_method_18_code 67 = .ok (.goto 4, 3) := by decide +kernel
theorem d_Md_wrong_70 : decode prog_8_method_18_code 70 = .ok (.iconst 0, 1) := by decide +kernel
theorem d_Md_wrong_71 : decode prog_8_method_18_code 71 = .ok (.iadd, 1) := by decide +kernel
theorem d_Md_wrong_72 : decode prog_8_method_18_code 72 = .ok (.istore_n 2, 1) := by decide +kernel
theorem d_Md_wrong_73 : decode prog_8_method_18_code 73 = .ok (.iinc 3 1, 3) := by decide +kernel
theorem d_Md_wrong_76 : decode prog_8_method_18_code 76 = .ok (.goto (-57), 3) := by decide +kernel
theorem d_Md_wrong_79 : decode prog_8_method_18_code 79 = .ok (.iload_n 2, 1) := by decide +kernel
theorem d_Md_wrong_80 : decode prog_8_method_18_code 80 = .ok (.ireturn, 1) := by decide +kernel
-- PlayStatesModel.wrong(I)I 
def ws_Md_wrong (G : gG) (a_t a_t_marked a_t_present a_t_helped a_t_counted a_t_told a_t_runs a_t_whose a_t_where a_t_what a_t_before a_t_behind a_t_isOn a_t_tryEntries a_t_tryMarks a_t_text a_t_truth a_t_entries : Nat)  (x_t_thrown : Int32) (x_t_places : Int32) (x_t_persons : Int32) (x_t_many : Int32) (x_t_size : Int32) (x_t_at : Int32) (x_t_sought : Int32) (x_t_found : Int32) (x_t_truth : Nat → Int32) (x_t_entries : Nat → Int32) : va_W := [(a_t, .inr (6, [.int x_t_thrown, .int x_t_places, .int x_t_persons, .ref a_t_truth, .ref a_t_entries, .ref a_t_marked, .ref a_t_present, .ref a_t_helped, .ref a_t_counted, .ref a_t_told, .ref a_t_runs, .int x_t_many, .ref a_t_whose, .ref a_t_where, .ref a_t_what, .ref a_t_before, .ref a_t_behind, .ref a_t_isOn, .ref a_t_tryEntries, .ref a_t_tryMarks, .int x_t_size, .ref a_t_text, .int x_t_at, .int x_t_sought, .int x_t_found])), (a_t_truth, .inl (G.2 0, 81, .inl x_t_truth)), (a_t_entries, .inl (G.2 0, 648, .inl x_t_entries))]
def fb_Md_wrong_L19 (fu : Nat) (x_t_places : Int32) (x_t_persons : Int32) (x_t_many : Int32) (x_t_size : Int32) (x_t_at : Int32) (x_t_sought : Int32) (x_t_found : Int32) (x_t_truth : Nat → Int32) (x_t_entries : Nat → Int32)  (k19 : (Int32 → Int32 → Int32 → Int32 → Option (Int32 × Int32))) (l19_1 : Int32) (l19_2 : Int32) (l19_3 : Int32) (x_t_thrown_19 : Int32) : Option (Int32 × Int32) :=
  (if x_t_places ≤ l19_3 then some (l19_2, x_t_thrown_19) else (if inB (((81 : Int32) * l19_1) + l19_3) 648 then (if (x_t_entries (((81 : Int32) * l19_1) + l19_3).toNatClampNeg) ≤ 0 then (k19 l19_1 (l19_2 + (0 : Int32)) (l19_3 + (1 : Int32)) x_t_thrown_19) else (if inB l19_3 81 then (if (x_t_truth l19_3.toNatClampNeg) ≤ 0 then (k19 l19_1 (l19_2 + (0 : Int32)) (l19_3 + (1 : Int32)) x_t_thrown_19) else (if inB l19_3 81 then (if (x_t_entries (((81 : Int32) * l19_1) + l19_3).toNatClampNeg) = (x_t_truth l19_3.toNatClampNeg) then (k19 l19_1 (l19_2 + (0 : Int32)) (l19_3 + (1 : Int32)) x_t_thrown_19) else (k19 l19_1 (l19_2 + (1 : Int32)) (l19_3 + (1 : Int32)) x_t_thrown_19)) else none)) else none)) else none))
def f_Md_wrong_L19 (fu : Nat) (x_t_places : Int32) (x_t_persons : Int32) (x_t_many : Int32) (x_t_size : Int32) (x_t_at : Int32) (x_t_sought : Int32) (x_t_found : Int32) (x_t_truth : Nat → Int32) (x_t_entries : Nat → Int32)  : Nat → Int32 → Int32 → Int32 → Int32 → Option (Int32 × Int32)
  | 0 => fun _ _ _ _ => none
  | k9 + 1 => fb_Md_wrong_L19 fu x_t_places x_t_persons x_t_many x_t_size x_t_at x_t_sought x_t_found x_t_truth x_t_entries (f_Md_wrong_L19 fu x_t_places x_t_persons x_t_many x_t_size x_t_at x_t_sought x_t_found x_t_truth x_t_entries k9)
def f_Md_wrong (fu : Nat)  (p0 : Int32) (x_t_thrown : Int32) (x_t_places : Int32) (x_t_persons : Int32) (x_t_many : Int32) (x_t_size : Int32) (x_t_at : Int32) (x_t_sought : Int32) (x_t_found : Int32) (x_t_truth : Nat → Int32) (x_t_entries : Nat → Int32) : Option (Int32 × Int32) :=
  ((f_Md_isPerson p0 (0 : Int32) x_t_places x_t_persons x_t_many x_t_size x_t_at x_t_sought x_t_found).bind fun y1 => (if y1 = 0 then some ((-1 : Int32), (0 : Int32)) else (f_Md_wrong_L19 fu x_t_places x_t_persons x_t_many x_t_size x_t_at x_t_sought x_t_found x_t_truth x_t_entries fu p0 (0 : Int32) (0 : Int32) (0 : Int32))))
set_option maxHeartbeats 4000000 in
set_option maxRecDepth 100000 in
theorem c_Md_wrong (l : Launch) (G : gG) (sz : Nat) (a_t a_t_marked a_t_present a_t_helped a_t_counted a_t_told a_t_runs a_t_whose a_t_where a_t_what a_t_before a_t_behind a_t_isOn a_t_tryEntries a_t_tryMarks a_t_text a_t_truth a_t_entries : Nat) (fu : Nat)  (p0 : Int32) (x_t_thrown : Int32) (x_t_places : Int32) (x_t_persons : Int32) (x_t_many : Int32) (x_t_size : Int32) (x_t_at : Int32) (x_t_sought : Int32) (x_t_found : Int32) (x_t_truth : Nat → Int32) (x_t_entries : Nat → Int32) (r : Int32) (x_t_thrown' : Int32) (h : f_Md_wrong fu p0 x_t_thrown x_t_places x_t_persons x_t_many x_t_size x_t_at x_t_sought x_t_found x_t_truth x_t_entries = some (r, x_t_thrown'))  : cN l y_Md_wrong w_Md_wrong { frames := 1, cells := 0, slots := 0, locals := 21 } G sz [.ref a_t, .int p0] (ws_Md_wrong G a_t a_t_marked a_t_present a_t_helped a_t_counted a_t_told a_t_runs a_t_whose a_t_where a_t_what a_t_before a_t_behind a_t_isOn a_t_tryEntries a_t_tryMarks a_t_text a_t_truth a_t_entries x_t_thrown x_t_places x_t_persons x_t_many x_t_size x_t_at x_t_sought x_t_found x_t_truth x_t_entries) (some (.int r)) (wB G (ws_Md_wrong G a_t a_t_marked a_t_present a_t_helped a_t_counted a_t_told a_t_runs a_t_whose a_t_where a_t_what a_t_before a_t_behind a_t_isOn a_t_tryEntries a_t_tryMarks a_t_text a_t_truth a_t_entries x_t_thrown' x_t_places x_t_persons x_t_many x_t_size x_t_at x_t_sought x_t_found x_t_truth x_t_entries)) 0 0 := by
  refine cN_ofW (cc := prog_8_method_18_code) (maxL := 5) (ret := (some .int)) (by decide) rfl (Nat.le_of_ble_eq_true rfl) ?_
  intro p e s m args below meth c A H locs ls hx hb hr hts hown hlocks hin hml hK hN hP hD hA hS hl
  replace hl : lv_has ls 5 [(0, .ref a_t), (1, .int p0)] := hl
  replace hown : s.vm.findClass "PlayStatesModel" = some m.cls := hown
  unfold f_Md_wrong at h
  refine lv_aload_n hx hb d_Md_wrong_0 rfl (lv_at hl 0 rfl) ?_
  refine lv_iconst (v := (0 : Int32)) hx hb d_Md_wrong_1 (by decide) ?_
  refine va_put (D := G.1) (ci := 6) (v := .int (0 : Int32)) (ty := .int) (C := "PlayStatesModel") (T := TMd) (N := 25) hx hb hts iw_6 tyMd tyMd_ok nmMd hown hK hP hD hS 0 rfl rfl 0 (by decide) (hts _ gw_379) (fun _ h9 => h9) rfl (by decide +kernel) (by rfl) (by rfl) (Nat.le_of_ble_eq_true rfl) d_Md_wrong_2 (fun H locs hP hD hS => ?_)
  replace hP : va_P G.1 vwCl (ws_Md_wrong G a_t a_t_marked a_t_present a_t_helped a_t_counted a_t_told a_t_runs a_t_whose a_t_where a_t_what a_t_before a_t_behind a_t_isOn a_t_tryEntries a_t_tryMarks a_t_text a_t_truth a_t_entries (0 : Int32) x_t_places x_t_persons x_t_many x_t_size x_t_at x_t_sought x_t_found x_t_truth x_t_entries) H := hP
  replace hD : va_D A (ws_Md_wrong G a_t a_t_marked a_t_present a_t_helped a_t_counted a_t_told a_t_runs a_t_whose a_t_where a_t_what a_t_before a_t_behind a_t_isOn a_t_tryEntries a_t_tryMarks a_t_text a_t_truth a_t_entries (0 : Int32) x_t_places x_t_persons x_t_many x_t_size x_t_at x_t_sought x_t_found x_t_truth x_t_entries) := hD
  refine lv_aload_n hx hb d_Md_wrong_5 rfl (lv_at hl 0 rfl) ?_
  refine lv_iload_n hx hb d_Md_wrong_6 rfl (lv_at hl 1 rfl) ?_
  obtain ⟨y1, hy1, h⟩ := o_bind h
  have hPc := hP.sub (ws' := (ws_Md_isPerson G a_t a_t_truth a_t_entries a_t_marked a_t_present a_t_helped a_t_counted a_t_told a_t_runs a_t_whose a_t_where a_t_what a_t_before a_t_behind a_t_isOn a_t_tryEntries a_t_tryMarks a_t_text (0 : Int32) x_t_places x_t_persons x_t_many x_t_size x_t_at x_t_sought x_t_found)) [0] rfl
  have hDc := hD.sub (ws' := (ws_Md_isPerson G a_t a_t_truth a_t_entries a_t_marked a_t_present a_t_helped a_t_counted a_t_told a_t_runs a_t_whose a_t_where a_t_what a_t_before a_t_behind a_t_isOn a_t_tryEntries a_t_tryMarks a_t_text (0 : Int32) x_t_places x_t_persons x_t_many x_t_size x_t_at x_t_sought x_t_found)) [0] (by decide) rfl
  have hFc := va_free (wc := (ws_Md_isPerson G a_t a_t_truth a_t_entries a_t_marked a_t_present a_t_helped a_t_counted a_t_told a_t_runs a_t_whose a_t_where a_t_what a_t_before a_t_behind a_t_isOn a_t_tryEntries a_t_tryMarks a_t_text (0 : Int32) x_t_places x_t_persons x_t_many x_t_size x_t_at x_t_sought x_t_found)) hD hS hA [0] rfl
  refine q_call1 (va_runV (As := [.int p0]) (rest := []) ⟨hx, hb, hml, hown, hts⟩ (c_Md_isPerson l G H.size a_t a_t_truth a_t_entries a_t_marked a_t_present a_t_helped a_t_counted a_t_told a_t_runs a_t_whose a_t_where a_t_what a_t_before a_t_behind a_t_isOn a_t_tryEntries a_t_tryMarks a_t_text p0 (0 : Int32) x_t_places x_t_persons x_t_many x_t_size x_t_at x_t_sought x_t_found _ hy1) (cwV 1 hts (gV gw_441 gw_442 gw_17 gw_36 gw_443) rfl rfl rfl (by decide +kernel) ⟨Nat.le_of_ble_eq_true rfl, Nat.le_of_ble_eq_true rfl⟩) (pV hK hN hPc hDc (ci := 6) (q0 := 0) rfl rfl) rfl rfl hl.1 rfl (lv_room (Nat.le_of_ble_eq_true rfl)) d_Md_wrong_7 ⟨Nat.le_of_ble_eq_true rfl, Nat.le_of_ble_eq_true rfl⟩) hS (fun q _ h => hFc q h) hFc (fun H1 locs hB hz hk hS => ?_)
  obtain ⟨hP, hD⟩ := q_join (wr := [(a_t_truth, .inl (G.2 0, 81, .inl x_t_truth)), (a_t_entries, .inl (G.2 0, 648, .inl x_t_entries))]) (wn := (ws_Md_wrong G a_t a_t_marked a_t_present a_t_helped a_t_counted a_t_told a_t_runs a_t_whose a_t_where a_t_what a_t_before a_t_behind a_t_isOn a_t_tryEntries a_t_tryMarks a_t_text a_t_truth a_t_entries (0 : Int32) x_t_places x_t_persons x_t_many x_t_size x_t_at x_t_sought x_t_found x_t_truth x_t_entries)) hP hD [0] [1, 2] [2, 0, 1] rfl rfl (by decide) (by decide) rfl (by decide) hk hFc hB.1 hB.2
  generalize H1 = H at hP hS ⊢
  replace hP : va_P G.1 vwCl (ws_Md_wrong G a_t a_t_marked a_t_present a_t_helped a_t_counted a_t_told a_t_runs a_t_whose a_t_where a_t_what a_t_before a_t_behind a_t_isOn a_t_tryEntries a_t_tryMarks a_t_text a_t_truth a_t_entries (0 : Int32) x_t_places x_t_persons x_t_many x_t_size x_t_at x_t_sought x_t_found x_t_truth x_t_entries) H := hP
  replace hD : va_D A (ws_Md_wrong G a_t a_t_marked a_t_present a_t_helped a_t_counted a_t_told a_t_runs a_t_whose a_t_where a_t_what a_t_before a_t_behind a_t_isOn a_t_tryEntries a_t_tryMarks a_t_text a_t_truth a_t_entries (0 : Int32) x_t_places x_t_persons x_t_many x_t_size x_t_at x_t_sought x_t_found x_t_truth x_t_entries) := hD
  refine lv_if_ne (tgt := 15) hx hb d_Md_wrong_10 (by decide) (fun c2 => ?_) (fun c2 => ?_)
  · replace h := (if_neg c2).symm.trans h
    refine lv_iconst (v := (0 : Int32)) hx hb d_Md_wrong_15 (by decide) ?_
    refine lv_istore_n (lv' := [(2, .int (0 : Int32)), (0, .ref a_t), (1, .int p0)]) hx hb d_Md_wrong_16 rfl hl (by decide) rfl (fun ls hl => ?_)
    refine lv_iconst (v := (0 : Int32)) hx hb d_Md_wrong_17 (by decide) ?_
    refine lv_istore_n (lv' := [(3, .int (0 : Int32)), (2, .int (0 : Int32)), (0, .ref a_t), (1, .int p0)]) hx hb d_Md_wrong_18 rfl hl (by decide) rfl (fun ls hl => ?_)
    have L19 : ∀ (nf : Nat) (l19_1 : Int32) (l19_2 : Int32) (l19_3 : Int32) (x_t_thrown_19 : Int32) (H : Heap) (locs : List Loc) (ls : Array Slot), f_Md_wrong_L19 fu x_t_places x_t_persons x_t_many x_t_size x_t_at x_t_sought x_t_found x_t_truth x_t_entries nf l19_1 l19_2 l19_3 x_t_thrown_19 = some (r, x_t_thrown') → va_P G.1 vwCl (ws_Md_wrong G a_t a_t_marked a_t_present a_t_helped a_t_counted a_t_told a_t_runs a_t_whose a_t_where a_t_what a_t_before a_t_behind a_t_isOn a_t_tryEntries a_t_tryMarks a_t_text a_t_truth a_t_entries x_t_thrown_19 x_t_places x_t_persons x_t_many x_t_size x_t_at x_t_sought x_t_found x_t_truth x_t_entries) H → va_D A (ws_Md_wrong G a_t a_t_marked a_t_present a_t_helped a_t_counted a_t_told a_t_runs a_t_whose a_t_where a_t_what a_t_before a_t_behind a_t_isOn a_t_tryEntries a_t_tryMarks a_t_text a_t_truth a_t_entries x_t_thrown_19 x_t_places x_t_persons x_t_many x_t_size x_t_at x_t_sought x_t_found x_t_truth x_t_entries) → va_S A s.heap H locs → lv_has ls 5 [(0, .ref a_t), (1, .int l19_1), (2, .int l19_2), (3, .int l19_3)] → W p l e { frames := 1, cells := 0, slots := 0, locals := 21 } s m args below meth c H locs 0 0 (MQ below (qQ (some (.int r)) (wB G (ws_Md_wrong G a_t a_t_marked a_t_present a_t_helped a_t_counted a_t_told a_t_runs a_t_whose a_t_where a_t_what a_t_before a_t_behind a_t_isOn a_t_tryEntries a_t_tryMarks a_t_text a_t_truth a_t_entries x_t_thrown' x_t_places x_t_persons x_t_many x_t_size x_t_at x_t_sought x_t_found x_t_truth x_t_entries) A) A) args s 0 0 A) (F0 m 19 ls []) := by
      clear h hP hD hS hl
      intro n19
      induction n19 with
      | zero => intro _ _ _ _ H locs ls h; exact nomatch (show none = some _ from h)
      | succ n19 ih19 =>
        intro l19_1 l19_2 l19_3 x_t_thrown_19 H locs ls h hP hD hS hl
        replace h : fb_Md_wrong_L19 fu x_t_places x_t_persons x_t_many x_t_size x_t_at x_t_sought x_t_found x_t_truth x_t_entries (f_Md_wrong_L19 fu x_t_places x_t_persons x_t_many x_t_size x_t_at x_t_sought x_t_found x_t_truth x_t_entries n19) l19_1 l19_2 l19_3 x_t_thrown_19 = some (r, x_t_thrown') := h
        unfold fb_Md_wrong_L19 at h
        refine lv_iload_n hx hb d_Md_wrong_19 rfl (lv_at hl 3 rfl) ?_
        refine lv_aload_n hx hb d_Md_wrong_20 rfl (lv_at hl 0 rfl) ?_
        refine va_get (D := G.1) (ci := 6) (v := .int x_t_places) (C := "PlayStatesModel") (T := TMd) (N := 25) hx hb hts iw_6 hown hK hP 0 rfl rfl 1 (by decide) (hts _ gw_380) (fun _ h9 => h9) rfl d_Md_wrong_21 ?_
        refine lv_icmp_ge (tgt := 79) hx hb d_Md_wrong_24 (by decide) (fun c3 => ?_) (fun c3 => ?_)
        · replace h := (if_pos c3).symm.trans h
          refine lv_iload_n hx hb d_Md_wrong_79 rfl (lv_at hl 2 rfl) ?_
          cases h
          exact q_iretW hx hb hr hlocks hP hD hS d_Md_wrong_80
        · replace h := (if_neg c3).symm.trans h
          refine lv_aload_n hx hb d_Md_wrong_27 rfl (lv_at hl 0 rfl) ?_
          refine va_get (D := G.1) (ci := 6) (v := .ref a_t_entries) (C := "PlayStatesModel") (T := TMd) (N := 25) hx hb hts iw_6 hown hK hP 0 rfl rfl 4 (by decide) (hts _ gw_383) (fun _ h9 => h9) rfl d_Md_wrong_28 ?_
          refine lv_bipush (v := (81 : Int32)) hx hb d_Md_wrong_31 (by decide) ?_
          refine lv_iload_n hx hb d_Md_wrong_33 rfl (lv_at hl 1 rfl) ?_
          refine lv_imul hx hb d_Md_wrong_34 ?_
          refine lv_iload_n hx hb d_Md_wrong_35 rfl (lv_at hl 3 rfl) ?_
          refine lv_iadd hx hb d_Md_wrong_36 ?_
          obtain ⟨i4, h⟩ := o_if h
          refine va_iald (n := 648) (f := x_t_entries) hx hb hK hP 2 0 rfl rfl i4 d_Md_wrong_37 ?_
          refine lv_istore (lv' := [(4, .int (x_t_entries (((81 : Int32) * l19_1) + l19_3).toNatClampNeg)), (0, .ref a_t), (1, .int l19_1), (2, .int l19_2), (3, .int l19_3)]) hx hb d_Md_wrong_38 hl (by decide) rfl (fun ls hl => ?_)
          refine lv_iload_n hx hb d_Md_wrong_40 rfl (lv_at hl 3 rfl) ?_
          refine lv_iload hx hb d_Md_wrong_41 (lv_at hl 0 rfl) ?_
          refine lv_if_le (tgt := 70) hx hb d_Md_wrong_43 (by decide) (fun c5 => ?_) (fun c5 => ?_)
          · replace h := (if_pos c5).symm.trans h
            refine lv_iconst (v := (0 : Int32)) hx hb d_Md_wrong_70 (by decide) ?_
            refine lv_iadd hx hb d_Md_wrong_71 ?_
            refine lv_istore_n (lv' := [(2, .int (l19_2 + (0 : Int32))), (4, .int (x_t_entries (((81 : Int32) * l19_1) + l19_3).toNatClampNeg)), (0, .ref a_t), (1, .int l19_1), (3, .int l19_3)]) hx hb d_Md_wrong_72 rfl hl (by decide) rfl (fun ls hl => ?_)
            refine lv_iinc (v := (l19_3 + (1 : Int32))) (lv' := [(3, .int (l19_3 + (1 : Int32))), (2, .int (l19_2 + (0 : Int32))), (4, .int (x_t_entries (((81 : Int32) * l19_1) + l19_3).toNatClampNeg)), (0, .ref a_t), (1, .int l19_1)]) hx hb d_Md_wrong_73 hl (k := 4) rfl rfl (by decide) rfl (fun ls hl => ?_)
            refine lv_goto (tgt := 19) hx hb d_Md_wrong_76 (by decide) ?_
            exact ih19 l19_1 (l19_2 + (0 : Int32)) (l19_3 + (1 : Int32)) x_t_thrown_19 _ _ _ h hP hD hS (lv_sub hl [3, 4, 1, 0] rfl)
          · replace h := (if_neg c5).symm.trans h
            refine lv_aload_n hx hb d_Md_wrong_46 rfl (lv_at hl 1 rfl) ?_
            refine va_get (D := G.1) (ci := 6) (v := .ref a_t_truth) (C := "PlayStatesModel") (T := TMd) (N := 25) hx hb hts iw_6 hown hK hP 0 rfl rfl 3 (by decide) (hts _ gw_382) (fun _ h9 => h9) rfl d_Md_wrong_47 ?_
            refine lv_iload_n hx hb d_Md_wrong_50 rfl (lv_at hl 4 rfl) ?_
            obtain ⟨i6, h⟩ := o_if h
            refine va_iald (n := 81) (f := x_t_truth) hx hb hK hP 1 0 rfl rfl i6 d_Md_wrong_51 ?_
            refine lv_if_le (tgt := 70) hx hb d_Md_wrong_52 (by decide) (fun c7 => ?_) (fun c7 => ?_)
            · replace h := (if_pos c7).symm.trans h
              refine lv_iconst (v := (0 : Int32)) hx hb d_Md_wrong_70 (by decide) ?_
              refine lv_iadd hx hb d_Md_wrong_71 ?_
              refine lv_istore_n (lv' := [(2, .int (l19_2 + (0 : Int32))), (4, .int (x_t_entries (((81 : Int32) * l19_1) + l19_3).toNatClampNeg)), (0, .ref a_t), (1, .int l19_1), (3, .int l19_3)]) hx hb d_Md_wrong_72 rfl hl (by decide) rfl (fun ls hl => ?_)
              refine lv_iinc (v := (l19_3 + (1 : Int32))) (lv' := [(3, .int (l19_3 + (1 : Int32))), (2, .int (l19_2 + (0 : Int32))), (4, .int (x_t_entries (((81 : Int32) * l19_1) + l19_3).toNatClampNeg)), (0, .ref a_t), (1, .int l19_1)]) hx hb d_Md_wrong_73 hl (k := 4) rfl rfl (by decide) rfl (fun ls hl => ?_)
              refine lv_goto (tgt := 19) hx hb d_Md_wrong_76 (by decide) ?_
              exact ih19 l19_1 (l19_2 + (0 : Int32)) (l19_3 + (1 : Int32)) x_t_thrown_19 _ _ _ h hP hD hS (lv_sub hl [3, 4, 1, 0] rfl)
            · replace h := (if_neg c7).symm.trans h
              refine lv_iload hx hb d_Md_wrong_55 (lv_at hl 0 rfl) ?_
              refine lv_aload_n hx hb d_Md_wrong_57 rfl (lv_at hl 1 rfl) ?_
              refine va_get (D := G.1) (ci := 6) (v := .ref a_t_truth) (C := "PlayStatesModel") (T := TMd) (N := 25) hx hb hts iw_6 hown hK hP 0 rfl rfl 3 (by decide) (hts _ gw_382) (fun _ h9 => h9) rfl d_Md_wrong_58 ?_
              refine lv_iload_n hx hb d_Md_wrong_61 rfl (lv_at hl 4 rfl) ?_
              obtain ⟨i8, h⟩ := o_if h
              refine va_iald (n := 81) (f := x_t_truth) hx hb hK hP 1 0 rfl rfl i8 d_Md_wrong_62 ?_
              refine lv_icmp_eq (tgt := 70) hx hb d_Md_wrong_63 (by decide) (fun c9 => ?_) (fun c9 => ?_)
              · replace h := (if_pos c9).symm.trans h
                refine lv_iconst (v := (0 : Int32)) hx hb d_Md_wrong_70 (by decide) ?_
                refine lv_iadd hx hb d_Md_wrong_71 ?_
                refine lv_istore_n (lv' := [(2, .int (l19_2 + (0 : Int32))), (4, .int (x_t_entries (((81 : Int32) * l19_1) + l19_3).toNatClampNeg)), (0, .ref a_t), (1, .int l19_1), (3, .int l19_3)]) hx hb d_Md_wrong_72 rfl hl (by decide) rfl (fun ls hl => ?_)
                refine lv_iinc (v := (l19_3 + (1 : Int32))) (lv' := [(3, .int (l19_3 + (1 : Int32))), (2, .int (l19_2 + (0 : Int32))), (4, .int (x_t_entries (((81 : Int32) * l19_1) + l19_3).toNatClampNeg)), (0, .ref a_t), (1, .int l19_1)]) hx hb d_Md_wrong_73 hl (k := 4) rfl rfl (by decide) rfl (fun ls hl => ?_)
                refine lv_goto (tgt := 19) hx hb d_Md_wrong_76 (by decide) ?_
                exact ih19 l19_1 (l19_2 + (0 : Int32)) (l19_3 + (1 : Int32)) x_t_thrown_19 _ _ _ h hP hD hS (lv_sub hl [3, 4, 1, 0] rfl)
              · replace h := (if_neg c9).symm.trans h
                refine lv_iconst (v := (1 : Int32)) hx hb d_Md_wrong_66 (by decide) ?_
                refine lv_goto (tgt := 71) hx hb d_Md_wrong_67 (by decide) ?_
                refine lv_iadd hx hb d_Md_wrong_71 ?_
                refine lv_istore_n (lv' := [(2, .int (l19_2 + (1 : Int32))), (4, .int (x_t_entries (((81 : Int32) * l19_1) + l19_3).toNatClampNeg)), (0, .ref a_t), (1, .int l19_1), (3, .int l19_3)]) hx hb d_Md_wrong_72 rfl hl (by decide) rfl (fun ls hl => ?_)
                refine lv_iinc (v := (l19_3 + (1 : Int32))) (lv' := [(3, .int (l19_3 + (1 : Int32))), (2, .int (l19_2 + (1 : Int32))), (4, .int (x_t_entries (((81 : Int32) * l19_1) + l19_3).toNatClampNeg)), (0, .ref a_t), (1, .int l19_1)]) hx hb d_Md_wrong_73 hl (k := 4) rfl rfl (by decide) rfl (fun ls hl => ?_)
                refine lv_goto (tgt := 19) hx hb d_Md_wrong_76 (by decide) ?_
                exact ih19 l19_1 (l19_2 + (1 : Int32)) (l19_3 + (1 : Int32)) x_t_thrown_19 _ _ _ h hP hD hS (lv_sub hl [3, 4, 1, 0] rfl)
    exact L19 fu p0 (0 : Int32) (0 : Int32) (0 : Int32) _ _ _ h hP hD hS (lv_sub hl [2, 3, 1, 0] rfl)
  · replace h := (if_pos c2).symm.trans h
    refine lv_iconst (v := (-1 : Int32)) hx hb d_Md_wrong_13 (by decide) ?_
    cases h
    exact q_iretW hx hb hr hlocks hP hD hS d_Md_wrong_14

theorem gw_386 : (.fieldLink "PlayStatesModel" 22 "PlayStatesModel" "helped" "[I" : Cond) ∈ GW := gT 424 (by decide +kernel) (by decide +kernel)
theorem d_Md_help_0 : decode prog_8_method_19_code 0 = .ok (.aload_n 0, 1) := by decide +kernel
theorem d_Md_help_1 : decode prog_8_method_19_code 1 = .ok (.iconst 0, 1) := by decide +kernel
theorem d_Md_help_2 : decode prog_8_method_19_code 2 = .ok (.putfield 69, 3) := by decide +kernel
theorem d_Md_help_5 : decode prog_8_method_19_code 5 = .ok (.aload_n 0, 1) := by decide +kernel
theorem d_Md_help_6 : decode prog_8_method_19_code 6 = .ok (.iload_n 1, 1) := by decide +kernel
theorem d_Md_help_7 : decode prog_8_method_19_code 7 = .ok (.invokevirtual 86, 3) := by decide +kernel
theorem d_Md_help_10 : decode prog_8_method_19_code 10 = .ok (.ifCond .eq 13, 3) := by decide +kernel
theorem d_Md_help_13 : decode prog_8_method_19_code 13 = .ok (.aload_n 0, 1) := by decide +kernel
theorem d_Md_help_14 : decode prog_8_method_19_code 14 = .ok (.getfield 79, 3) := by decide +kernel
theorem d_Md_help_17 : decode prog_8_method_19_code 17 = .ok (.sipush 600, 3) := by decide +kernel
theorem d_Md_help_20 : decode prog_8_method_19_code 20 = .ok (.if_icmp .ne 5, 3) := by decide +kernel
theorem d_Md_help_23 : decode prog_8_method_19_code 23 = .ok (.iconst (-1), 1) := by decide +kernel
theorem d_Md_help_24 : decode prog_8_method_19_code 24 = .ok (.ireturn, 1) := by decide +kernel
theorem d_Md_help_25 : decode prog_8_method_19_code 25 = .ok (.iconst 0, 1) := by decide +kernel
theorem d_Md_help_26 : decode prog_8_method_19_code 26 = .ok (.istore_n 2, 1) := by decide +kernel
theorem d_Md_help_27 : decode prog_8_method_19_code 27 = .ok (.iload_n 2, 1) := by decide +kernel
theorem d_Md_help_28 : decode prog_8_method_19_code 28 = .ok (.aload_n 0, 1) := by decide +kernel
theorem d_Md_help_29 : decode prog_8_method_19_code 29 = .ok (.getfield 63, 3) := by decide +kernel
theorem d_Md_help_32 : decode prog_8_method_19_code 32 = .ok (.if_icmp .ge 32, 3) := by decide +kernel
theorem d_Md_help_35 : decode prog_8_method_19_code 35 = .ok (.aload_n 0, 1) := by decide +kernel
theorem d_Md_help_36 : decode prog_8_method_19_code 36 = .ok (.getfield 7, 3) := by decide +kernel
theorem d_Md_help_39 : decode prog_8_method_19_code 39 = .ok (.iload_n 2, 1) := by decide +kernel
theorem d_Md_help_40 : decode prog_8_method_19_code 40 = .ok (.iaload, 1) := by decide +kernel
theorem d_Md_help_41 : decode prog_8_method_19_code 41 = .ok (.ifCond .eq 17, 3) := by decide +kernel
theorem d_Md_help_44 : decode prog_8_method_19_code 44 = .ok (.aload_n 0, 1) := by decide +kernel
theorem d_Md_help_45 : decode prog_8_method_19_code 45 = .ok (.getfield 13, 3) := by decide +kernel
theorem d_Md_help_48 : decode prog_8_method_19_code 48 = .ok (.bipush 81, 2) := by decide +kernel
theorem d_Md_help_50 : decode prog_8_method_19_code 50 = .ok (.iload_n 1, 1) := by decide +kernel
theorem d_Md_help_51 : decode prog_8_method_19_code 51 = .ok (.imul, 1) := by decide +kernel
theorem d_Md_help_52 : decode prog_8_method_19_code 52 = .ok (.iload_n 2, 1) := by decide +kernel
theorem d_Md_help_53 : decode prog_8_method_19_code 53 = .ok (.iadd, 1) := by decide +kernel
theorem d_Md_help_54 : decode prog_8_method_19_code 54 = .ok (.iaload, 1) := by decide +kernel
theorem d_Md_help_55 : decode prog_8_method_19_code 55 = .ok (.ifCond .le 9, 3) := by decide +kernel
theorem d_Md_help_58 : decode prog_8_method_19_code 58 = .ok (.iinc 2 1, 3) := by decide +kernel
theorem d_Md_help_61 : decode prog_8_method_19_code 61 = .ok (.goto (-34), 3) := by decide +kernel
theorem d_Md_help_64 : decode prog_8_method_19_code 64 = .ok (.iload_n 2, 1) := by decide +kernel
theorem d_Md_help_65 : decode prog_8_method_19_code 65 = .ok (.aload_n 0, 1) := by decide +kernel
theorem d_Md_help_66 : decode prog_8_method_19_code 66 = .ok (.getfield 63, 3) := by decide +kernel
theorem d_Md_help_69 : decode prog_8_method_19_code 69 = .ok (.if_icmp .ne 5, 3) := by decide +kernel
theorem d_Md_help_72 : decode prog_8_method_19_code 72 = .ok (.iconst (-1), 1) := by decide +kernel
theorem d_Md_help_73 : decode prog_8_method_19_code 73 = .ok (.ireturn, 1) := by decide +kernel
theorem d_Md_help_74 : decode prog_8_method_19_code 74 = .ok (.aload_n 0, 1) := by decide +kernel
theorem d_Md_help_75 : decode prog_8_method_19_code 75 = .ok (.iload_n 1, 1) := by decide +kernel
theorem d_Md_help_76 : decode prog_8_method_19_code 76 = .ok (.iload_n 2, 1) := by decide +kernel
theorem d_Md_help_77 : decode prog_8_method_19_code 77 = .ok (.aload_n 0, 1) := by decide +kernel
theorem d_Md_help_78 : decode prog_8_method_19_code 78 = .ok (.getfield 7, 3) := by decide +kernel
theorem d_Md_help_81 : decode prog_8_method_19_code 81 = .ok (.iload_n 2, 1) := by decide +kernel
theorem d_Md_help_82 : decode prog_8_method_19_code 82 = .ok (.iaload, 1) := by decide +kernel
theorem d_Md_help_83 : decode prog_8_method_19_code 83 = .ok (.invokevirtual 93, 3) := by decide +kernel
theorem d_Md_help_86 : decode prog_8_method_19_code 86 = .ok (.pop, 1) := by decide +kernel
theorem d_Md_help_87 : decode prog_8_method_19_code 87 = .ok (.aload_n 0, 1) := by decide +kernel
theorem d_Md_help_88 : decode prog_8_method_19_code 88 = .ok (.getfield 22, 3) := by decide +kernel
theorem d_Md_help_91 : decode prog_8_method_19_code 91 = .ok (.iload_n 1, 1) := by decide +kernel
theorem d_Md_help_92 : decode prog_8_method_19_code 92 = .ok (.dup2, 1) := by decide +kernel
theorem d_Md_help_93 : decode prog_8_method_19_code 93 = .ok (.iaload, 1) := by decide +kernel
theorem d_Md_help_94 : decode prog_8_method_19_code 94 = .ok (.iconst 1, 1) := by decide +kernel
theorem d_Md_help_95 : decode prog_8_method_19_code 95 = .ok (.iadd, 1) := by decide +kernel
theorem d_Md_help_96 : decode prog_8_method_19_code 96 = .ok (.iastore, 1) := by decide +kernel
theorem d_Md_help_97 : decode prog_8_method_19_code 97 = .ok (.iload_n 2, 1) := by decide +kernel
theorem d_Md_help_98 : decode prog_8_method_19_code 98 = .ok (.ireturn, 1) := by decide +kernel
-- PlayStatesModel.help(I)I 
def ws_Md_help (G : gG) (a_t a_t_counted a_t_told a_t_runs a_t_isOn a_t_tryEntries a_t_tryMarks a_t_text a_t_truth a_t_entries a_t_marked a_t_present a_t_helped a_t_whose a_t_where a_t_what a_t_before a_t_behind : Nat)  (x_t_thrown : Int32) (x_t_places : Int32) (x_t_persons : Int32) (x_t_many : Int32) (x_t_size : Int32) (x_t_at : Int32) (x_t_sought : Int32) (x_t_found : Int32) (x_t_truth : Nat → Int32) (x_t_entries : Nat → Int32) (x_t_marked : Nat → Int32) (x_t_present : Nat → Int32) (x_t_helped : Nat → Int32) (x_t_whose : Nat → Int32) (x_t_where : Nat → Int32) (x_t_what : Nat → Int32) (x_t_before : Nat → Int32) (x_t_behind : Nat → Int32) : va_W := [(a_t, .inr (6, [.int x_t_thrown, .int x_t_places, .int x_t_persons, .ref a_t_truth, .ref a_t_entries, .ref a_t_marked, .ref a_t_present, .ref a_t_helped, .ref a_t_counted, .ref a_t_told, .ref a_t_runs, .int x_t_many, .ref a_t_whose, .ref a_t_where, .ref a_t_what, .ref a_t_before, .ref a_t_behind, .ref a_t_isOn, .ref a_t_tryEntries, .ref a_t_tryMarks, .int x_t_size, .ref a_t_text, .int x_t_at, .int x_t_sought, .int x_t_found])), (a_t_truth, .inl (G.2 0, 81, .inl x_t_truth)), (a_t_entries, .inl (G.2 0, 648, .inl x_t_entries)), (a_t_marked, .inl (G.2 0, 648, .inl x_t_marked)), (a_t_present, .inl (G.2 0, 8, .inl x_t_present)), (a_t_helped, .inl (G.2 0, 8, .inl x_t_helped)), (a_t_whose, .inl (G.2 0, 600, .inl x_t_whose)), (a_t_where, .inl (G.2 0, 600, .inl x_t_where)), (a_t_what, .inl (G.2 0, 600, .inl x_t_what)), (a_t_before, .inl (G.2 0, 600, .inl x_t_before)), (a_t_behind, .inl (G.2 0, 600, .inl x_t_behind))]
def fb_Md_help_L27 (fu : Nat) (x_t_places : Int32) (x_t_persons : Int32) (x_t_size : Int32) (x_t_at : Int32) (x_t_sought : Int32) (x_t_found : Int32) (x_t_truth : Nat → Int32)  (k27 : (Int32 → Int32 → Int32 → Int32 → (Nat → Int32) → (Nat → Int32) → (Nat → Int32) → (Nat → Int32) → (Nat → Int32) → (Nat → Int32) → (Nat → Int32) → (Nat → Int32) → (Nat → Int32) → Option (Int32 × Int32 × Int32 × (Nat → Int32) × (Nat → Int32) × (Nat → Int32) × (Nat → Int32) × (Nat → Int32) × (Nat → Int32) × (Nat → Int32) × (Nat → Int32) × (Nat → Int32)))) (l27_1 : Int32) (l27_2 : Int32) (x_t_thrown_27 : Int32) (x_t_many_27 : Int32) (x_t_entries_27 : Nat → Int32) (x_t_marked_27 : Nat → Int32) (x_t_present_27 : Nat → Int32) (x_t_helped_27 : Nat → Int32) (x_t_whose_27 : Nat → Int32) (x_t_where_27 : Nat → Int32) (x_t_what_27 : Nat → Int32) (x_t_before_27 : Nat → Int32) (x_t_behind_27 : Nat → Int32) : Option (Int32 × Int32 × Int32 × (Nat → Int32) × (Nat → Int32) × (Nat → Int32) × (Nat → Int32) × (Nat → Int32) × (Nat → Int32) × (Nat → Int32) × (Nat → Int32) × (Nat → Int32)) :=
  (if x_t_places ≤ l27_2 then (if l27_2 = x_t_places then some ((-1 : Int32), x_t_thrown_27, x_t_many_27, x_t_entries_27, x_t_marked_27, x_t_present_27, x_t_helped_27, x_t_whose_27, x_t_where_27, x_t_what_27, x_t_before_27, x_t_behind_27) else (if inB l27_2 81 then ((f_Md_addRow l27_1 l27_2 (x_t_truth l27_2.toNatClampNeg) x_t_thrown_27 x_t_places x_t_persons x_t_many_27 x_t_size x_t_at x_t_sought x_t_found x_t_entries_27 x_t_marked_27 x_t_present_27 x_t_whose_27 x_t_where_27 x_t_what_27 x_t_before_27 x_t_behind_27).bind fun y7 => (if inB l27_1 8 then (if inB l27_1 8 then some (l27_2, x_t_thrown_27, y7.2.1, y7.2.2.1, y7.2.2.2.1, y7.2.2.2.2.1, (upd x_t_helped_27 l27_1.toNatClampNeg ((x_t_helped_27 l27_1.toNatClampNeg) + (1 : Int32))), y7.2.2.2.2.2.1, y7.2.2.2.2.2.2.1, y7.2.2.2.2.2.2.2.1, y7.2.2.2.2.2.2.2.2.1, y7.2.2.2.2.2.2.2.2.2) else none) else none)) else none)) else (if inB l27_2 81 then (if (x_t_truth l27_2.toNatClampNeg) = 0 then (k27 l27_1 (l27_2 + (1 : Int32)) x_t_thrown_27 x_t_many_27 x_t_entries_27 x_t_marked_27 x_t_present_27 x_t_helped_27 x_t_whose_27 x_t_where_27 x_t_what_27 x_t_before_27 x_t_behind_27) else (if inB (((81 : Int32) * l27_1) + l27_2) 648 then (if (x_t_entries_27 (((81 : Int32) * l27_1) + l27_2).toNatClampNeg) ≤ 0 then (if l27_2 = x_t_places then some ((-1 : Int32), x_t_thrown_27, x_t_many_27, x_t_entries_27, x_t_marked_27, x_t_present_27, x_t_helped_27, x_t_whose_27, x_t_where_27, x_t_what_27, x_t_before_27, x_t_behind_27) else (if inB l27_2 81 then ((f_Md_addRow l27_1 l27_2 (x_t_truth l27_2.toNatClampNeg) x_t_thrown_27 x_t_places x_t_persons x_t_many_27 x_t_size x_t_at x_t_sought x_t_found x_t_entries_27 x_t_marked_27 x_t_present_27 x_t_whose_27 x_t_where_27 x_t_what_27 x_t_before_27 x_t_behind_27).bind fun y16 => (if inB l27_1 8 then (if inB l27_1 8 then some (l27_2, x_t_thrown_27, y16.2.1, y16.2.2.1, y16.2.2.2.1, y16.2.2.2.2.1, (upd x_t_helped_27 l27_1.toNatClampNeg ((x_t_helped_27 l27_1.toNatClampNeg) + (1 : Int32))), y16.2.2.2.2.2.1, y16.2.2.2.2.2.2.1, y16.2.2.2.2.2.2.2.1, y16.2.2.2.2.2.2.2.2.1, y16.2.2.2.2.2.2.2.2.2) else none) else none)) else none)) else (k27 l27_1 (l27_2 + (1 : Int32)) x_t_thrown_27 x_t_many_27 x_t_entries_27 x_t_marked_27 x_t_present_27 x_t_helped_27 x_t_whose_27 x_t_where_27 x_t_what_27 x_t_before_27 x_t_behind_27)) else none)) else none))
def f_Md_help_L27 (fu : Nat) (x_t_places : Int32) (x_t_persons : Int32) (x_t_size : Int32) (x_t_at : Int32) (x_t_sought : Int32) (x_t_found : Int32) (x_t_truth : Nat → Int32)  : Nat → Int32 → Int32 → Int32 → Int32 → (Nat → Int32) → (Nat → Int32) → (Nat → Int32) → (Nat → Int32) → (Nat → Int32) → (Nat → Int32) → (Nat → Int32) → (Nat → Int32) → (Nat → Int32) → Option (Int32 × Int32 × Int32 × (Nat → Int32) × (Nat → Int32) × (Nat → Int32) × (Nat → Int32) × (Nat → Int32) × (Nat → Int32) × (Nat → Int32) × (Nat → Int32) × (Nat → Int32))
  | 0 => fun _ _ _ _ _ _ _ _ _ _ _ _ _ => none
  | k9 + 1 => fb_Md_help_L27 fu x_t_places x_t_persons x_t_size x_t_at x_t_sought x_t_found x_t_truth (f_Md_help_L27 fu x_t_places x_t_persons x_t_size x_t_at x_t_sought x_t_found x_t_truth k9)
def f_Md_help (fu : Nat)  (p0 : Int32) (x_t_thrown : Int32) (x_t_places : Int32) (x_t_persons : Int32) (x_t_many : Int32) (x_t_size : Int32) (x_t_at : Int32) (x_t_sought : Int32) (x_t_found : Int32) (x_t_truth : Nat → Int32) (x_t_entries : Nat → Int32) (x_t_marked : Nat → Int32) (x_t_present : Nat → Int32) (x_t_helped : Nat → Int32) (x_t_whose : Nat → Int32) (x_t_where : Nat → Int32) (x_t_what : Nat → Int32) (x_t_before : Nat → Int32) (x_t_behind : Nat → Int32) : Option (Int32 × Int32 × Int32 × (Nat → Int32) × (Nat → Int32) × (Nat → Int32) × (Nat → Int32) × (Nat → Int32) × (Nat → Int32) × (Nat → Int32) × (Nat → Int32) × (Nat → Int32)) :=
  ((f_Md_isPerson p0 (0 : Int32) x_t_places x_t_persons x_t_many x_t_size x_t_at x_t_sought x_t_found).bind fun y1 => (if y1 = 0 then some ((-1 : Int32), (0 : Int32), x_t_many, x_t_entries, x_t_marked, x_t_present, x_t_helped, x_t_whose, x_t_where, x_t_what, x_t_before, x_t_behind) else (if x_t_many = (600 : Int32) then some ((-1 : Int32), (0 : Int32), x_t_many, x_t_entries, x_t_marked, x_t_present, x_t_helped, x_t_whose, x_t_where, x_t_what, x_t_before, x_t_behind) else (f_Md_help_L27 fu x_t_places x_t_persons x_t_size x_t_at x_t_sought x_t_found x_t_truth fu p0 (0 : Int32) (0 : Int32) x_t_many x_t_entries x_t_marked x_t_present x_t_helped x_t_whose x_t_where x_t_what x_t_before x_t_behind))))
set_option maxHeartbeats 4000000 in
set_option maxRecDepth 100000 in
theorem c_Md_help (l : Launch) (G : gG) (sz : Nat) (a_t a_t_counted a_t_told a_t_runs a_t_isOn a_t_tryEntries a_t_tryMarks a_t_text a_t_truth a_t_entries a_t_marked a_t_present a_t_helped a_t_whose a_t_where a_t_what a_t_before a_t_behind : Nat) (fu : Nat)  (p0 : Int32) (x_t_thrown : Int32) (x_t_places : Int32) (x_t_persons : Int32) (x_t_many : Int32) (x_t_size : Int32) (x_t_at : Int32) (x_t_sought : Int32) (x_t_found : Int32) (x_t_truth : Nat → Int32) (x_t_entries : Nat → Int32) (x_t_marked : Nat → Int32) (x_t_present : Nat → Int32) (x_t_helped : Nat → Int32) (x_t_whose : Nat → Int32) (x_t_where : Nat → Int32) (x_t_what : Nat → Int32) (x_t_before : Nat → Int32) (x_t_behind : Nat → Int32) (r : Int32) (x_t_thrown' : Int32) (x_t_many' : Int32) (x_t_entries' : Nat → Int32) (x_t_marked' : Nat → Int32) (x_t_present' : Nat → Int32) (x_t_helped' : Nat → Int32) (x_t_whose' : Nat → Int32) (x_t_where' : Nat → Int32) (x_t_what' : Nat → Int32) (x_t_before' : Nat → Int32) (x_t_behind' : Nat → Int32) (h : f_Md_help fu p0 x_t_thrown x_t_places x_t_persons x_t_many x_t_size x_t_at x_t_sought x_t_found x_t_truth x_t_entries x_t_marked x_t_present x_t_helped x_t_whose x_t_where x_t_what x_t_before x_t_behind = some (r, x_t_thrown', x_t_many', x_t_entries', x_t_marked', x_t_present', x_t_helped', x_t_whose', x_t_where', x_t_what', x_t_before', x_t_behind'))  : cN l y_Md_help w_Md_help { frames := 2, cells := 0, slots := 0, locals := 47 } G sz [.ref a_t, .int p0] (ws_Md_help G a_t a_t_counted a_t_told a_t_runs a_t_isOn a_t_tryEntries a_t_tryMarks a_t_text a_t_truth a_t_entries a_t_marked a_t_present a_t_helped a_t_whose a_t_where a_t_what a_t_before a_t_behind x_t_thrown x_t_places x_t_persons x_t_many x_t_size x_t_at x_t_sought x_t_found x_t_truth x_t_entries x_t_marked x_t_present x_t_helped x_t_whose x_t_where x_t_what x_t_before x_t_behind) (some (.int r)) (wB G (ws_Md_help G a_t a_t_counted a_t_told a_t_runs a_t_isOn a_t_tryEntries a_t_tryMarks a_t_text a_t_truth a_t_entries a_t_marked a_t_present a_t_helped a_t_whose a_t_where a_t_what a_t_before a_t_behind x_t_thrown' x_t_places x_t_persons x_t_many' x_t_size x_t_at x_t_sought x_t_found x_t_truth x_t_entries' x_t_marked' x_t_present' x_t_helped' x_t_whose' x_t_where' x_t_what' x_t_before' x_t_behind')) 0 0 := by
  refine cN_ofW (cc := prog_8_method_19_code) (maxL := 3) (ret := (some .int)) (by decide) rfl (Nat.le_of_ble_eq_true rfl) ?_
  intro p e s m args below meth c A H locs ls hx hb hr hts hown hlocks hin hml hK hN hP hD hA hS hl
  replace hl : lv_has ls 3 [(0, .ref a_t), (1, .int p0)] := hl
  replace hown : s.vm.findClass "PlayStatesModel" = some m.cls := hown
  unfold f_Md_help at h
  refine lv_aload_n hx hb d_Md_help_0 rfl (lv_at hl 0 rfl) ?_
  refine lv_iconst (v := (0 : Int32)) hx hb d_Md_help_1 (by decide) ?_
  refine va_put (D := G.1) (ci := 6) (v := .int (0 : Int32)) (ty := .int) (C := "PlayStatesModel") (T := TMd) (N := 25) hx hb hts iw_6 tyMd tyMd_ok nmMd hown hK hP hD hS 0 rfl rfl 0 (by decide) (hts _ gw_379) (fun _ h9 => h9) rfl (by decide +kernel) (by rfl) (by rfl) (Nat.le_of_ble_eq_true rfl) d_Md_help_2 (fun H locs hP hD hS => ?_)
  replace hP : va_P G.1 vwCl (ws_Md_help G a_t a_t_counted a_t_told a_t_runs a_t_isOn a_t_tryEntries a_t_tryMarks a_t_text a_t_truth a_t_entries a_t_marked a_t_present a_t_helped a_t_whose a_t_where a_t_what a_t_before a_t_behind (0 : Int32) x_t_places x_t_persons x_t_many x_t_size x_t_at x_t_sought x_t_found x_t_truth x_t_entries x_t_marked x_t_present x_t_helped x_t_whose x_t_where x_t_what x_t_before x_t_behind) H := hP
  replace hD : va_D A (ws_Md_help G a_t a_t_counted a_t_told a_t_runs a_t_isOn a_t_tryEntries a_t_tryMarks a_t_text a_t_truth a_t_entries a_t_marked a_t_present a_t_helped a_t_whose a_t_where a_t_what a_t_before a_t_behind (0 : Int32) x_t_places x_t_persons x_t_many x_t_size x_t_at x_t_sought x_t_found x_t_truth x_t_entries x_t_marked x_t_present x_t_helped x_t_whose x_t_where x_t_what x_t_before x_t_behind) := hD
  refine lv_aload_n hx hb d_Md_help_5 rfl (lv_at hl 0 rfl) ?_
  refine lv_iload_n hx hb d_Md_help_6 rfl (lv_at hl 1 rfl) ?_
  obtain ⟨y1, hy1, h⟩ := o_bind h
  have hPc := hP.sub (ws' := (ws_Md_isPerson G a_t a_t_truth a_t_entries a_t_marked a_t_present a_t_helped a_t_counted a_t_told a_t_runs a_t_whose a_t_where a_t_what a_t_before a_t_behind a_t_isOn a_t_tryEntries a_t_tryMarks a_t_text (0 : Int32) x_t_places x_t_persons x_t_many x_t_size x_t_at x_t_sought x_t_found)) [0] rfl
  have hDc := hD.sub (ws' := (ws_Md_isPerson G a_t a_t_truth a_t_entries a_t_marked a_t_present a_t_helped a_t_counted a_t_told a_t_runs a_t_whose a_t_where a_t_what a_t_before a_t_behind a_t_isOn a_t_tryEntries a_t_tryMarks a_t_text (0 : Int32) x_t_places x_t_persons x_t_many x_t_size x_t_at x_t_sought x_t_found)) [0] (by decide) rfl
  have hFc := va_free (wc := (ws_Md_isPerson G a_t a_t_truth a_t_entries a_t_marked a_t_present a_t_helped a_t_counted a_t_told a_t_runs a_t_whose a_t_where a_t_what a_t_before a_t_behind a_t_isOn a_t_tryEntries a_t_tryMarks a_t_text (0 : Int32) x_t_places x_t_persons x_t_many x_t_size x_t_at x_t_sought x_t_found)) hD hS hA [0] rfl
  refine q_call1 (va_runV (As := [.int p0]) (rest := []) ⟨hx, hb, hml, hown, hts⟩ (c_Md_isPerson l G H.size a_t a_t_truth a_t_entries a_t_marked a_t_present a_t_helped a_t_counted a_t_told a_t_runs a_t_whose a_t_where a_t_what a_t_before a_t_behind a_t_isOn a_t_tryEntries a_t_tryMarks a_t_text p0 (0 : Int32) x_t_places x_t_persons x_t_many x_t_size x_t_at x_t_sought x_t_found _ hy1) (cwV 1 hts (gV gw_441 gw_442 gw_17 gw_36 gw_443) rfl rfl rfl (by decide +kernel) ⟨Nat.le_of_ble_eq_true rfl, Nat.le_of_ble_eq_true rfl⟩) (pV hK hN hPc hDc (ci := 6) (q0 := 0) rfl rfl) rfl rfl hl.1 rfl (lv_room (Nat.le_of_ble_eq_true rfl)) d_Md_help_7 ⟨Nat.le_of_ble_eq_true rfl, Nat.le_of_ble_eq_true rfl⟩) hS (fun q _ h => hFc q h) hFc (fun H1 locs hB hz hk hS => ?_)
  obtain ⟨hP, hD⟩ := q_join (wr := [(a_t_truth, .inl (G.2 0, 81, .inl x_t_truth)), (a_t_entries, .inl (G.2 0, 648, .inl x_t_entries)), (a_t_marked, .inl (G.2 0, 648, .inl x_t_marked)), (a_t_present, .inl (G.2 0, 8, .inl x_t_present)), (a_t_helped, .inl (G.2 0, 8, .inl x_t_helped)), (a_t_whose, .inl (G.2 0, 600, .inl x_t_whose)), (a_t_where, .inl (G.2 0, 600, .inl x_t_where)), (a_t_what, .inl (G.2 0, 600, .inl x_t_what)), (a_t_before, .inl (G.2 0, 600, .inl x_t_before)), (a_t_behind, .inl (G.2 0, 600, .inl x_t_behind))]) (wn := (ws_Md_help G a_t a_t_counted a_t_told a_t_runs a_t_isOn a_t_tryEntries a_t_tryMarks a_t_text a_t_truth a_t_entries a_t_marked a_t_present a_t_helped a_t_whose a_t_where a_t_what a_t_before a_t_behind (0 : Int32) x_t_places x_t_persons x_t_many x_t_size x_t_at x_t_sought x_t_found x_t_truth x_t_entries x_t_marked x_t_present x_t_helped x_t_whose x_t_where x_t_what x_t_before x_t_behind)) hP hD [0] [1, 2, 3, 4, 5, 6, 7, 8, 9, 10] [10, 0, 1, 2, 3, 4, 5, 6, 7, 8, 9] rfl rfl (by decide) (by decide) rfl (by decide) hk hFc hB.1 hB.2
  generalize H1 = H at hP hS ⊢
  replace hP : va_P G.1 vwCl (ws_Md_help G a_t a_t_counted a_t_told a_t_runs a_t_isOn a_t_tryEntries a_t_tryMarks a_t_text a_t_truth a_t_entries a_t_marked a_t_present a_t_helped a_t_whose a_t_where a_t_what a_t_before a_t_behind (0 : Int32) x_t_places x_t_persons x_t_many x_t_size x_t_at x_t_sought x_t_found x_t_truth x_t_entries x_t_marked x_t_present x_t_helped x_t_whose x_t_where x_t_what x_t_before x_t_behind) H := hP
  replace hD : va_D A (ws_Md_help G a_t a_t_counted a_t_told a_t_runs a_t_isOn a_t_tryEntries a_t_tryMarks a_t_text a_t_truth a_t_entries a_t_marked a_t_present a_t_helped a_t_whose a_t_where a_t_what a_t_before a_t_behind (0 : Int32) x_t_places x_t_persons x_t_many x_t_size x_t_at x_t_sought x_t_found x_t_truth x_t_entries x_t_marked x_t_present x_t_helped x_t_whose x_t_where x_t_what x_t_before x_t_behind) := hD
  refine lv_if_eq (tgt := 23) hx hb d_Md_help_10 (by decide) (fun c2 => ?_) (fun c2 => ?_)
  · replace h := (if_pos c2).symm.trans h
    refine lv_iconst (v := (-1 : Int32)) hx hb d_Md_help_23 (by decide) ?_
    cases h
    exact q_iretW hx hb hr hlocks hP hD hS d_Md_help_24
  · replace h := (if_neg c2).symm.trans h
    refine lv_aload_n hx hb d_Md_help_13 rfl (lv_at hl 0 rfl) ?_
    refine va_get (D := G.1) (ci := 6) (v := .int x_t_many) (C := "PlayStatesModel") (T := TMd) (N := 25) hx hb hts iw_6 hown hK hP 0 rfl rfl 11 (by decide) (hts _ gw_390) (fun _ h9 => h9) rfl d_Md_help_14 ?_
    refine lv_sipush (v := (600 : Int32)) hx hb d_Md_help_17 (by decide) ?_
    refine lv_icmp_ne (tgt := 25) hx hb d_Md_help_20 (by decide) (fun c3 => ?_) (fun c3 => ?_)
    · replace h := (if_neg c3).symm.trans h
      refine lv_iconst (v := (0 : Int32)) hx hb d_Md_help_25 (by decide) ?_
      refine lv_istore_n (lv' := [(2, .int (0 : Int32)), (0, .ref a_t), (1, .int p0)]) hx hb d_Md_help_26 rfl hl (by decide) rfl (fun ls hl => ?_)
      have L27 : ∀ (nf : Nat) (l27_1 : Int32) (l27_2 : Int32) (x_t_thrown_27 : Int32) (x_t_many_27 : Int32) (x_t_entries_27 : Nat → Int32) (x_t_marked_27 : Nat → Int32) (x_t_present_27 : Nat → Int32) (x_t_helped_27 : Nat → Int32) (x_t_whose_27 : Nat → Int32) (x_t_where_27 : Nat → Int32) (x_t_what_27 : Nat → Int32) (x_t_before_27 : Nat → Int32) (x_t_behind_27 : Nat → Int32) (H : Heap) (locs : List Loc) (ls : Array Slot), f_Md_help_L27 fu x_t_places x_t_persons x_t_size x_t_at x_t_sought x_t_found x_t_truth nf l27_1 l27_2 x_t_thrown_27 x_t_many_27 x_t_entries_27 x_t_marked_27 x_t_present_27 x_t_helped_27 x_t_whose_27 x_t_where_27 x_t_what_27 x_t_before_27 x_t_behind_27 = some (r, x_t_thrown', x_t_many', x_t_entries', x_t_marked', x_t_present', x_t_helped', x_t_whose', x_t_where', x_t_what', x_t_before', x_t_behind') → va_P G.1 vwCl (ws_Md_help G a_t a_t_counted a_t_told a_t_runs a_t_isOn a_t_tryEntries a_t_tryMarks a_t_text a_t_truth a_t_entries a_t_marked a_t_present a_t_helped a_t_whose a_t_where a_t_what a_t_before a_t_behind x_t_thrown_27 x_t_places x_t_persons x_t_many_27 x_t_size x_t_at x_t_sought x_t_found x_t_truth x_t_entries_27 x_t_marked_27 x_t_present_27 x_t_helped_27 x_t_whose_27 x_t_where_27 x_t_what_27 x_t_before_27 x_t_behind_27) H → va_D A (ws_Md_help G a_t a_t_counted a_t_told a_t_runs a_t_isOn a_t_tryEntries a_t_tryMarks a_t_text a_t_truth a_t_entries a_t_marked a_t_present a_t_helped a_t_whose a_t_where a_t_what a_t_before a_t_behind x_t_thrown_27 x_t_places x_t_persons x_t_many_27 x_t_size x_t_at x_t_sought x_t_found x_t_truth x_t_entries_27 x_t_marked_27 x_t_present_27 x_t_helped_27 x_t_whose_27 x_t_where_27 x_t_what_27 x_t_before_27 x_t_behind_27) → va_S A s.heap H locs → lv_has ls 3 [(0, .ref a_t), (1, .int l27_1), (2, .int l27_2)] → W p l e { frames := 2, cells := 0, slots := 0, locals := 47 } s m args below meth c H locs 0 0 (MQ below (qQ (some (.int r)) (wB G (ws_Md_help G a_t a_t_counted a_t_told a_t_runs a_t_isOn a_t_tryEntries a_t_tryMarks a_t_text a_t_truth a_t_entries a_t_marked a_t_present a_t_helped a_t_whose a_t_where a_t_what a_t_before a_t_behind x_t_thrown' x_t_places x_t_persons x_t_many' x_t_size x_t_at x_t_sought x_t_found x_t_truth x_t_entries' x_t_marked' x_t_present' x_t_helped' x_t_whose' x_t_where' x_t_what' x_t_before' x_t_behind') A) A) args s 0 0 A) (F0 m 27 ls []) := by
        clear h hP hD hS hl
        intro n27
        induction n27 with
        | zero => intro _ _ _ _ _ _ _ _ _ _ _ _ _ H locs ls h; exact nomatch (show none = some _ from h)
        | succ n27 ih27 =>
          intro l27_1 l27_2 x_t_thrown_27 x_t_many_27 x_t_entries_27 x_t_marked_27 x_t_present_27 x_t_helped_27 x_t_whose_27 x_t_where_27 x_t_what_27 x_t_before_27 x_t_behind_27 H locs ls h hP hD hS hl
          replace h : fb_Md_help_L27 fu x_t_places x_t_persons x_t_size x_t_at x_t_sought x_t_found x_t_truth (f_Md_help_L27 fu x_t_places x_t_persons x_t_size x_t_at x_t_sought x_t_found x_t_truth n27) l27_1 l27_2 x_t_thrown_27 x_t_many_27 x_t_entries_27 x_t_marked_27 x_t_present_27 x_t_helped_27 x_t_whose_27 x_t_where_27 x_t_what_27 x_t_before_27 x_t_behind_27 = some (r, x_t_thrown', x_t_many', x_t_entries', x_t_marked', x_t_present', x_t_helped', x_t_whose', x_t_where', x_t_what', x_t_before', x_t_behind') := h
          unfold fb_Md_help_L27 at h
          refine lv_iload_n hx hb d_Md_help_27 rfl (lv_at hl 2 rfl) ?_
          refine lv_aload_n hx hb d_Md_help_28 rfl (lv_at hl 0 rfl) ?_
          refine va_get (D := G.1) (ci := 6) (v := .int x_t_places) (C := "PlayStatesModel") (T := TMd) (N := 25) hx hb hts iw_6 hown hK hP 0 rfl rfl 1 (by decide) (hts _ gw_380) (fun _ h9 => h9) rfl d_Md_help_29 ?_
          refine lv_icmp_ge (tgt := 64) hx hb d_Md_help_32 (by decide) (fun c4 => ?_) (fun c4 => ?_)
          · replace h := (if_pos c4).symm.trans h
            refine lv_iload_n hx hb d_Md_help_64 rfl (lv_at hl 2 rfl) ?_
            refine lv_aload_n hx hb d_Md_help_65 rfl (lv_at hl 0 rfl) ?_
            refine va_get (D := G.1) (ci := 6) (v := .int x_t_places) (C := "PlayStatesModel") (T := TMd) (N := 25) hx hb hts iw_6 hown hK hP 0 rfl rfl 1 (by decide) (hts _ gw_380) (fun _ h9 => h9) rfl d_Md_help_66 ?_
            refine lv_icmp_ne (tgt := 74) hx hb d_Md_help_69 (by decide) (fun c5 => ?_) (fun c5 => ?_)
            · replace h := (if_neg c5).symm.trans h
              refine lv_aload_n hx hb d_Md_help_74 rfl (lv_at hl 0 rfl) ?_
              refine lv_iload_n hx hb d_Md_help_75 rfl (lv_at hl 1 rfl) ?_
              refine lv_iload_n hx hb d_Md_help_76 rfl (lv_at hl 2 rfl) ?_
              refine lv_aload_n hx hb d_Md_help_77 rfl (lv_at hl 0 rfl) ?_
              refine va_get (D := G.1) (ci := 6) (v := .ref a_t_truth) (C := "PlayStatesModel") (T := TMd) (N := 25) hx hb hts iw_6 hown hK hP 0 rfl rfl 3 (by decide) (hts _ gw_382) (fun _ h9 => h9) rfl d_Md_help_78 ?_
              refine lv_iload_n hx hb d_Md_help_81 rfl (lv_at hl 2 rfl) ?_
              obtain ⟨i6, h⟩ := o_if h
              refine va_iald (n := 81) (f := x_t_truth) hx hb hK hP 1 0 rfl rfl i6 d_Md_help_82 ?_
              obtain ⟨y7, hy7, h⟩ := o_bind h
              have hPc := hP.sub (ws' := (ws_Md_addRow G a_t a_t_truth a_t_helped a_t_counted a_t_told a_t_runs a_t_isOn a_t_tryEntries a_t_tryMarks a_t_text a_t_entries a_t_marked a_t_present a_t_whose a_t_where a_t_what a_t_before a_t_behind x_t_thrown_27 x_t_places x_t_persons x_t_many_27 x_t_size x_t_at x_t_sought x_t_found x_t_entries_27 x_t_marked_27 x_t_present_27 x_t_whose_27 x_t_where_27 x_t_what_27 x_t_before_27 x_t_behind_27)) [0, 2, 3, 4, 6, 7, 8, 9, 10] rfl
              have hDc := hD.sub (ws' := (ws_Md_addRow G a_t a_t_truth a_t_helped a_t_counted a_t_told a_t_runs a_t_isOn a_t_tryEntries a_t_tryMarks a_t_text a_t_entries a_t_marked a_t_present a_t_whose a_t_where a_t_what a_t_before a_t_behind x_t_thrown_27 x_t_places x_t_persons x_t_many_27 x_t_size x_t_at x_t_sought x_t_found x_t_entries_27 x_t_marked_27 x_t_present_27 x_t_whose_27 x_t_where_27 x_t_what_27 x_t_before_27 x_t_behind_27)) [0, 2, 3, 4, 6, 7, 8, 9, 10] (by decide) rfl
              have hFc := va_free (wc := (ws_Md_addRow G a_t a_t_truth a_t_helped a_t_counted a_t_told a_t_runs a_t_isOn a_t_tryEntries a_t_tryMarks a_t_text a_t_entries a_t_marked a_t_present a_t_whose a_t_where a_t_what a_t_before a_t_behind x_t_thrown_27 x_t_places x_t_persons x_t_many_27 x_t_size x_t_at x_t_sought x_t_found x_t_entries_27 x_t_marked_27 x_t_present_27 x_t_whose_27 x_t_where_27 x_t_what_27 x_t_before_27 x_t_behind_27)) hD hS hA [0, 2, 3, 4, 6, 7, 8, 9, 10] rfl
              refine q_call1 (va_runV (As := [.int l27_1, .int l27_2, .int (x_t_truth l27_2.toNatClampNeg)]) (rest := []) ⟨hx, hb, hml, hown, hts⟩ (c_Md_addRow l G H.size a_t a_t_truth a_t_helped a_t_counted a_t_told a_t_runs a_t_isOn a_t_tryEntries a_t_tryMarks a_t_text a_t_entries a_t_marked a_t_present a_t_whose a_t_where a_t_what a_t_before a_t_behind l27_1 l27_2 (x_t_truth l27_2.toNatClampNeg) x_t_thrown_27 x_t_places x_t_persons x_t_many_27 x_t_size x_t_at x_t_sought x_t_found x_t_entries_27 x_t_marked_27 x_t_present_27 x_t_whose_27 x_t_where_27 x_t_what_27 x_t_before_27 x_t_behind_27 _ _ _ _ _ _ _ _ _ _ hy7) (cwV 3 hts (gV gw_447 gw_448 gw_19 gw_36 gw_449) rfl rfl rfl (by decide +kernel) ⟨Nat.le_of_ble_eq_true rfl, Nat.le_of_ble_eq_true rfl⟩) (pV hK hN hPc hDc (ci := 6) (q0 := 0) rfl rfl) rfl rfl hl.1 rfl (lv_room (Nat.le_of_ble_eq_true rfl)) d_Md_help_83 ⟨Nat.le_of_ble_eq_true rfl, Nat.le_of_ble_eq_true rfl⟩) hS (fun q _ h => hFc q h) hFc (fun H1 locs hB hz hk hS => ?_)
              obtain ⟨hP, hD⟩ := q_join (wr := [(a_t_truth, .inl (G.2 0, 81, .inl x_t_truth)), (a_t_helped, .inl (G.2 0, 8, .inl x_t_helped_27))]) (wn := (ws_Md_help G a_t a_t_counted a_t_told a_t_runs a_t_isOn a_t_tryEntries a_t_tryMarks a_t_text a_t_truth a_t_entries a_t_marked a_t_present a_t_helped a_t_whose a_t_where a_t_what a_t_before a_t_behind x_t_thrown_27 x_t_places x_t_persons y7.2.1 x_t_size x_t_at x_t_sought x_t_found x_t_truth y7.2.2.1 y7.2.2.2.1 y7.2.2.2.2.1 x_t_helped_27 y7.2.2.2.2.2.1 y7.2.2.2.2.2.2.1 y7.2.2.2.2.2.2.2.1 y7.2.2.2.2.2.2.2.2.1 y7.2.2.2.2.2.2.2.2.2)) hP hD [0, 2, 3, 4, 6, 7, 8, 9, 10] [1, 5] [2, 0, 3, 4, 5, 1, 6, 7, 8, 9, 10] rfl rfl (by decide) (by decide) rfl (by decide) hk hFc hB.1 hB.2
              generalize H1 = H at hP hS ⊢
              replace hP : va_P G.1 vwCl (ws_Md_help G a_t a_t_counted a_t_told a_t_runs a_t_isOn a_t_tryEntries a_t_tryMarks a_t_text a_t_truth a_t_entries a_t_marked a_t_present a_t_helped a_t_whose a_t_where a_t_what a_t_before a_t_behind x_t_thrown_27 x_t_places x_t_persons y7.2.1 x_t_size x_t_at x_t_sought x_t_found x_t_truth y7.2.2.1 y7.2.2.2.1 y7.2.2.2.2.1 x_t_helped_27 y7.2.2.2.2.2.1 y7.2.2.2.2.2.2.1 y7.2.2.2.2.2.2.2.1 y7.2.2.2.2.2.2.2.2.1 y7.2.2.2.2.2.2.2.2.2) H := hP
              replace hD : va_D A (ws_Md_help G a_t a_t_counted a_t_told a_t_runs a_t_isOn a_t_tryEntries a_t_tryMarks a_t_text a_t_truth a_t_entries a_t_marked a_t_present a_t_helped a_t_whose a_t_where a_t_what a_t_before a_t_behind x_t_thrown_27 x_t_places x_t_persons y7.2.1 x_t_size x_t_at x_t_sought x_t_found x_t_truth y7.2.2.1 y7.2.2.2.1 y7.2.2.2.2.1 x_t_helped_27 y7.2.2.2.2.2.1 y7.2.2.2.2.2.2.1 y7.2.2.2.2.2.2.2.1 y7.2.2.2.2.2.2.2.2.1 y7.2.2.2.2.2.2.2.2.2) := hD
              refine lv_pop hx hb d_Md_help_86 rfl ?_
              refine lv_aload_n hx hb d_Md_help_87 rfl (lv_at hl 0 rfl) ?_
              refine va_get (D := G.1) (ci := 6) (v := .ref a_t_helped) (C := "PlayStatesModel") (T := TMd) (N := 25) hx hb hts iw_6 hown hK hP 0 rfl rfl 7 (by decide) (hts _ gw_386) (fun _ h9 => h9) rfl d_Md_help_88 ?_
              refine lv_iload_n hx hb d_Md_help_91 rfl (lv_at hl 1 rfl) ?_
              refine lv_dup2_11 hx hb d_Md_help_92 rfl rfl ?_
              obtain ⟨i8, h⟩ := o_if h
              refine va_iald (n := 8) (f := x_t_helped_27) hx hb hK hP 5 0 rfl rfl i8 d_Md_help_93 ?_
              refine lv_iconst (v := (1 : Int32)) hx hb d_Md_help_94 (by decide) ?_
              refine lv_iadd hx hb d_Md_help_95 ?_
              obtain ⟨i9, h⟩ := o_if h
              refine va_iast (n := 8) (f := x_t_helped_27) hx hb hK hP hD hS 5 0 rfl rfl i9 d_Md_help_96 (fun H locs hP hD hS => ?_)
              replace hP : va_P G.1 vwCl (ws_Md_help G a_t a_t_counted a_t_told a_t_runs a_t_isOn a_t_tryEntries a_t_tryMarks a_t_text a_t_truth a_t_entries a_t_marked a_t_present a_t_helped a_t_whose a_t_where a_t_what a_t_before a_t_behind x_t_thrown_27 x_t_places x_t_persons y7.2.1 x_t_size x_t_at x_t_sought x_t_found x_t_truth y7.2.2.1 y7.2.2.2.1 y7.2.2.2.2.1 (upd x_t_helped_27 l27_1.toNatClampNeg ((x_t_helped_27 l27_1.toNatClampNeg) + (1 : Int32))) y7.2.2.2.2.2.1 y7.2.2.2.2.2.2.1 y7.2.2.2.2.2.2.2.1 y7.2.2.2.2.2.2.2.2.1 y7.2.2.2.2.2.2.2.2.2) H := hP
              replace hD : va_D A (ws_Md_help G a_t a_t_counted a_t_told a_t_runs a_t_isOn a_t_tryEntries a_t_tryMarks a_t_text a_t_truth a_t_entries a_t_marked a_t_present a_t_helped a_t_whose a_t_where a_t_what a_t_before a_t_behind x_t_thrown_27 x_t_places x_t_persons y7.2.1 x_t_size x_t_at x_t_sought x_t_found x_t_truth y7.2.2.1 y7.2.2.2.1 y7.2.2.2.2.1 (upd x_t_helped_27 l27_1.toNatClampNeg ((x_t_helped_27 l27_1.toNatClampNeg) + (1 : Int32))) y7.2.2.2.2.2.1 y7.2.2.2.2.2.2.1 y7.2.2.2.2.2.2.2.1 y7.2.2.2.2.2.2.2.2.1 y7.2.2.2.2.2.2.2.2.2) := hD
              refine lv_iload_n hx hb d_Md_help_97 rfl (lv_at hl 2 rfl) ?_
              cases h
              exact q_iretW hx hb hr hlocks hP hD hS d_Md_help_98
            · replace h := (if_pos c5).symm.trans h
              refine lv_iconst (v := (-1 : Int32)) hx hb d_Md_help_72 (by decide) ?_
              cases h
              exact q_iretW hx hb hr hlocks hP hD hS d_Md_help_73
          · replace h := (if_neg c4).symm.trans h
            refine lv_aload_n hx hb d_Md_help_35 rfl (lv_at hl 0 rfl) ?_
            refine va_get (D := G.1) (ci := 6) (v := .ref a_t_truth) (C := "PlayStatesModel") (T := TMd) (N := 25) hx hb hts iw_6 hown hK hP 0 rfl rfl 3 (by decide) (hts _ gw_382) (fun _ h9 => h9) rfl d_Md_help_36 ?_
            refine lv_iload_n hx hb d_Md_help_39 rfl (lv_at hl 2 rfl) ?_
            obtain ⟨i10, h⟩ := o_if h
            refine va_iald (n := 81) (f := x_t_truth) hx hb hK hP 1 0 rfl rfl i10 d_Md_help_40 ?_
            refine lv_if_eq (tgt := 58) hx hb d_Md_help_41 (by decide) (fun c11 => ?_) (fun c11 => ?_)
            · replace h := (if_pos c11).symm.trans h
              refine lv_iinc (v := (l27_2 + (1 : Int32))) (lv' := [(2, .int (l27_2 + (1 : Int32))), (0, .ref a_t), (1, .int l27_1)]) hx hb d_Md_help_58 hl (k := 2) rfl rfl (by decide) rfl (fun ls hl => ?_)
              refine lv_goto (tgt := 27) hx hb d_Md_help_61 (by decide) ?_
              exact ih27 l27_1 (l27_2 + (1 : Int32)) x_t_thrown_27 x_t_many_27 x_t_entries_27 x_t_marked_27 x_t_present_27 x_t_helped_27 x_t_whose_27 x_t_where_27 x_t_what_27 x_t_before_27 x_t_behind_27 _ _ _ h hP hD hS (lv_sub hl [1, 2, 0] rfl)
            · replace h := (if_neg c11).symm.trans h
              refine lv_aload_n hx hb d_Md_help_44 rfl (lv_at hl 0 rfl) ?_
              refine va_get (D := G.1) (ci := 6) (v := .ref a_t_entries) (C := "PlayStatesModel") (T := TMd) (N := 25) hx hb hts iw_6 hown hK hP 0 rfl rfl 4 (by decide) (hts _ gw_383) (fun _ h9 => h9) rfl d_Md_help_45 ?_
              refine lv_bipush (v := (81 : Int32)) hx hb d_Md_help_48 (by decide) ?_
              refine lv_iload_n hx hb d_Md_help_50 rfl (lv_at hl 1 rfl) ?_
              refine lv_imul hx hb d_Md_help_51 ?_
              refine lv_iload_n hx hb d_Md_help_52 rfl (lv_at hl 2 rfl) ?_
              refine lv_iadd hx hb d_Md_help_53 ?_
              obtain ⟨i12, h⟩ := o_if h
              refine va_iald (n := 648) (f := x_t_entries_27) hx hb hK hP 2 0 rfl rfl i12 d_Md_help_54 ?_
              refine lv_if_le (tgt := 64) hx hb d_Md_help_55 (by decide) (fun c13 => ?_) (fun c13 => ?_)
              · replace h := (if_pos c13).symm.trans h
                refine lv_iload_n hx hb d_Md_help_64 rfl (lv_at hl 2 rfl) ?_
                refine lv_aload_n hx hb d_Md_help_65 rfl (lv_at hl 0 rfl) ?_
                refine va_get (D := G.1) (ci := 6) (v := .int x_t_places) (C := "PlayStatesModel") (T := TMd) (N := 25) hx hb hts iw_6 hown hK hP 0 rfl rfl 1 (by decide) (hts _ gw_380) (fun _ h9 => h9) rfl d_Md_help_66 ?_
                refine lv_icmp_ne (tgt := 74) hx hb d_Md_help_69 (by decide) (fun c14 => ?_) (fun c14 => ?_)
                · replace h := (if_neg c14).symm.trans h
                  refine lv_aload_n hx hb d_Md_help_74 rfl (lv_at hl 0 rfl) ?_
                  refine lv_iload_n hx hb d_Md_help_75 rfl (lv_at hl 1 rfl) ?_
                  refine lv_iload_n hx hb d_Md_help_76 rfl (lv_at hl 2 rfl) ?_
                  refine lv_aload_n hx hb d_Md_help_77 rfl (lv_at hl 0 rfl) ?_
                  refine va_get (D := G.1) (ci := 6) (v := .ref a_t_truth) (C := "PlayStatesModel") (T := TMd) (N := 25) hx hb hts iw_6 hown hK hP 0 rfl rfl 3 (by decide) (hts _ gw_382) (fun _ h9 => h9) rfl d_Md_help_78 ?_
                  refine lv_iload_n hx hb d_Md_help_81 rfl (lv_at hl 2 rfl) ?_
                  obtain ⟨i15, h⟩ := o_if h
                  refine va_iald (n := 81) (f := x_t_truth) hx hb hK hP 1 0 rfl rfl i15 d_Md_help_82 ?_
                  obtain ⟨y16, hy16, h⟩ := o_bind h
                  have hPc := hP.sub (ws' := (ws_Md_addRow G a_t a_t_truth a_t_helped a_t_counted a_t_told a_t_runs a_t_isOn a_t_tryEntries a_t_tryMarks a_t_text a_t_entries a_t_marked a_t_present a_t_whose a_t_where a_t_what a_t_before a_t_behind x_t_thrown_27 x_t_places x_t_persons x_t_many_27 x_t_size x_t_at x_t_sought x_t_found x_t_entries_27 x_t_marked_27 x_t_present_27 x_t_whose_27 x_t_where_27 x_t_what_27 x_t_before_27 x_t_behind_27)) [0, 2, 3, 4, 6, 7, 8, 9, 10] rfl
                  have hDc := hD.sub (ws' := (ws_Md_addRow G a_t a_t_truth a_t_helped a_t_counted a_t_told a_t_runs a_t_isOn a_t_tryEntries a_t_tryMarks a_t_text a_t_entries a_t_marked a_t_present a_t_whose a_t_where a_t_what a_t_before a_t_behind x_t_thrown_27 x_t_places x_t_persons x_t_many_27 x_t_size x_t_at x_t_sought x_t_found x_t_entries_27 x_t_marked_27 x_t_present_27 x_t_whose_27 x_t_where_27 x_t_what_27 x_t_before_27 x_t_behind_27)) [0, 2, 3, 4, 6, 7, 8, 9, 10] (by decide) rfl
                  have hFc := va_free (wc := (ws_Md_addRow G a_t a_t_truth a_t_helped a_t_counted a_t_told a_t_runs a_t_isOn a_t_tryEntries a_t_tryMarks a_t_text a_t_entries a_t_marked a_t_present a_t_whose a_t_where a_t_what a_t_before a_t_behind x_t_thrown_27 x_t_places x_t_persons x_t_many_27 x_t_size x_t_at x_t_sought x_t_found x_t_entries_27 x_t_marked_27 x_t_present_27 x_t_whose_27 x_t_where_27 x_t_what_27 x_t_before_27 x_t_behind_27)) hD hS hA [0, 2, 3, 4, 6, 7, 8, 9, 10] rfl
                  refine q_call1 (va_runV (As := [.int l27_1, .int l27_2, .int (x_t_truth l27_2.toNatClampNeg)]) (rest := []) ⟨hx, hb, hml, hown, hts⟩ (c_Md_addRow l G H.size a_t a_t_truth a_t_helped a_t_counted a_t_told a_t_runs a_t_isOn a_t_tryEntries a_t_tryMarks a_t_text a_t_entries a_t_marked a_t_present a_t_whose a_t_where a_t_what a_t_before a_t_behind l27_1 l27_2 (x_t_truth l27_2.toNatClampNeg) x_t_thrown_27 x_t_places x_t_persons x_t_many_27 x_t_size x_t_at x_t_sought x_t_found x_t_entries_27 x_t_marked_27 x_t_present_27 x_t_whose_27 x_t_where_27 x_t_what_27 x_t_before_27 x_t_behind_27 _ _ _ _ _ _ _ _ _ _ hy16) (cwV 3 hts (gV gw_447 gw_448 gw_19 gw_36 gw_449) rfl rfl rfl (by decide +kernel) ⟨Nat.le_of_ble_eq_true rfl, Nat.le_of_ble_eq_true rfl⟩) (pV hK hN hPc hDc (ci := 6) (q0 := 0) rfl rfl) rfl rfl hl.1 rfl (lv_room (Nat.le_of_ble_eq_true rfl)) d_Md_help_83 ⟨Nat.le_of_ble_eq_true rfl, Nat.le_of_ble_eq_true rfl⟩) hS (fun q _ h => hFc q h) hFc (fun H1 locs hB hz hk hS => ?_)
                  obtain ⟨hP, hD⟩ := q_join (wr := [(a_t_truth, .inl (G.2 0, 81, .inl x_t_truth)), (a_t_helped, .inl (G.2 0, 8, .inl x_t_helped_27))]) (wn := (ws_Md_help G a_t a_t_counted a_t_told a_t_runs a_t_isOn a_t_tryEntries a_t_tryMarks a_t_text a_t_truth a_t_entries a_t_marked a_t_present a_t_helped a_t_whose a_t_where a_t_what a_t_before a_t_behind x_t_thrown_27 x_t_places x_t_persons y16.2.1 x_t_size x_t_at x_t_sought x_t_found x_t_truth y16.2.2.1 y16.2.2.2.1 y16.2.2.2.2.1 x_t_helped_27 y16.2.2.2.2.2.1 y16.2.2.2.2.2.2.1 y16.2.2.2.2.2.2.2.1 y16.2.2.2.2.2.2.2.2.1 y16.2.2.2.2.2.2.2.2.2)) hP hD [0, 2, 3, 4, 6, 7, 8, 9, 10] [1, 5] [2, 0, 3, 4, 5, 1, 6, 7, 8, 9, 10] rfl rfl (by decide) (by decide) rfl (by decide) hk hFc hB.1 hB.2
                  generalize H1 = H at hP hS ⊢
                  replace hP : va_P G.1 vwCl (ws_Md_help G a_t a_t_counted a_t_told a_t_runs a_t_isOn a_t_tryEntries a_t_tryMarks a_t_text a_t_truth a_t_entries a_t_marked a_t_present a_t_helped a_t_whose a_t_where a_t_what a_t_before a_t_behind x_t_thrown_27 x_t_places x_t_persons y16.2.1 x_t_size x_t_at x_t_sought x_t_found x_t_truth y16.2.2.1 y16.2.2.2.1 y16.2.2.2.2.1 x_t_helped_27 y16.2.2.2.2.2.1 y16.2.2.2.2.2.2.1 y16.2.2.2.2.2.2.2.1 y16.2.2.2.2.2.2.2.2.1 y16.2.2.2.2.2.2.2.2.2) H := hP
                  replace hD : va_D A (ws_Md_help G a_t a_t_counted a_t_told a_t_runs a_t_isOn a_t_tryEntries a_t_tryMarks a_t_text a_t_truth a_t_entries a_t_marked a_t_present a_t_helped a_t_whose a_t_where a_t_what a_t_before a_t_behind x_t_thrown_27 x_t_places x_t_persons y16.2.1 x_t_size x_t_at x_t_sought x_t_found x_t_truth y16.2.2.1 y16.2.2.2.1 y16.2.2.2.2.1 x_t_helped_27 y16.2.2.2.2.2.1 y16.2.2.2.2.2.2.1 y16.2.2.2.2.2.2.2.1 y16.2.2.2.2.2.2.2.2.1 y16.2.2.2.2.2.2.2.2.2) := hD
                  refine lv_pop hx hb d_Md_help_86 rfl ?_
                  refine lv_aload_n hx hb d_Md_help_87 rfl (lv_at hl 0 rfl) ?_
                  refine va_get (D := G.1) (ci := 6) (v := .ref a_t_helped) (C := "PlayStatesModel") (T := TMd) (N := 25) hx hb hts iw_6 hown hK hP 0 rfl rfl 7 (by decide) (hts _ gw_386) (fun _ h9 => h9) rfl d_Md_help_88 ?_
                  refine lv_iload_n hx hb d_Md_help_91 rfl (lv_at hl 1 rfl) ?_
                  refine lv_dup2_11 hx hb d_Md_help_92 rfl rfl ?_
                  obtain ⟨i17, h⟩ := o_if h
                  refine va_iald (n := 8) (f := x_t_helped_27) hx hb hK hP 5 0 rfl rfl i17 d_Md_help_93 ?_
                  refine lv_iconst (v := (1 : Int32)) hx hb d_Md_help_94 (by decide) ?_
                  refine lv_iadd hx hb d_Md_help_95 ?_
                  obtain ⟨i18, h⟩ := o_if h
                  refine va_iast (n := 8) (f := x_t_helped_27) hx hb hK hP hD hS 5 0 rfl rfl i18 d_Md_help_96 (fun H locs hP hD hS => ?_)
                  replace hP : va_P G.1 vwCl (ws_Md_help G a_t a_t_counted a_t_told a_t_runs a_t_isOn a_t_tryEntries a_t_tryMarks a_t_text a_t_truth a_t_entries a_t_marked a_t_present a_t_helped a_t_whose a_t_where a_t_what a_t_before a_t_behind x_t_thrown_27 x_t_places x_t_persons y16.2.1 x_t_size x_t_at x_t_sought x_t_found x_t_truth y16.2.2.1 y16.2.2.2.1 y16.2.2.2.2.1 (upd x_t_helped_27 l27_1.toNatClampNeg ((x_t_helped_27 l27_1.toNatClampNeg) + (1 : Int32))) y16.2.2.2.2.2.1 y16.2.2.2.2.2.2.1 y16.2.2.2.2.2.2.2.1 y16.2.2.2.2.2.2.2.2.1 y16.2.2.2.2.2.2.2.2.2) H := hP
                  replace hD : va_D A (ws_Md_help G a_t a_t_counted a_t_told a_t_runs a_t_isOn a_t_tryEntries a_t_tryMarks a_t_text a_t_truth a_t_entries a_t_marked a_t_present a_t_helped a_t_whose a_t_where a_t_what a_t_before a_t_behind x_t_thrown_27 x_t_places x_t_persons y16.2.1 x_t_size x_t_at x_t_sought x_t_found x_t_truth y16.2.2.1 y16.2.2.2.1 y16.2.2.2.2.1 (upd x_t_helped_27 l27_1.toNatClampNeg ((x_t_helped_27 l27_1.toNatClampNeg) + (1 : Int32))) y16.2.2.2.2.2.1 y16.2.2.2.2.2.2.1 y16.2.2.2.2.2.2.2.1 y16.2.2.2.2.2.2.2.2.1 y16.2.2.2.2.2.2.2.2.2) := hD
                  refine lv_iload_n hx hb d_Md_help_97 rfl (lv_at hl 2 rfl) ?_
                  cases h
                  exact q_iretW hx hb hr hlocks hP hD hS d_Md_help_98
                · replace h := (if_pos c14).symm.trans h
                  refine lv_iconst (v := (-1 : Int32)) hx hb d_Md_help_72 (by decide) ?_
                  cases h
                  exact q_iretW hx hb hr hlocks hP hD hS d_Md_help_73
              · replace h := (if_neg c13).symm.trans h
                refine lv_iinc (v := (l27_2 + (1 : Int32))) (lv' := [(2, .int (l27_2 + (1 : Int32))), (0, .ref a_t), (1, .int l27_1)]) hx hb d_Md_help_58 hl (k := 2) rfl rfl (by decide) rfl (fun ls hl => ?_)
                refine lv_goto (tgt := 27) hx hb d_Md_help_61 (by decide) ?_
                exact ih27 l27_1 (l27_2 + (1 : Int32)) x_t_thrown_27 x_t_many_27 x_t_entries_27 x_t_marked_27 x_t_present_27 x_t_helped_27 x_t_whose_27 x_t_where_27 x_t_what_27 x_t_before_27 x_t_behind_27 _ _ _ h hP hD hS (lv_sub hl [1, 2, 0] rfl)
      exact L27 fu p0 (0 : Int32) (0 : Int32) x_t_many x_t_entries x_t_marked x_t_present x_t_helped x_t_whose x_t_where x_t_what x_t_before x_t_behind _ _ _ h hP hD hS (lv_sub hl [1, 2, 0] rfl)
    · replace h := (if_pos c3).symm.trans h
      refine lv_iconst (v := (-1 : Int32)) hx hb d_Md_help_23 (by decide) ?_
      cases h
      exact q_iretW hx hb hr hlocks hP hD hS d_Md_help_24

theorem d_Md_helps_0 : decode prog_8_method_20_code 0 = .ok (.aload_n 0, 1) := by decide +kernel
theorem d_Md_helps_1 : decode prog_8_method_20_code 1 = .ok (.iconst 0, 1) := by decide +kernel
theorem d_Md_helps_2 : decode prog_8_method_20_code 2 = .ok (.putfield 69, 3) := by decide +kernel
theorem d_Md_helps_5 : decode prog_8_method_20_code 5 = .ok (.aload_n 0, 1) := by decide +kernel
theorem d_Md_helps_6 : decode prog_8_method_20_code 6 = .ok (.iload_n 1, 1) := by decide +kernel
theorem d_Md_helps_7 : decode prog_8_method_20_code 7 = .ok (.invokevirtual 86, 3) := by decide +kernel
theorem d_Md_helps_10 : decode prog_8_method_20_code 10 = .ok (.ifCond .eq 12, 3) := by decide +kernel
theorem d_Md_helps_13 : decode prog_8_method_20_code 13 = .ok (.aload_n 0, 1) := by decide +kernel
theorem d_Md_helps_14 : decode prog_8_method_20_code 14 = .ok (.getfield 22, 3) := by decide +kernel
theorem d_Md_helps_17 : decode prog_8_method_20_code 17 = .ok (.iload_n 1, 1) := by decide +kernel
theorem d_Md_helps_18 : decode prog_8_method_20_code 18 = .ok (.iaload, 1) := by decide +kernel
theorem d_Md_helps_19 : decode prog_8_method_20_code 19 = .ok (.goto 4, 3) := by decide +kernel
theorem d_Md_helps_22 : decode prog_8_method_20_code 22 = .ok (.iconst (-1), 1) := by decide +kernel
theorem d_Md_helps_23 : decode prog_8_method_20_code 23 = .ok (.ireturn, 1) := by decide +kernel
-- PlayStatesModel.helps(I)I 
def ws_Md_helps (G : gG) (a_t a_t_truth a_t_entries a_t_marked a_t_present a_t_counted a_t_told a_t_runs a_t_whose a_t_where a_t_what a_t_before a_t_behind a_t_isOn a_t_tryEntries a_t_tryMarks a_t_text a_t_helped : Nat)  (x_t_thrown : Int32) (x_t_places : Int32) (x_t_persons : Int32) (x_t_many : Int32) (x_t_size : Int32) (x_t_at : Int32) (x_t_sought : Int32) (x_t_found : Int32) (x_t_helped : Nat → Int32) : va_W := [(a_t, .inr (6, [.int x_t_thrown, .int x_t_places, .int x_t_persons, .ref a_t_truth, .ref a_t_entries, .ref a_t_marked, .ref a_t_present, .ref a_t_helped, .ref a_t_counted, .ref a_t_told, .ref a_t_runs, .int x_t_many, .ref a_t_whose, .ref a_t_where, .ref a_t_what, .ref a_t_before, .ref a_t_behind, .ref a_t_isOn, .ref a_t_tryEntries, .ref a_t_tryMarks, .int x_t_size, .ref a_t_text, .int x_t_at, .int x_t_sought, .int x_t_found])), (a_t_helped, .inl (G.2 0, 8, .inl x_t_helped))]
def f_Md_helps  (p0 : Int32) (x_t_thrown : Int32) (x_t_places : Int32) (x_t_persons : Int32) (x_t_many : Int32) (x_t_size : Int32) (x_t_at : Int32) (x_t_sought : Int32) (x_t_found : Int32) (x_t_helped : Nat → Int32) : Option (Int32 × Int32) :=
  ((f_Md_isPerson p0 (0 : Int32) x_t_places x_t_persons x_t_many x_t_size x_t_at x_t_sought x_t_found).bind fun y1 => (if y1 = 0 then some ((-1 : Int32), (0 : Int32)) else (if inB p0 8 then some ((x_t_helped p0.toNatClampNeg), (0 : Int32)) else none)))
set_option maxHeartbeats 4000000 in
set_option maxRecDepth 100000 in
theorem c_Md_helps (l : Launch) (G : gG) (sz : Nat) (a_t a_t_truth a_t_entries a_t_marked a_t_present a_t_counted a_t_told a_t_runs a_t_whose a_t_where a_t_what a_t_before a_t_behind a_t_isOn a_t_tryEntries a_t_tryMarks a_t_text a_t_helped : Nat)  (p0 : Int32) (x_t_thrown : Int32) (x_t_places : Int32) (x_t_persons : Int32) (x_t_many : Int32) (x_t_size : Int32) (x_t_at : Int32) (x_t_sought : Int32) (x_t_found : Int32) (x_t_helped : Nat → Int32) (r : Int32) (x_t_thrown' : Int32) (h : f_Md_helps p0 x_t_thrown x_t_places x_t_persons x_t_many x_t_size x_t_at x_t_sought x_t_found x_t_helped = some (r, x_t_thrown'))  : cN l y_Md_helps w_Md_helps { frames := 1, cells := 0, slots := 0, locals := 21 } G sz [.ref a_t, .int p0] (ws_Md_helps G a_t a_t_truth a_t_entries a_t_marked a_t_present a_t_counted a_t_told a_t_runs a_t_whose a_t_where a_t_what a_t_before a_t_behind a_t_isOn a_t_tryEntries a_t_tryMarks a_t_text a_t_helped x_t_thrown x_t_places x_t_persons x_t_many x_t_size x_t_at x_t_sought x_t_found x_t_helped) (some (.int r)) (wB G (ws_Md_helps G a_t a_t_truth a_t_entries a_t_marked a_t_present a_t_counted a_t_told a_t_runs a_t_whose a_t_where a_t_what a_t_before a_t_behind a_t_isOn a_t_tryEntries a_t_tryMarks a_t_text a_t_helped x_t_thrown' x_t_places x_t_persons x_t_many x_t_size x_t_at x_t_sought x_t_found x_t_helped)) 0 0 := by
  refine cN_ofW (cc := prog_8_method_20_code) (maxL := 2) (ret := (some .int)) (by decide) rfl (Nat.le_of_ble_eq_true rfl) ?_
  intro p e s m args below meth c A H locs ls hx hb hr hts hown hlocks hin hml hK hN hP hD hA hS hl
  replace hl : lv_has ls 2 [(0, .ref a_t), (1, .int p0)] := hl
  replace hown : s.vm.findClass "PlayStatesModel" = some m.cls := hown
  unfold f_Md_helps at h
  refine lv_aload_n hx hb d_Md_helps_0 rfl (lv_at hl 0 rfl) ?_
  refine lv_iconst (v := (0 : Int32)) hx hb d_Md_helps_1 (by decide) ?_
  refine va_put (D := G.1) (ci := 6) (v := .int (0 : Int32)) (ty := .int) (C := "PlayStatesModel") (T := TMd) (N := 25) hx hb hts iw_6 tyMd tyMd_ok nmMd hown hK hP hD hS 0 rfl rfl 0 (by decide) (hts _ gw_379) (fun _ h9 => h9) rfl (by decide +kernel) (by rfl) (by rfl) (Nat.le_of_ble_eq_true rfl) d_Md_helps_2 (fun H locs hP hD hS => ?_)
  replace hP : va_P G.1 vwCl (ws_Md_helps G a_t a_t_truth a_t_entries a_t_marked a_t_present a_t_counted a_t_told a_t_runs a_t_whose a_t_where a_t_what a_t_before a_t_behind a_t_isOn a_t_tryEntries a_t_tryMarks a_t_text a_t_helped (0 : Int32) x_t_places x_t_persons x_t_many x_t_size x_t_at x_t_sought x_t_found x_t_helped) H := hP
  replace hD : va_D A (ws_Md_helps G a_t a_t_truth a_t_entries a_t_marked a_t_present a_t_counted a_t_told a_t_runs a_t_whose a_t_where a_t_what a_t_before a_t_behind a_t_isOn a_t_tryEntries a_t_tryMarks a_t_text a_t_helped (0 : Int32) x_t_places x_t_persons x_t_many x_t_size x_t_at x_t_sought x_t_found x_t_helped) := hD
  refine lv_aload_n hx hb d_Md_helps_5 rfl (lv_at hl 0 rfl) ?_
  refine lv_iload_n hx hb d_Md_helps_6 rfl (lv_at hl 1 rfl) ?_
  obtain ⟨y1, hy1, h⟩ := o_bind h
  have hPc := hP.sub (ws' := (ws_Md_isPerson G a_t a_t_truth a_t_entries a_t_marked a_t_present a_t_helped a_t_counted a_t_told a_t_runs a_t_whose a_t_where a_t_what a_t_before a_t_behind a_t_isOn a_t_tryEntries a_t_tryMarks a_t_text (0 : Int32) x_t_places x_t_persons x_t_many x_t_size x_t_at x_t_sought x_t_found)) [0] rfl
  have hDc := hD.sub (ws' := (ws_Md_isPerson G a_t a_t_truth a_t_entries a_t_marked a_t_present a_t_helped a_t_counted a_t_told a_t_runs a_t_whose a_t_where a_t_what a_t_before a_t_behind a_t_isOn a_t_tryEntries a_t_tryMarks a_t_text (0 : Int32) x_t_places x_t_persons x_t_many x_t_size x_t_at x_t_sought x_t_found)) [0] (by decide) rfl
  have hFc := va_free (wc := (ws_Md_isPerson G a_t a_t_truth a_t_entries a_t_marked a_t_present a_t_helped a_t_counted a_t_told a_t_runs a_t_whose a_t_where a_t_what a_t_before a_t_behind a_t_isOn a_t_tryEntries a_t_tryMarks a_t_text (0 : Int32) x_t_places x_t_persons x_t_many x_t_size x_t_at x_t_sought x_t_found)) hD hS hA [0] rfl
  refine q_call1 (va_runV (As := [.int p0]) (rest := []) ⟨hx, hb, hml, hown, hts⟩ (c_Md_isPerson l G H.size a_t a_t_truth a_t_entries a_t_marked a_t_present a_t_helped a_t_counted a_t_told a_t_runs a_t_whose a_t_where a_t_what a_t_before a_t_behind a_t_isOn a_t_tryEntries a_t_tryMarks a_t_text p0 (0 : Int32) x_t_places x_t_persons x_t_many x_t_size x_t_at x_t_sought x_t_found _ hy1) (cwV 1 hts (gV gw_441 gw_442 gw_17 gw_36 gw_443) rfl rfl rfl (by decide +kernel) ⟨Nat.le_of_ble_eq_true rfl, Nat.le_of_ble_eq_true rfl⟩) (pV hK hN hPc hDc (ci := 6) (q0 := 0) rfl rfl) rfl rfl hl.1 rfl (lv_room (Nat.le_of_ble_eq_true rfl)) d_Md_helps_7 ⟨Nat.le_of_ble_eq_true rfl, Nat.le_of_ble_eq_true rfl⟩) hS (fun q _ h => hFc q h) hFc (fun H1 locs hB hz hk hS => ?_)
  obtain ⟨hP, hD⟩ := q_join (wr := [(a_t_helped, .inl (G.2 0, 8, .inl x_t_helped))]) (wn := (ws_Md_helps G a_t a_t_truth a_t_entries a_t_marked a_t_present a_t_counted a_t_told a_t_runs a_t_whose a_t_where a_t_what a_t_before a_t_behind a_t_isOn a_t_tryEntries a_t_tryMarks a_t_text a_t_helped (0 : Int32) x_t_places x_t_persons x_t_many x_t_size x_t_at x_t_sought x_t_found x_t_helped)) hP hD [0] [1] [1, 0] rfl rfl (by decide) (by decide) rfl (by decide) hk hFc hB.1 hB.2
  generalize H1 = H at hP hS ⊢
  replace hP : va_P G.1 vwCl (ws_Md_helps G a_t a_t_truth a_t_entries a_t_marked a_t_present a_t_counted a_t_told a_t_runs a_t_whose a_t_where a_t_what a_t_before a_t_behind a_t_isOn a_t_tryEntries a_t_tryMarks a_t_text a_t_helped (0 : Int32) x_t_places x_t_persons x_t_many x_t_size x_t_at x_t_sought x_t_found x_t_helped) H := hP
  replace hD : va_D A (ws_Md_helps G a_t a_t_truth a_t_entries a_t_marked a_t_present a_t_counted a_t_told a_t_runs a_t_whose a_t_where a_t_what a_t_before a_t_behind a_t_isOn a_t_tryEntries a_t_tryMarks a_t_text a_t_helped (0 : Int32) x_t_places x_t_persons x_t_many x_t_size x_t_at x_t_sought x_t_found x_t_helped) := hD
  refine lv_if_eq (tgt := 22) hx hb d_Md_helps_10 (by decide) (fun c2 => ?_) (fun c2 => ?_)
  · replace h := (if_pos c2).symm.trans h
    refine lv_iconst (v := (-1 : Int32)) hx hb d_Md_helps_22 (by decide) ?_
    cases h
    exact q_iretW hx hb hr hlocks hP hD hS d_Md_helps_23
  · replace h := (if_neg c2).symm.trans h
    refine lv_aload_n hx hb d_Md_helps_13 rfl (lv_at hl 0 rfl) ?_
    refine va_get (D := G.1) (ci := 6) (v := .ref a_t_helped) (C := "PlayStatesModel") (T := TMd) (N := 25) hx hb hts iw_6 hown hK hP 0 rfl rfl 7 (by decide) (hts _ gw_386) (fun _ h9 => h9) rfl d_Md_helps_14 ?_
    refine lv_iload_n hx hb d_Md_helps_17 rfl (lv_at hl 1 rfl) ?_
    obtain ⟨i3, h⟩ := o_if h
    refine va_iald (n := 8) (f := x_t_helped) hx hb hK hP 1 0 rfl rfl i3 d_Md_helps_18 ?_
    refine lv_goto (tgt := 23) hx hb d_Md_helps_19 (by decide) ?_
    cases h
    exact q_iretW hx hb hr hlocks hP hD hS d_Md_helps_23

theorem gw_388 : (.fieldLink "PlayStatesModel" 29 "PlayStatesModel" "told" "[J" : Cond) ∈ GW := gT 426 (by decide +kernel) (by decide +kernel)
theorem d_Md_mayTell_0 : decode prog_8_method_21_code 0 = .ok (.aload_n 0, 1) := by decide +kernel
theorem d_Md_mayTell_1 : decode prog_8_method_21_code 1 = .ok (.iload_n 1, 1) := by decide +kernel
theorem d_Md_mayTell_2 : decode prog_8_method_21_code 2 = .ok (.invokevirtual 86, 3) := by decide +kernel
theorem d_Md_mayTell_5 : decode prog_8_method_21_code 5 = .ok (.ifCond .eq 24, 3) := by decide +kernel
theorem d_Md_mayTell_8 : decode prog_8_method_21_code 8 = .ok (.lload_n 2, 1) := by decide +kernel
theorem d_Md_mayTell_9 : decode prog_8_method_21_code 9 = .ok (.lconst 0, 1) := by decide +kernel
theorem d_Md_mayTell_10 : decode prog_8_method_21_code 10 = .ok (.lcmp, 1) := by decide +kernel
theorem d_Md_mayTell_11 : decode prog_8_method_21_code 11 = .ok (.ifCond .lt 18, 3) := by decide +kernel
theorem d_Md_mayTell_14 : decode prog_8_method_21_code 14 = .ok (.lload_n 2, 1) := by decide +kernel
theorem d_Md_mayTell_15 : decode prog_8_method_21_code 15 = .ok (.aload_n 0, 1) := by decide +kernel
theorem d_Md_mayTell_16 : decode prog_8_method_21_code 16 = .ok (.getfield 29, 3) := by decide +kernel
theorem d_Md_mayTell_19 : decode prog_8_method_21_code 19 = .ok (.iload_n 1, 1) := by decide +kernel
theorem d_Md_mayTell_20 : decode prog_8_method_21_code 20 = .ok (.laload, 1) := by decide +kernel
theorem d_Md_mayTell_21 : decode prog_8_method_21_code 21 = .ok (.lcmp, 1) := by decide +kernel
theorem d_Md_mayTell_22 : decode prog_8_method_21_code 22 = .ok (.ifCond .lt 7, 3) := by decide +kernel
theorem d_Md_mayTell_25 : decode prog_8_method_21_code 25 = .ok (.iconst 1, 1) := by decide +kernel
theorem d_Md_mayTell_26 : decode prog_8_method_21_code 26 = .ok (.goto 4, 3) := by decide +kernel
theorem d_Md_mayTell_29 : decode prog_8_method_21_code 29 = .ok (.iconst 0, 1) := by decide +kernel
theorem d_Md_mayTell_30 : decode prog_8_method_21_code 30 = .ok (.ireturn, 1) := by decide +kernel
-- PlayStatesModel.mayTell(IJ)Z 
def ws_Md_mayTell (G : gG) (a_t a_t_truth a_t_entries a_t_marked a_t_present a_t_helped a_t_counted a_t_runs a_t_whose a_t_where a_t_what a_t_before a_t_behind a_t_isOn a_t_tryEntries a_t_tryMarks a_t_text a_t_told : Nat)  (x_t_thrown : Int32) (x_t_places : Int32) (x_t_persons : Int32) (x_t_many : Int32) (x_t_size : Int32) (x_t_at : Int32) (x_t_sought : Int32) (x_t_found : Int32) (x_t_told : Nat → Int64) : va_W := [(a_t, .inr (6, [.int x_t_thrown, .int x_t_places, .int x_t_persons, .ref a_t_truth, .ref a_t_entries, .ref a_t_marked, .ref a_t_present, .ref a_t_helped, .ref a_t_counted, .ref a_t_told, .ref a_t_runs, .int x_t_many, .ref a_t_whose, .ref a_t_where, .ref a_t_what, .ref a_t_before, .ref a_t_behind, .ref a_t_isOn, .ref a_t_tryEntries, .ref a_t_tryMarks, .int x_t_size, .ref a_t_text, .int x_t_at, .int x_t_sought, .int x_t_found])), (a_t_told, .inl (G.2 2, 8, .inr (.inl x_t_told)))]
def f_Md_mayTell  (p0 : Int32) (p1 : Int64) (x_t_thrown : Int32) (x_t_places : Int32) (x_t_persons : Int32) (x_t_many : Int32) (x_t_size : Int32) (x_t_at : Int32) (x_t_sought : Int32) (x_t_found : Int32) (x_t_told : Nat → Int64) : Option (Int32) :=
  ((f_Md_isPerson p0 x_t_thrown x_t_places x_t_persons x_t_many x_t_size x_t_at x_t_sought x_t_found).bind fun y1 => (if y1 = 0 then some (0 : Int32) else (if (lg_cmp p1 (0 : Int64)) < 0 then some (0 : Int32) else (if inB p0 8 then (if (lg_cmp p1 (x_t_told p0.toNatClampNeg)) < 0 then some (0 : Int32) else some (1 : Int32)) else none))))
set_option maxHeartbeats 4000000 in
set_option maxRecDepth 100000 in
theorem c_Md_mayTell (l : Launch) (G : gG) (sz : Nat) (a_t a_t_truth a_t_entries a_t_marked a_t_present a_t_helped a_t_counted a_t_runs a_t_whose a_t_where a_t_what a_t_before a_t_behind a_t_isOn a_t_tryEntries a_t_tryMarks a_t_text a_t_told : Nat)  (p0 : Int32) (p1 : Int64) (x_t_thrown : Int32) (x_t_places : Int32) (x_t_persons : Int32) (x_t_many : Int32) (x_t_size : Int32) (x_t_at : Int32) (x_t_sought : Int32) (x_t_found : Int32) (x_t_told : Nat → Int64) (r : Int32) (h : f_Md_mayTell p0 p1 x_t_thrown x_t_places x_t_persons x_t_many x_t_size x_t_at x_t_sought x_t_found x_t_told = some r)  : cN l y_Md_mayTell w_Md_mayTell { frames := 1, cells := 0, slots := 0, locals := 21 } G sz [.ref a_t, .int p0, .long p1] (ws_Md_mayTell G a_t a_t_truth a_t_entries a_t_marked a_t_present a_t_helped a_t_counted a_t_runs a_t_whose a_t_where a_t_what a_t_before a_t_behind a_t_isOn a_t_tryEntries a_t_tryMarks a_t_text a_t_told x_t_thrown x_t_places x_t_persons x_t_many x_t_size x_t_at x_t_sought x_t_found x_t_told) (some (.int r)) (wB G (ws_Md_mayTell G a_t a_t_truth a_t_entries a_t_marked a_t_present a_t_helped a_t_counted a_t_runs a_t_whose a_t_where a_t_what a_t_before a_t_behind a_t_isOn a_t_tryEntries a_t_tryMarks a_t_text a_t_told x_t_thrown x_t_places x_t_persons x_t_many x_t_size x_t_at x_t_sought x_t_found x_t_told)) 0 0 := by
  refine cN_ofW (cc := prog_8_method_21_code) (maxL := 4) (ret := (some .boolean)) (by decide) rfl (Nat.le_of_ble_eq_true rfl) ?_
  intro p e s m args below meth c A H locs ls hx hb hr hts hown hlocks hin hml hK hN hP hD hA hS hl
  replace hl : lv_has ls 4 [(0, .ref a_t), (1, .int p0), (2, .long p1)] := hl
  replace hown : s.vm.findClass "PlayStatesModel" = some m.cls := hown
  unfold f_Md_mayTell at h
  refine lv_aload_n hx hb d_Md_mayTell_0 rfl (lv_at hl 0 rfl) ?_
  refine lv_iload_n hx hb d_Md_mayTell_1 rfl (lv_at hl 1 rfl) ?_
  obtain ⟨y1, hy1, h⟩ := o_bind h
  have hPc := hP.sub (ws' := (ws_Md_isPerson G a_t a_t_truth a_t_entries a_t_marked a_t_present a_t_helped a_t_counted a_t_told a_t_runs a_t_whose a_t_where a_t_what a_t_before a_t_behind a_t_isOn a_t_tryEntries a_t_tryMarks a_t_text x_t_thrown x_t_places x_t_persons x_t_many x_t_size x_t_at x_t_sought x_t_found)) [0] rfl
  have hDc := hD.sub (ws' := (ws_Md_isPerson G a_t a_t_truth a_t_entries a_t_marked a_t_present a_t_helped a_t_counted a_t_told a_t_runs a_t_whose a_t_where a_t_what a_t_before a_t_behind a_t_isOn a_t_tryEntries a_t_tryMarks a_t_text x_t_thrown x_t_places x_t_persons x_t_many x_t_size x_t_at x_t_sought x_t_found)) [0] (by decide) rfl
  have hFc := va_free (wc := (ws_Md_isPerson G a_t a_t_truth a_t_entries a_t_marked a_t_present a_t_helped a_t_counted a_t_told a_t_runs a_t_whose a_t_where a_t_what a_t_before a_t_behind a_t_isOn a_t_tryEntries a_t_tryMarks a_t_text x_t_thrown x_t_places x_t_persons x_t_many x_t_size x_t_at x_t_sought x_t_found)) hD hS hA [0] rfl
  refine q_call1 (va_runV (As := [.int p0]) (rest := []) ⟨hx, hb, hml, hown, hts⟩ (c_Md_isPerson l G H.size a_t a_t_truth a_t_entries a_t_marked a_t_present a_t_helped a_t_counted a_t_told a_t_runs a_t_whose a_t_where a_t_what a_t_before a_t_behind a_t_isOn a_t_tryEntries a_t_tryMarks a_t_text p0 x_t_thrown x_t_places x_t_persons x_t_many x_t_size x_t_at x_t_sought x_t_found _ hy1) (cwV 1 hts (gV gw_441 gw_442 gw_17 gw_36 gw_443) rfl rfl rfl (by decide +kernel) ⟨Nat.le_of_ble_eq_true rfl, Nat.le_of_ble_eq_true rfl⟩) (pV hK hN hPc hDc (ci := 6) (q0 := 0) rfl rfl) rfl rfl hl.1 rfl (lv_room (Nat.le_of_ble_eq_true rfl)) d_Md_mayTell_2 ⟨Nat.le_of_ble_eq_true rfl, Nat.le_of_ble_eq_true rfl⟩) hS (fun q _ h => hFc q h) hFc (fun H1 locs hB hz hk hS => ?_)
  obtain ⟨hP, hD⟩ := q_join (wr := [(a_t_told, .inl (G.2 2, 8, .inr (.inl x_t_told)))]) (wn := (ws_Md_mayTell G a_t a_t_truth a_t_entries a_t_marked a_t_present a_t_helped a_t_counted a_t_runs a_t_whose a_t_where a_t_what a_t_before a_t_behind a_t_isOn a_t_tryEntries a_t_tryMarks a_t_text a_t_told x_t_thrown x_t_places x_t_persons x_t_many x_t_size x_t_at x_t_sought x_t_found x_t_told)) hP hD [0] [1] [1, 0] rfl rfl (by decide) (by decide) rfl (by decide) hk hFc hB.1 hB.2
  generalize H1 = H at hP hS ⊢
  replace hP : va_P G.1 vwCl (ws_Md_mayTell G a_t a_t_truth a_t_entries a_t_marked a_t_present a_t_helped a_t_counted a_t_runs a_t_whose a_t_where a_t_what a_t_before a_t_behind a_t_isOn a_t_tryEntries a_t_tryMarks a_t_text a_t_told x_t_thrown x_t_places x_t_persons x_t_many x_t_size x_t_at x_t_sought x_t_found x_t_told) H := hP
  replace hD : va_D A (ws_Md_mayTell G a_t a_t_truth a_t_entries a_t_marked a_t_present a_t_helped a_t_counted a_t_runs a_t_whose a_t_where a_t_what a_t_before a_t_behind a_t_isOn a_t_tryEntries a_t_tryMarks a_t_text a_t_told x_t_thrown x_t_places x_t_persons x_t_many x_t_size x_t_at x_t_sought x_t_found x_t_told) := hD
  refine lv_if_eq (tgt := 29) hx hb d_Md_mayTell_5 (by decide) (fun c2 => ?_) (fun c2 => ?_)
  · replace h := (if_pos c2).symm.trans h
    refine lv_iconst (v := (0 : Int32)) hx hb d_Md_mayTell_29 (by decide) ?_
    cases h
    exact q_zretW hx hb hr hlocks (by decide) hP hD hS d_Md_mayTell_30
  · replace h := (if_neg c2).symm.trans h
    refine lv_lload_n hx hb d_Md_mayTell_8 rfl (lv_at hl 2 rfl) ?_
    refine lv_lconst (v := (0 : Int64)) hx hb d_Md_mayTell_9 (by decide) ?_
    refine W.lcmp hx hb d_Md_mayTell_10 ?_
    refine lv_if_lt (tgt := 29) hx hb d_Md_mayTell_11 (by decide) (fun c3 => ?_) (fun c3 => ?_)
    · replace h := (if_pos c3).symm.trans h
      refine lv_iconst (v := (0 : Int32)) hx hb d_Md_mayTell_29 (by decide) ?_
      cases h
      exact q_zretW hx hb hr hlocks (by decide) hP hD hS d_Md_mayTell_30
    · replace h := (if_neg c3).symm.trans h
      refine lv_lload_n hx hb d_Md_mayTell_14 rfl (lv_at hl 2 rfl) ?_
      refine lv_aload_n hx hb d_Md_mayTell_15 rfl (lv_at hl 0 rfl) ?_
      refine va_get (D := G.1) (ci := 6) (v := .ref a_t_told) (C := "PlayStatesModel") (T := TMd) (N := 25) hx hb hts iw_6 hown hK hP 0 rfl rfl 9 (by decide) (hts _ gw_388) (fun _ h9 => h9) rfl d_Md_mayTell_16 ?_
      refine lv_iload_n hx hb d_Md_mayTell_19 rfl (lv_at hl 1 rfl) ?_
      obtain ⟨i4, h⟩ := o_if h
      refine va_lald (n := 8) (f := x_t_told) hx hb hK hP 1 2 rfl rfl i4 d_Md_mayTell_20 ?_
      refine W.lcmp hx hb d_Md_mayTell_21 ?_
      refine lv_if_lt (tgt := 29) hx hb d_Md_mayTell_22 (by decide) (fun c5 => ?_) (fun c5 => ?_)
      · replace h := (if_pos c5).symm.trans h
        refine lv_iconst (v := (0 : Int32)) hx hb d_Md_mayTell_29 (by decide) ?_
        cases h
        exact q_zretW hx hb hr hlocks (by decide) hP hD hS d_Md_mayTell_30
      · replace h := (if_neg c5).symm.trans h
        refine lv_iconst (v := (1 : Int32)) hx hb d_Md_mayTell_25 (by decide) ?_
        refine lv_goto (tgt := 30) hx hb d_Md_mayTell_26 (by decide) ?_
        cases h
        exact q_zretW hx hb hr hlocks (by decide) hP hD hS d_Md_mayTell_30

theorem gw_389 : (.fieldLink "PlayStatesModel" 32 "PlayStatesModel" "runs" "[Z" : Cond) ∈ GW := gT 427 (by decide +kernel) (by decide +kernel)
theorem gw_387 : (.fieldLink "PlayStatesModel" 25 "PlayStatesModel" "counted" "[J" : Cond) ∈ GW := gT 425 (by decide +kernel) (by decide +kernel)
theorem d_Md_countedTo_0 : decode prog_8_method_22_code 0 = .ok (.aload_n 0, 1) := by decide +kernel
theorem d_Md_countedTo_1 : decode prog_8_method_22_code 1 = .ok (.getfield 32, 3) := by decide +kernel
theorem d_Md_countedTo_4 : decode prog_8_method_22_code 4 = .ok (.iload_n 1, 1) := by decide +kernel
theorem d_Md_countedTo_5 : decode prog_8_method_22_code 5 = .ok (.baload, 1) := by decide +kernel
theorem d_Md_countedTo_6 : decode prog_8_method_22_code 6 = .ok (.ifCond .eq 21, 3) := by decide +kernel
theorem d_Md_countedTo_9 : decode prog_8_method_22_code 9 = .ok (.aload_n 0, 1) := by decide +kernel
theorem d_Md_countedTo_10 : decode prog_8_method_22_code 10 = .ok (.getfield 25, 3) := by decide +kernel
theorem d_Md_countedTo_13 : decode prog_8_method_22_code 13 = .ok (.iload_n 1, 1) := by decide +kernel
theorem d_Md_countedTo_14 : decode prog_8_method_22_code 14 = .ok (.laload, 1) := by decide +kernel
theorem d_Md_countedTo_15 : decode prog_8_method_22_code 15 = .ok (.lload_n 2, 1) := by decide +kernel
theorem d_Md_countedTo_16 : decode prog_8_method_22_code 16 = .ok (.ladd, 1) := by decide +kernel
theorem d_Md_countedTo_17 : decode prog_8_method_22_code 17 = .ok (.aload_n 0, 1) := by decide +kernel
theorem d_Md_countedTo_18 : decode prog_8_method_22_code 18 = .ok (.getfield 29, 3) := by decide +kernel
theorem d_Md_countedTo_21 : decode prog_8_method_22_code 21 = .ok (.iload_n 1, 1) := by decide +kernel
theorem d_Md_countedTo_22 : decode prog_8_method_22_code 22 = .ok (.laload, 1) := by decide +kernel
theorem d_Md_countedTo_23 : decode prog_8_method_22_code 23 = .ok (.lsub, 1) := by decide +kernel
theorem d_Md_countedTo_24 : decode prog_8_method_22_code 24 = .ok (.goto 9, 3) := by decide +kernel
theorem d_Md_countedTo_27 : decode prog_8_method_22_code 27 = .ok (.aload_n 0, 1) := by decide +kernel
theorem d_Md_countedTo_28 : decode prog_8_method_22_code 28 = .ok (.getfield 25, 3) := by decide +kernel
theorem d_Md_countedTo_31 : decode prog_8_method_22_code 31 = .ok (.iload_n 1, 1) := by decide +kernel
theorem d_Md_countedTo_32 : decode prog_8_method_22_code 32 = .ok (.laload, 1) := by decide +kernel
theorem d_Md_countedTo_33 : decode prog_8_method_22_code 33 = .ok (.lreturn, 1) := by decide +kernel
-- PlayStatesModel.countedTo(IJ)J 
def ws_Md_countedTo (G : gG) (a_t a_t_truth a_t_entries a_t_marked a_t_present a_t_helped a_t_whose a_t_where a_t_what a_t_before a_t_behind a_t_isOn a_t_tryEntries a_t_tryMarks a_t_text a_t_counted a_t_told a_t_runs : Nat)  (x_t_thrown : Int32) (x_t_places : Int32) (x_t_persons : Int32) (x_t_many : Int32) (x_t_size : Int32) (x_t_at : Int32) (x_t_sought : Int32) (x_t_found : Int32) (x_t_counted : Nat → Int64) (x_t_told : Nat → Int64) (x_t_runs : Nat → Int32) : va_W := [(a_t, .inr (6, [.int x_t_thrown, .int x_t_places, .int x_t_persons, .ref a_t_truth, .ref a_t_entries, .ref a_t_marked, .ref a_t_present, .ref a_t_helped, .ref a_t_counted, .ref a_t_told, .ref a_t_runs, .int x_t_many, .ref a_t_whose, .ref a_t_where, .ref a_t_what, .ref a_t_before, .ref a_t_behind, .ref a_t_isOn, .ref a_t_tryEntries, .ref a_t_tryMarks, .int x_t_size, .ref a_t_text, .int x_t_at, .int x_t_sought, .int x_t_found])), (a_t_counted, .inl (G.2 2, 8, .inr (.inl x_t_counted))), (a_t_told, .inl (G.2 2, 8, .inr (.inl x_t_told))), (a_t_runs, .inl (G.2 1, 8, .inl x_t_runs))]
def f_Md_countedTo  (p0 : Int32) (p1 : Int64) (x_t_thrown : Int32) (x_t_places : Int32) (x_t_persons : Int32) (x_t_many : Int32) (x_t_size : Int32) (x_t_at : Int32) (x_t_sought : Int32) (x_t_found : Int32) (x_t_counted : Nat → Int64) (x_t_told : Nat → Int64) (x_t_runs : Nat → Int32) : Option (Int64) :=
  (if inB p0 8 then (if (x_t_runs p0.toNatClampNeg) = 0 then (if inB p0 8 then some (x_t_counted p0.toNatClampNeg) else none) else (if inB p0 8 then (if inB p0 8 then some (((x_t_counted p0.toNatClampNeg) + p1) - (x_t_told p0.toNatClampNeg)) else none) else none)) else none)
set_option maxHeartbeats 4000000 in
set_option maxRecDepth 100000 in
theorem c_Md_countedTo (l : Launch) (G : gG) (sz : Nat) (a_t a_t_truth a_t_entries a_t_marked a_t_present a_t_helped a_t_whose a_t_where a_t_what a_t_before a_t_behind a_t_isOn a_t_tryEntries a_t_tryMarks a_t_text a_t_counted a_t_told a_t_runs : Nat)  (p0 : Int32) (p1 : Int64) (x_t_thrown : Int32) (x_t_places : Int32) (x_t_persons : Int32) (x_t_many : Int32) (x_t_size : Int32) (x_t_at : Int32) (x_t_sought : Int32) (x_t_found : Int32) (x_t_counted : Nat → Int64) (x_t_told : Nat → Int64) (x_t_runs : Nat → Int32) (r : Int64) (h : f_Md_countedTo p0 p1 x_t_thrown x_t_places x_t_persons x_t_many x_t_size x_t_at x_t_sought x_t_found x_t_counted x_t_told x_t_runs = some r)  : cN l y_Md_countedTo w_Md_countedTo { frames := 0, cells := 0, slots := 0, locals := 0 } G sz [.ref a_t, .int p0, .long p1] (ws_Md_countedTo G a_t a_t_truth a_t_entries a_t_marked a_t_present a_t_helped a_t_whose a_t_where a_t_what a_t_before a_t_behind a_t_isOn a_t_tryEntries a_t_tryMarks a_t_text a_t_counted a_t_told a_t_runs x_t_thrown x_t_places x_t_persons x_t_many x_t_size x_t_at x_t_sought x_t_found x_t_counted x_t_told x_t_runs) (some (.long r)) (wB G (ws_Md_countedTo G a_t a_t_truth a_t_entries a_t_marked a_t_present a_t_helped a_t_whose a_t_where a_t_what a_t_before a_t_behind a_t_isOn a_t_tryEntries a_t_tryMarks a_t_text a_t_counted a_t_told a_t_runs x_t_thrown x_t_places x_t_persons x_t_many x_t_size x_t_at x_t_sought x_t_found x_t_counted x_t_told x_t_runs)) 0 0 := by
  refine cN_ofW (cc := prog_8_method_22_code) (maxL := 4) (ret := (some .long)) (by decide) rfl (Nat.le_of_ble_eq_true rfl) ?_
  intro p e s m args below meth c A H locs ls hx hb hr hts hown hlocks hin hml hK hN hP hD hA hS hl
  replace hl : lv_has ls 4 [(0, .ref a_t), (1, .int p0), (2, .long p1)] := hl
  replace hown : s.vm.findClass "PlayStatesModel" = some m.cls := hown
  unfold f_Md_countedTo at h
  refine lv_aload_n hx hb d_Md_countedTo_0 rfl (lv_at hl 0 rfl) ?_
  refine va_get (D := G.1) (ci := 6) (v := .ref a_t_runs) (C := "PlayStatesModel") (T := TMd) (N := 25) hx hb hts iw_6 hown hK hP 0 rfl rfl 10 (by decide) (hts _ gw_389) (fun _ h9 => h9) rfl d_Md_countedTo_1 ?_
  refine lv_iload_n hx hb d_Md_countedTo_4 rfl (lv_at hl 1 rfl) ?_
  obtain ⟨i1, h⟩ := o_if h
  refine va_zald (n := 8) (f := x_t_runs) hx hb hK hP 3 1 rfl rfl i1 d_Md_countedTo_5 ?_
  refine lv_if_eq (tgt := 27) hx hb d_Md_countedTo_6 (by decide) (fun c2 => ?_) (fun c2 => ?_)
  · replace h := (if_pos c2).symm.trans h
    refine lv_aload_n hx hb d_Md_countedTo_27 rfl (lv_at hl 0 rfl) ?_
    refine va_get (D := G.1) (ci := 6) (v := .ref a_t_counted) (C := "PlayStatesModel") (T := TMd) (N := 25) hx hb hts iw_6 hown hK hP 0 rfl rfl 8 (by decide) (hts _ gw_387) (fun _ h9 => h9) rfl d_Md_countedTo_28 ?_
    refine lv_iload_n hx hb d_Md_countedTo_31 rfl (lv_at hl 1 rfl) ?_
    obtain ⟨i3, h⟩ := o_if h
    refine va_lald (n := 8) (f := x_t_counted) hx hb hK hP 1 2 rfl rfl i3 d_Md_countedTo_32 ?_
    cases h
    exact q_lretW hx hb hr hlocks hP hD hS d_Md_countedTo_33
  · replace h := (if_neg c2).symm.trans h
    refine lv_aload_n hx hb d_Md_countedTo_9 rfl (lv_at hl 0 rfl) ?_
    refine va_get (D := G.1) (ci := 6) (v := .ref a_t_counted) (C := "PlayStatesModel") (T := TMd) (N := 25) hx hb hts iw_6 hown hK hP 0 rfl rfl 8 (by decide) (hts _ gw_387) (fun _ h9 => h9) rfl d_Md_countedTo_10 ?_
    refine lv_iload_n hx hb d_Md_countedTo_13 rfl (lv_at hl 1 rfl) ?_
    obtain ⟨i4, h⟩ := o_if h
    refine va_lald (n := 8) (f := x_t_counted) hx hb hK hP 1 2 rfl rfl i4 d_Md_countedTo_14 ?_
    refine lv_lload_n hx hb d_Md_countedTo_15 rfl (lv_at hl 2 rfl) ?_
    refine lv_ladd hx hb d_Md_countedTo_16 ?_
    refine lv_aload_n hx hb d_Md_countedTo_17 rfl (lv_at hl 0 rfl) ?_
    refine va_get (D := G.1) (ci := 6) (v := .ref a_t_told) (C := "PlayStatesModel") (T := TMd) (N := 25) hx hb hts iw_6 hown hK hP 0 rfl rfl 9 (by decide) (hts _ gw_388) (fun _ h9 => h9) rfl d_Md_countedTo_18 ?_
    refine lv_iload_n hx hb d_Md_countedTo_21 rfl (lv_at hl 1 rfl) ?_
    obtain ⟨i5, h⟩ := o_if h
    refine va_lald (n := 8) (f := x_t_told) hx hb hK hP 2 2 rfl rfl i5 d_Md_countedTo_22 ?_
    refine lv_lsub hx hb d_Md_countedTo_23 ?_
    refine lv_goto (tgt := 33) hx hb d_Md_countedTo_24 (by decide) ?_
    cases h
    exact q_lretW hx hb hr hlocks hP hD hS d_Md_countedTo_33

theorem gw_502 : (.code ⟨"PlayStatesModel", "mayTell", "(IJ)Z"⟩ prog_8_method_21_code 4 (some .boolean) : Cond) ∈ GW := gT 573 (by decide +kernel) (by decide +kernel)
theorem gw_500 : (.methodLink "PlayStatesModel" 101 ⟨"PlayStatesModel", "mayTell", "(IJ)Z"⟩ : Cond) ∈ GW := gT 570 (by decide +kernel) (by decide +kernel)
theorem gw_501 : (.instanceMethod ⟨"PlayStatesModel", "mayTell", "(IJ)Z"⟩ : Cond) ∈ GW := gT 572 (by decide +kernel) (by decide +kernel)
theorem gw_22 : (.selects "PlayStatesModel" ⟨"PlayStatesModel", "mayTell", "(IJ)Z"⟩ ⟨"PlayStatesModel", "mayTell", "(IJ)Z"⟩ : Cond) ∈ GW := gP 22 (by decide +kernel) (by decide +kernel)
theorem gw_505 : (.code ⟨"PlayStatesModel", "countedTo", "(IJ)J"⟩ prog_8_method_22_code 4 (some .long) : Cond) ∈ GW := gT 577 (by decide +kernel) (by decide +kernel)
theorem gw_503 : (.methodLink "PlayStatesModel" 105 ⟨"PlayStatesModel", "countedTo", "(IJ)J"⟩ : Cond) ∈ GW := gT 574 (by decide +kernel) (by decide +kernel)
theorem gw_504 : (.instanceMethod ⟨"PlayStatesModel", "countedTo", "(IJ)J"⟩ : Cond) ∈ GW := gT 576 (by decide +kernel) (by decide +kernel)
theorem gw_23 : (.selects "PlayStatesModel" ⟨"PlayStatesModel", "countedTo", "(IJ)J"⟩ ⟨"PlayStatesModel", "countedTo", "(IJ)J"⟩ : Cond) ∈ GW := gP 23 (by decide +kernel) (by decide +kernel)
theorem d_Md_timer_0 : decode prog_8_method_23_code 0 = .ok (.aload_n 0, 1) := by decide +kernel
theorem d_Md_timer_1 : decode prog_8_method_23_code 1 = .ok (.iconst 0, 1) := by decide +kernel
theorem d_Md_timer_2 : decode prog_8_method_23_code 2 = .ok (.putfield 69, 3) := by decide +kernel
theorem d_Md_timer_5 : decode prog_8_method_23_code 5 = .ok (.aload_n 0, 1) := by decide +kernel
theorem d_Md_timer_6 : decode prog_8_method_23_code 6 = .ok (.iload_n 1, 1) := by decide +kernel
theorem d_Md_timer_7 : decode prog_8_method_23_code 7 = .ok (.invokevirtual 86, 3) := by decide +kernel
theorem d_Md_timer_10 : decode prog_8_method_23_code 10 = .ok (.ifCond .eq 24, 3) := by decide +kernel
theorem d_Md_timer_13 : decode prog_8_method_23_code 13 = .ok (.aload_n 0, 1) := by decide +kernel
theorem d_Md_timer_14 : decode prog_8_method_23_code 14 = .ok (.aload_n 0, 1) := by decide +kernel
theorem d_Md_timer_15 : decode prog_8_method_23_code 15 = .ok (.iload_n 1, 1) := by decide +kernel
theorem d_Md_timer_16 : decode prog_8_method_23_code 16 = .ok (.invokevirtual 86, 3) := by decide +kernel
theorem d_Md_timer_19 : decode prog_8_method_23_code 19 = .ok (.ifCond .eq 7, 3) := by decide +kernel
theorem d_Md_timer_22 : decode prog_8_method_23_code 22 = .ok (.iload_n 1, 1) := by decide +kernel
theorem d_Md_timer_23 : decode prog_8_method_23_code 23 = .ok (.goto 4, 3) := by decide +kernel
theorem d_Md_timer_26 : decode prog_8_method_23_code 26 = .ok (.iconst 0, 1) := by decide +kernel
theorem d_Md_timer_27 : decode prog_8_method_23_code 27 = .ok (.lload_n 2, 1) := by decide +kernel
theorem d_Md_timer_28 : decode prog_8_method_23_code 28 = .ok (.invokevirtual 101, 3) := by decide +kernel
theorem d_Md_timer_31 : decode prog_8_method_23_code 31 = .ok (.ifCond .ne 5, 3) := by decide +kernel
theorem d_Md_timer_34 : decode prog_8_method_23_code 34 = .ok (.iconst 0, 1) := by decide +kernel
theorem d_Md_timer_35 : decode prog_8_method_23_code 35 = .ok (.ireturn, 1) := by decide +kernel
theorem d_Md_timer_36 : decode prog_8_method_23_code 36 = .ok (.aload_n 0, 1) := by decide +kernel
theorem d_Md_timer_37 : decode prog_8_method_23_code 37 = .ok (.getfield 25, 3) := by decide +kernel
theorem d_Md_timer_40 : decode prog_8_method_23_code 40 = .ok (.iload_n 1, 1) := by decide +kernel
theorem d_Md_timer_41 : decode prog_8_method_23_code 41 = .ok (.aload_n 0, 1) := by decide +kernel
theorem d_Md_timer_42 : decode prog_8_method_23_code 42 = .ok (.iload_n 1, 1) := by decide +kernel
theorem d_Md_timer_43 : decode prog_8_method_23_code 43 = .ok (.lload_n 2, 1) := by decide +kernel
theorem d_Md_timer_44 : decode prog_8_method_23_code 44 = .ok (.invokevirtual 105, 3) := by decide +kernel
theorem d_Md_timer_47 : decode prog_8_method_23_code 47 = .ok (.lastore, 1) := by decide +kernel
theorem d_Md_timer_48 : decode prog_8_method_23_code 48 = .ok (.aload_n 0, 1) := by decide +kernel
theorem d_Md_timer_49 : decode prog_8_method_23_code 49 = .ok (.getfield 29, 3) := by decide +kernel
theorem d_Md_timer_52 : decode prog_8_method_23_code 52 = .ok (.iload_n 1, 1) := by decide +kernel
theorem d_Md_timer_53 : decode prog_8_method_23_code 53 = .ok (.lload_n 2, 1) := by decide +kernel
theorem d_Md_timer_54 : decode prog_8_method_23_code 54 = .ok (.lastore, 1) := by decide +kernel
theorem d_Md_timer_55 : decode prog_8_method_23_code 55 = .ok (.aload_n 0, 1) := by decide +kernel
theorem d_Md_timer_56 : decode prog_8_method_23_code 56 = .ok (.getfield 32, 3) := by decide +kernel
theorem d_Md_timer_59 : decode prog_8_method_23_code 59 = .ok (.iload_n 1, 1) := by decide +kernel
theorem d_Md_timer_60 : decode prog_8_method_23_code 60 = .ok (.iload 4, 2) := by decide +kernel
theorem d_Md_timer_62 : decode prog_8_method_23_code 62 = .ok (.bastore, 1) := by decide +kernel
theorem d_Md_timer_63 : decode prog_8_method_23_code 63 = .ok (.iconst 1, 1) := by decide +kernel
theorem d_Md_timer_64 : decode prog_8_method_23_code 64 = .ok (.ireturn, 1) := by decide +kernel
-- PlayStatesModel.timer(IJZ)Z 
def ws_Md_timer (G : gG) (a_t a_t_truth a_t_entries a_t_marked a_t_present a_t_helped a_t_whose a_t_where a_t_what a_t_before a_t_behind a_t_isOn a_t_tryEntries a_t_tryMarks a_t_text a_t_counted a_t_told a_t_runs : Nat)  (x_t_thrown : Int32) (x_t_places : Int32) (x_t_persons : Int32) (x_t_many : Int32) (x_t_size : Int32) (x_t_at : Int32) (x_t_sought : Int32) (x_t_found : Int32) (x_t_counted : Nat → Int64) (x_t_told : Nat → Int64) (x_t_runs : Nat → Int32) : va_W := [(a_t, .inr (6, [.int x_t_thrown, .int x_t_places, .int x_t_persons, .ref a_t_truth, .ref a_t_entries, .ref a_t_marked, .ref a_t_present, .ref a_t_helped, .ref a_t_counted, .ref a_t_told, .ref a_t_runs, .int x_t_many, .ref a_t_whose, .ref a_t_where, .ref a_t_what, .ref a_t_before, .ref a_t_behind, .ref a_t_isOn, .ref a_t_tryEntries, .ref a_t_tryMarks, .int x_t_size, .ref a_t_text, .int x_t_at, .int x_t_sought, .int x_t_found])), (a_t_counted, .inl (G.2 2, 8, .inr (.inl x_t_counted))), (a_t_told, .inl (G.2 2, 8, .inr (.inl x_t_told))), (a_t_runs, .inl (G.2 1, 8, .inl x_t_runs))]
def f_Md_timer  (p0 : Int32) (p1 : Int64) (p2 : Int32) (x_t_thrown : Int32) (x_t_places : Int32) (x_t_persons : Int32) (x_t_many : Int32) (x_t_size : Int32) (x_t_at : Int32) (x_t_sought : Int32) (x_t_found : Int32) (x_t_counted : Nat → Int64) (x_t_told : Nat → Int64) (x_t_runs : Nat → Int32) : Option (Int32 × Int32 × (Nat → Int64) × (Nat → Int64) × (Nat → Int32)) :=
  ((f_Md_isPerson p0 (0 : Int32) x_t_places x_t_persons x_t_many x_t_size x_t_at x_t_sought x_t_found).bind fun y1 => (if y1 = 0 then some ((0 : Int32), (0 : Int32), x_t_counted, x_t_told, x_t_runs) else ((f_Md_isPerson p0 (0 : Int32) x_t_places x_t_persons x_t_many x_t_size x_t_at x_t_sought x_t_found).bind fun y3 => (if y3 = 0 then ((f_Md_mayTell (0 : Int32) p1 (0 : Int32) x_t_places x_t_persons x_t_many x_t_size x_t_at x_t_sought x_t_found x_t_told).bind fun y5 => (if y5 = 0 then some ((0 : Int32), (0 : Int32), x_t_counted, x_t_told, x_t_runs) else ((f_Md_countedTo p0 p1 (0 : Int32) x_t_places x_t_persons x_t_many x_t_size x_t_at x_t_sought x_t_found x_t_counted x_t_told x_t_runs).bind fun y7 => (if inB p0 8 then (if inB p0 8 then (if inB p0 8 then some ((1 : Int32), (0 : Int32), (vp_updL x_t_counted p0.toNatClampNeg y7), (vp_updL x_t_told p0.toNatClampNeg p1), (upd x_t_runs p0.toNatClampNeg (vp_nar .boolean p2))) else none) else none) else none)))) else ((f_Md_mayTell p0 p1 (0 : Int32) x_t_places x_t_persons x_t_many x_t_size x_t_at x_t_sought x_t_found x_t_told).bind fun y11 => (if y11 = 0 then some ((0 : Int32), (0 : Int32), x_t_counted, x_t_told, x_t_runs) else ((f_Md_countedTo p0 p1 (0 : Int32) x_t_places x_t_persons x_t_many x_t_size x_t_at x_t_sought x_t_found x_t_counted x_t_told x_t_runs).bind fun y13 => (if inB p0 8 then (if inB p0 8 then (if inB p0 8 then some ((1 : Int32), (0 : Int32), (vp_updL x_t_counted p0.toNatClampNeg y13), (vp_updL x_t_told p0.toNatClampNeg p1), (upd x_t_runs p0.toNatClampNeg (vp_nar .boolean p2))) else none) else none) else none))))))))
set_option maxHeartbeats 4000000 in
set_option maxRecDepth 100000 in
theorem c_Md_timer (l : Launch) (G : gG) (sz : Nat) (a_t a_t_truth a_t_entries a_t_marked a_t_present a_t_helped a_t_whose a_t_where a_t_what a_t_before a_t_behind a_t_isOn a_t_tryEntries a_t_tryMarks a_t_text a_t_counted a_t_told a_t_runs : Nat)  (p0 : Int32) (p1 : Int64) (p2 : Int32) (x_t_thrown : Int32) (x_t_places : Int32) (x_t_persons : Int32) (x_t_many : Int32) (x_t_size : Int32) (x_t_at : Int32) (x_t_sought : Int32) (x_t_found : Int32) (x_t_counted : Nat → Int64) (x_t_told : Nat → Int64) (x_t_runs : Nat → Int32) (r : Int32) (x_t_thrown' : Int32) (x_t_counted' : Nat → Int64) (x_t_told' : Nat → Int64) (x_t_runs' : Nat → Int32) (h : f_Md_timer p0 p1 p2 x_t_thrown x_t_places x_t_persons x_t_many x_t_size x_t_at x_t_sought x_t_found x_t_counted x_t_told x_t_runs = some (r, x_t_thrown', x_t_counted', x_t_told', x_t_runs'))  : cN l y_Md_timer w_Md_timer { frames := 2, cells := 0, slots := 0, locals := 44 } G sz [.ref a_t, .int p0, .long p1, .int p2] (ws_Md_timer G a_t a_t_truth a_t_entries a_t_marked a_t_present a_t_helped a_t_whose a_t_where a_t_what a_t_before a_t_behind a_t_isOn a_t_tryEntries a_t_tryMarks a_t_text a_t_counted a_t_told a_t_runs x_t_thrown x_t_places x_t_persons x_t_many x_t_size x_t_at x_t_sought x_t_found x_t_counted x_t_told x_t_runs) (some (.int r)) (wB G (ws_Md_timer G a_t a_t_truth a_t_entries a_t_marked a_t_present a_t_helped a_t_whose a_t_where a_t_what a_t_before a_t_behind a_t_isOn a_t_tryEntries a_t_tryMarks a_t_text a_t_counted a_t_told a_t_runs x_t_thrown' x_t_places x_t_persons x_t_many x_t_size x_t_at x_t_sought x_t_found x_t_counted' x_t_told' x_t_runs')) 0 0 := by
  refine cN_ofW (cc := prog_8_method_23_code) (maxL := 5) (ret := (some .boolean)) (by decide) rfl (Nat.le_of_ble_eq_true rfl) ?_
  intro p e s m args below meth c A H locs ls hx hb hr hts hown hlocks hin hml hK hN hP hD hA hS hl
  replace hl : lv_has ls 5 [(0, .ref a_t), (1, .int p0), (2, .long p1), (4, .int p2)] := hl
  replace hown : s.vm.findClass "PlayStatesModel" = some m.cls := hown
  unfold f_Md_timer at h
  refine lv_aload_n hx hb d_Md_timer_0 rfl (lv_at hl 0 rfl) ?_
  refine lv_iconst (v := (0 : Int32)) hx hb d_Md_timer_1 (by decide) ?_
  refine va_put (D := G.1) (ci := 6) (v := .int (0 : Int32)) (ty := .int) (C := "PlayStatesModel") (T := TMd) (N := 25) hx hb hts iw_6 tyMd tyMd_ok nmMd hown hK hP hD hS 0 rfl rfl 0 (by decide) (hts _ gw_379) (fun _ h9 => h9) rfl (by decide +kernel) (by rfl) (by rfl) (Nat.le_of_ble_eq_true rfl) d_Md_timer_2 (fun H locs hP hD hS => ?_)
  replace hP : va_P G.1 vwCl (ws_Md_timer G a_t a_t_truth a_t_entries a_t_marked a_t_present a_t_helped a_t_whose a_t_where a_t_what a_t_before a_t_behind a_t_isOn a_t_tryEntries a_t_tryMarks a_t_text a_t_counted a_t_told a_t_runs (0 : Int32) x_t_places x_t_persons x_t_many x_t_size x_t_at x_t_sought x_t_found x_t_counted x_t_told x_t_runs) H := hP
  replace hD : va_D A (ws_Md_timer G a_t a_t_truth a_t_entries a_t_marked a_t_present a_t_helped a_t_whose a_t_where a_t_what a_t_before a_t_behind a_t_isOn a_t_tryEntries a_t_tryMarks a_t_text a_t_counted a_t_told a_t_runs (0 : Int32) x_t_places x_t_persons x_t_many x_t_size x_t_at x_t_sought x_t_found x_t_counted x_t_told x_t_runs) := hD
  refine lv_aload_n hx hb d_Md_timer_5 rfl (lv_at hl 0 rfl) ?_
  refine lv_iload_n hx hb d_Md_timer_6 rfl (lv_at hl 1 rfl) ?_
  obtain ⟨y1, hy1, h⟩ := o_bind h
  have hPc := hP.sub (ws' := (ws_Md_isPerson G a_t a_t_truth a_t_entries a_t_marked a_t_present a_t_helped a_t_counted a_t_told a_t_runs a_t_whose a_t_where a_t_what a_t_before a_t_behind a_t_isOn a_t_tryEntries a_t_tryMarks a_t_text (0 : Int32) x_t_places x_t_persons x_t_many x_t_size x_t_at x_t_sought x_t_found)) [0] rfl
  have hDc := hD.sub (ws' := (ws_Md_isPerson G a_t a_t_truth a_t_entries a_t_marked a_t_present a_t_helped a_t_counted a_t_told a_t_runs a_t_whose a_t_where a_t_what a_t_before a_t_behind a_t_isOn a_t_tryEntries a_t_tryMarks a_t_text (0 : Int32) x_t_places x_t_persons x_t_many x_t_size x_t_at x_t_sought x_t_found)) [0] (by decide) rfl
  have hFc := va_free (wc := (ws_Md_isPerson G a_t a_t_truth a_t_entries a_t_marked a_t_present a_t_helped a_t_counted a_t_told a_t_runs a_t_whose a_t_where a_t_what a_t_before a_t_behind a_t_isOn a_t_tryEntries a_t_tryMarks a_t_text (0 : Int32) x_t_places x_t_persons x_t_many x_t_size x_t_at x_t_sought x_t_found)) hD hS hA [0] rfl
  refine q_call1 (va_runV (As := [.int p0]) (rest := []) ⟨hx, hb, hml, hown, hts⟩ (c_Md_isPerson l G H.size a_t a_t_truth a_t_entries a_t_marked a_t_present a_t_helped a_t_counted a_t_told a_t_runs a_t_whose a_t_where a_t_what a_t_before a_t_behind a_t_isOn a_t_tryEntries a_t_tryMarks a_t_text p0 (0 : Int32) x_t_places x_t_persons x_t_many x_t_size x_t_at x_t_sought x_t_found _ hy1) (cwV 1 hts (gV gw_441 gw_442 gw_17 gw_36 gw_443) rfl rfl rfl (by decide +kernel) ⟨Nat.le_of_ble_eq_true rfl, Nat.le_of_ble_eq_true rfl⟩) (pV hK hN hPc hDc (ci := 6) (q0 := 0) rfl rfl) rfl rfl hl.1 rfl (lv_room (Nat.le_of_ble_eq_true rfl)) d_Md_timer_7 ⟨Nat.le_of_ble_eq_true rfl, Nat.le_of_ble_eq_true rfl⟩) hS (fun q _ h => hFc q h) hFc (fun H1 locs hB hz hk hS => ?_)
  obtain ⟨hP, hD⟩ := q_join (wr := [(a_t_counted, .inl (G.2 2, 8, .inr (.inl x_t_counted))), (a_t_told, .inl (G.2 2, 8, .inr (.inl x_t_told))), (a_t_runs, .inl (G.2 1, 8, .inl x_t_runs))]) (wn := (ws_Md_timer G a_t a_t_truth a_t_entries a_t_marked a_t_present a_t_helped a_t_whose a_t_where a_t_what a_t_before a_t_behind a_t_isOn a_t_tryEntries a_t_tryMarks a_t_text a_t_counted a_t_told a_t_runs (0 : Int32) x_t_places x_t_persons x_t_many x_t_size x_t_at x_t_sought x_t_found x_t_counted x_t_told x_t_runs)) hP hD [0] [1, 2, 3] [3, 0, 1, 2] rfl rfl (by decide) (by decide) rfl (by decide) hk hFc hB.1 hB.2
  generalize H1 = H at hP hS ⊢
  replace hP : va_P G.1 vwCl (ws_Md_timer G a_t a_t_truth a_t_entries a_t_marked a_t_present a_t_helped a_t_whose a_t_where a_t_what a_t_before a_t_behind a_t_isOn a_t_tryEntries a_t_tryMarks a_t_text a_t_counted a_t_told a_t_runs (0 : Int32) x_t_places x_t_persons x_t_many x_t_size x_t_at x_t_sought x_t_found x_t_counted x_t_told x_t_runs) H := hP
  replace hD : va_D A (ws_Md_timer G a_t a_t_truth a_t_entries a_t_marked a_t_present a_t_helped a_t_whose a_t_where a_t_what a_t_before a_t_behind a_t_isOn a_t_tryEntries a_t_tryMarks a_t_text a_t_counted a_t_told a_t_runs (0 : Int32) x_t_places x_t_persons x_t_many x_t_size x_t_at x_t_sought x_t_found x_t_counted x_t_told x_t_runs) := hD
  refine lv_if_eq (tgt := 34) hx hb d_Md_timer_10 (by decide) (fun c2 => ?_) (fun c2 => ?_)
  · replace h := (if_pos c2).symm.trans h
    refine lv_iconst (v := (0 : Int32)) hx hb d_Md_timer_34 (by decide) ?_
    cases h
    exact q_zretW hx hb hr hlocks (by decide) hP hD hS d_Md_timer_35
  · replace h := (if_neg c2).symm.trans h
    refine lv_aload_n hx hb d_Md_timer_13 rfl (lv_at hl 0 rfl) ?_
    refine lv_aload_n hx hb d_Md_timer_14 rfl (lv_at hl 0 rfl) ?_
    refine lv_iload_n hx hb d_Md_timer_15 rfl (lv_at hl 1 rfl) ?_
    obtain ⟨y3, hy3, h⟩ := o_bind h
    have hPc := hP.sub (ws' := (ws_Md_isPerson G a_t a_t_truth a_t_entries a_t_marked a_t_present a_t_helped a_t_counted a_t_told a_t_runs a_t_whose a_t_where a_t_what a_t_before a_t_behind a_t_isOn a_t_tryEntries a_t_tryMarks a_t_text (0 : Int32) x_t_places x_t_persons x_t_many x_t_size x_t_at x_t_sought x_t_found)) [0] rfl
    have hDc := hD.sub (ws' := (ws_Md_isPerson G a_t a_t_truth a_t_entries a_t_marked a_t_present a_t_helped a_t_counted a_t_told a_t_runs a_t_whose a_t_where a_t_what a_t_before a_t_behind a_t_isOn a_t_tryEntries a_t_tryMarks a_t_text (0 : Int32) x_t_places x_t_persons x_t_many x_t_size x_t_at x_t_sought x_t_found)) [0] (by decide) rfl
    have hFc := va_free (wc := (ws_Md_isPerson G a_t a_t_truth a_t_entries a_t_marked a_t_present a_t_helped a_t_counted a_t_told a_t_runs a_t_whose a_t_where a_t_what a_t_before a_t_behind a_t_isOn a_t_tryEntries a_t_tryMarks a_t_text (0 : Int32) x_t_places x_t_persons x_t_many x_t_size x_t_at x_t_sought x_t_found)) hD hS hA [0] rfl
    refine q_call1 (va_runV (As := [.int p0]) (rest := [.ref a_t]) ⟨hx, hb, hml, hown, hts⟩ (c_Md_isPerson l G H.size a_t a_t_truth a_t_entries a_t_marked a_t_present a_t_helped a_t_counted a_t_told a_t_runs a_t_whose a_t_where a_t_what a_t_before a_t_behind a_t_isOn a_t_tryEntries a_t_tryMarks a_t_text p0 (0 : Int32) x_t_places x_t_persons x_t_many x_t_size x_t_at x_t_sought x_t_found _ hy3) (cwV 1 hts (gV gw_441 gw_442 gw_17 gw_36 gw_443) rfl rfl rfl (by decide +kernel) ⟨Nat.le_of_ble_eq_true rfl, Nat.le_of_ble_eq_true rfl⟩) (pV hK hN hPc hDc (ci := 6) (q0 := 0) rfl rfl) rfl rfl hl.1 rfl (lv_room (Nat.le_of_ble_eq_true rfl)) d_Md_timer_16 ⟨Nat.le_of_ble_eq_true rfl, Nat.le_of_ble_eq_true rfl⟩) hS (fun q _ h => hFc q h) hFc (fun H1 locs hB hz hk hS => ?_)
    obtain ⟨hP, hD⟩ := q_join (wr := [(a_t_counted, .inl (G.2 2, 8, .inr (.inl x_t_counted))), (a_t_told, .inl (G.2 2, 8, .inr (.inl x_t_told))), (a_t_runs, .inl (G.2 1, 8, .inl x_t_runs))]) (wn := (ws_Md_timer G a_t a_t_truth a_t_entries a_t_marked a_t_present a_t_helped a_t_whose a_t_where a_t_what a_t_before a_t_behind a_t_isOn a_t_tryEntries a_t_tryMarks a_t_text a_t_counted a_t_told a_t_runs (0 : Int32) x_t_places x_t_persons x_t_many x_t_size x_t_at x_t_sought x_t_found x_t_counted x_t_told x_t_runs)) hP hD [0] [1, 2, 3] [3, 0, 1, 2] rfl rfl (by decide) (by decide) rfl (by decide) hk hFc hB.1 hB.2
    generalize H1 = H at hP hS ⊢
    replace hP : va_P G.1 vwCl (ws_Md_timer G a_t a_t_truth a_t_entries a_t_marked a_t_present a_t_helped a_t_whose a_t_where a_t_what a_t_before a_t_behind a_t_isOn a_t_tryEntries a_t_tryMarks a_t_text a_t_counted a_t_told a_t_runs (0 : Int32) x_t_places x_t_persons x_t_many x_t_size x_t_at x_t_sought x_t_found x_t_counted x_t_told x_t_runs) H := hP
    replace hD : va_D A (ws_Md_timer G a_t a_t_truth a_t_entries a_t_marked a_t_present a_t_helped a_t_whose a_t_where a_t_what a_t_before a_t_behind a_t_isOn a_t_tryEntries a_t_tryMarks a_t_text a_t_counted a_t_told a_t_runs (0 : Int32) x_t_places x_t_persons x_t_many x_t_size x_t_at x_t_sought x_t_found x_t_counted x_t_told x_t_runs) := hD
    refine lv_if_eq (tgt := 26) hx hb d_Md_timer_19 (by decide) (fun c4 => ?_) (fun c4 => ?_)
    · replace h := (if_pos c4).symm.trans h
      refine lv_iconst (v := (0 : Int32)) hx hb d_Md_timer_26 (by decide) ?_
      refine lv_lload_n hx hb d_Md_timer_27 rfl (lv_at hl 2 rfl) ?_
      obtain ⟨y5, hy5, h⟩ := o_bind h
      have hPc := hP.sub (ws' := (ws_Md_mayTell G a_t a_t_truth a_t_entries a_t_marked a_t_present a_t_helped a_t_counted a_t_runs a_t_whose a_t_where a_t_what a_t_before a_t_behind a_t_isOn a_t_tryEntries a_t_tryMarks a_t_text a_t_told (0 : Int32) x_t_places x_t_persons x_t_many x_t_size x_t_at x_t_sought x_t_found x_t_told)) [0, 2] rfl
      have hDc := hD.sub (ws' := (ws_Md_mayTell G a_t a_t_truth a_t_entries a_t_marked a_t_present a_t_helped a_t_counted a_t_runs a_t_whose a_t_where a_t_what a_t_before a_t_behind a_t_isOn a_t_tryEntries a_t_tryMarks a_t_text a_t_told (0 : Int32) x_t_places x_t_persons x_t_many x_t_size x_t_at x_t_sought x_t_found x_t_told)) [0, 2] (by decide) rfl
      have hFc := va_free (wc := (ws_Md_mayTell G a_t a_t_truth a_t_entries a_t_marked a_t_present a_t_helped a_t_counted a_t_runs a_t_whose a_t_where a_t_what a_t_before a_t_behind a_t_isOn a_t_tryEntries a_t_tryMarks a_t_text a_t_told (0 : Int32) x_t_places x_t_persons x_t_many x_t_size x_t_at x_t_sought x_t_found x_t_told)) hD hS hA [0, 2] rfl
      refine q_call1 (va_runV (As := [.int (0 : Int32), .long p1]) (rest := []) ⟨hx, hb, hml, hown, hts⟩ (c_Md_mayTell l G H.size a_t a_t_truth a_t_entries a_t_marked a_t_present a_t_helped a_t_counted a_t_runs a_t_whose a_t_where a_t_what a_t_before a_t_behind a_t_isOn a_t_tryEntries a_t_tryMarks a_t_text a_t_told (0 : Int32) p1 (0 : Int32) x_t_places x_t_persons x_t_many x_t_size x_t_at x_t_sought x_t_found x_t_told _ hy5) (cwV 2 hts (gV gw_500 gw_501 gw_22 gw_36 gw_502) rfl rfl rfl (by decide +kernel) ⟨Nat.le_of_ble_eq_true rfl, Nat.le_of_ble_eq_true rfl⟩) (pV hK hN hPc hDc (ci := 6) (q0 := 0) rfl rfl) rfl rfl hl.1 rfl (lv_room (Nat.le_of_ble_eq_true rfl)) d_Md_timer_28 ⟨Nat.le_of_ble_eq_true rfl, Nat.le_of_ble_eq_true rfl⟩) hS (fun q _ h => hFc q h) hFc (fun H1 locs hB hz hk hS => ?_)
      obtain ⟨hP, hD⟩ := q_join (wr := [(a_t_counted, .inl (G.2 2, 8, .inr (.inl x_t_counted))), (a_t_runs, .inl (G.2 1, 8, .inl x_t_runs))]) (wn := (ws_Md_timer G a_t a_t_truth a_t_entries a_t_marked a_t_present a_t_helped a_t_whose a_t_where a_t_what a_t_before a_t_behind a_t_isOn a_t_tryEntries a_t_tryMarks a_t_text a_t_counted a_t_told a_t_runs (0 : Int32) x_t_places x_t_persons x_t_many x_t_size x_t_at x_t_sought x_t_found x_t_counted x_t_told x_t_runs)) hP hD [0, 2] [1, 3] [2, 0, 3, 1] rfl rfl (by decide) (by decide) rfl (by decide) hk hFc hB.1 hB.2
      generalize H1 = H at hP hS ⊢
      replace hP : va_P G.1 vwCl (ws_Md_timer G a_t a_t_truth a_t_entries a_t_marked a_t_present a_t_helped a_t_whose a_t_where a_t_what a_t_before a_t_behind a_t_isOn a_t_tryEntries a_t_tryMarks a_t_text a_t_counted a_t_told a_t_runs (0 : Int32) x_t_places x_t_persons x_t_many x_t_size x_t_at x_t_sought x_t_found x_t_counted x_t_told x_t_runs) H := hP
      replace hD : va_D A (ws_Md_timer G a_t a_t_truth a_t_entries a_t_marked a_t_present a_t_helped a_t_whose a_t_where a_t_what a_t_before a_t_behind a_t_isOn a_t_tryEntries a_t_tryMarks a_t_text a_t_counted a_t_told a_t_runs (0 : Int32) x_t_places x_t_persons x_t_many x_t_size x_t_at x_t_sought x_t_found x_t_counted x_t_told x_t_runs) := hD
      refine lv_if_ne (tgt := 36) hx hb d_Md_timer_31 (by decide) (fun c6 => ?_) (fun c6 => ?_)
      · replace h := (if_neg c6).symm.trans h
        refine lv_aload_n hx hb d_Md_timer_36 rfl (lv_at hl 0 rfl) ?_
        refine va_get (D := G.1) (ci := 6) (v := .ref a_t_counted) (C := "PlayStatesModel") (T := TMd) (N := 25) hx hb hts iw_6 hown hK hP 0 rfl rfl 8 (by decide) (hts _ gw_387) (fun _ h9 => h9) rfl d_Md_timer_37 ?_
        refine lv_iload_n hx hb d_Md_timer_40 rfl (lv_at hl 1 rfl) ?_
        refine lv_aload_n hx hb d_Md_timer_41 rfl (lv_at hl 0 rfl) ?_
        refine lv_iload_n hx hb d_Md_timer_42 rfl (lv_at hl 1 rfl) ?_
        refine lv_lload_n hx hb d_Md_timer_43 rfl (lv_at hl 2 rfl) ?_
        obtain ⟨y7, hy7, h⟩ := o_bind h
        have hPc := hP.sub (ws' := (ws_Md_countedTo G a_t a_t_truth a_t_entries a_t_marked a_t_present a_t_helped a_t_whose a_t_where a_t_what a_t_before a_t_behind a_t_isOn a_t_tryEntries a_t_tryMarks a_t_text a_t_counted a_t_told a_t_runs (0 : Int32) x_t_places x_t_persons x_t_many x_t_size x_t_at x_t_sought x_t_found x_t_counted x_t_told x_t_runs)) [0, 1, 2, 3] rfl
        have hDc := hD.sub (ws' := (ws_Md_countedTo G a_t a_t_truth a_t_entries a_t_marked a_t_present a_t_helped a_t_whose a_t_where a_t_what a_t_before a_t_behind a_t_isOn a_t_tryEntries a_t_tryMarks a_t_text a_t_counted a_t_told a_t_runs (0 : Int32) x_t_places x_t_persons x_t_many x_t_size x_t_at x_t_sought x_t_found x_t_counted x_t_told x_t_runs)) [0, 1, 2, 3] (by decide) rfl
        have hFc := va_free (wc := (ws_Md_countedTo G a_t a_t_truth a_t_entries a_t_marked a_t_present a_t_helped a_t_whose a_t_where a_t_what a_t_before a_t_behind a_t_isOn a_t_tryEntries a_t_tryMarks a_t_text a_t_counted a_t_told a_t_runs (0 : Int32) x_t_places x_t_persons x_t_many x_t_size x_t_at x_t_sought x_t_found x_t_counted x_t_told x_t_runs)) hD hS hA [0, 1, 2, 3] rfl
        refine q_call1 (va_runV (As := [.int p0, .long p1]) (rest := [.int p0, .ref a_t_counted]) ⟨hx, hb, hml, hown, hts⟩ (c_Md_countedTo l G H.size a_t a_t_truth a_t_entries a_t_marked a_t_present a_t_helped a_t_whose a_t_where a_t_what a_t_before a_t_behind a_t_isOn a_t_tryEntries a_t_tryMarks a_t_text a_t_counted a_t_told a_t_runs p0 p1 (0 : Int32) x_t_places x_t_persons x_t_many x_t_size x_t_at x_t_sought x_t_found x_t_counted x_t_told x_t_runs _ hy7) (cwV 2 hts (gV gw_503 gw_504 gw_23 gw_36 gw_505) rfl rfl rfl (by decide +kernel) ⟨Nat.le_of_ble_eq_true rfl, Nat.le_of_ble_eq_true rfl⟩) (pV hK hN hPc hDc (ci := 6) (q0 := 0) rfl rfl) rfl rfl hl.1 rfl (lv_room (Nat.le_of_ble_eq_true rfl)) d_Md_timer_44 ⟨Nat.le_of_ble_eq_true rfl, Nat.le_of_ble_eq_true rfl⟩) hS (fun q _ h => hFc q h) hFc (fun H1 locs hB hz hk hS => ?_)
        obtain ⟨hP, hD⟩ := q_joinA hFc hB.1 hB.2
        generalize H1 = H at hP hS ⊢
        replace hP : va_P G.1 vwCl (ws_Md_timer G a_t a_t_truth a_t_entries a_t_marked a_t_present a_t_helped a_t_whose a_t_where a_t_what a_t_before a_t_behind a_t_isOn a_t_tryEntries a_t_tryMarks a_t_text a_t_counted a_t_told a_t_runs (0 : Int32) x_t_places x_t_persons x_t_many x_t_size x_t_at x_t_sought x_t_found x_t_counted x_t_told x_t_runs) H := hP
        replace hD : va_D A (ws_Md_timer G a_t a_t_truth a_t_entries a_t_marked a_t_present a_t_helped a_t_whose a_t_where a_t_what a_t_before a_t_behind a_t_isOn a_t_tryEntries a_t_tryMarks a_t_text a_t_counted a_t_told a_t_runs (0 : Int32) x_t_places x_t_persons x_t_many x_t_size x_t_at x_t_sought x_t_found x_t_counted x_t_told x_t_runs) := hD
        obtain ⟨i8, h⟩ := o_if h
        refine va_last (n := 8) (f := x_t_counted) hx hb hK hP hD hS 1 2 rfl rfl i8 d_Md_timer_47 (fun H locs hP hD hS => ?_)
        replace hP : va_P G.1 vwCl (ws_Md_timer G a_t a_t_truth a_t_entries a_t_marked a_t_present a_t_helped a_t_whose a_t_where a_t_what a_t_before a_t_behind a_t_isOn a_t_tryEntries a_t_tryMarks a_t_text a_t_counted a_t_told a_t_runs (0 : Int32) x_t_places x_t_persons x_t_many x_t_size x_t_at x_t_sought x_t_found (vp_updL x_t_counted p0.toNatClampNeg y7) x_t_told x_t_runs) H := hP
        replace hD : va_D A (ws_Md_timer G a_t a_t_truth a_t_entries a_t_marked a_t_present a_t_helped a_t_whose a_t_where a_t_what a_t_before a_t_behind a_t_isOn a_t_tryEntries a_t_tryMarks a_t_text a_t_counted a_t_told a_t_runs (0 : Int32) x_t_places x_t_persons x_t_many x_t_size x_t_at x_t_sought x_t_found (vp_updL x_t_counted p0.toNatClampNeg y7) x_t_told x_t_runs) := hD
        refine lv_aload_n hx hb d_Md_timer_48 rfl (lv_at hl 0 rfl) ?_
        refine va_get (D := G.1) (ci := 6) (v := .ref a_t_told) (C := "PlayStatesModel") (T := TMd) (N := 25) hx hb hts iw_6 hown hK hP 0 rfl rfl 9 (by decide) (hts _ gw_388) (fun _ h9 => h9) rfl d_Md_timer_49 ?_
        refine lv_iload_n hx hb d_Md_timer_52 rfl (lv_at hl 1 rfl) ?_
        refine lv_lload_n hx hb d_Md_timer_53 rfl (lv_at hl 2 rfl) ?_
        obtain ⟨i9, h⟩ := o_if h
        refine va_last (n := 8) (f := x_t_told) hx hb hK hP hD hS 2 2 rfl rfl i9 d_Md_timer_54 (fun H locs hP hD hS => ?_)
        replace hP : va_P G.1 vwCl (ws_Md_timer G a_t a_t_truth a_t_entries a_t_marked a_t_present a_t_helped a_t_whose a_t_where a_t_what a_t_before a_t_behind a_t_isOn a_t_tryEntries a_t_tryMarks a_t_text a_t_counted a_t_told a_t_runs (0 : Int32) x_t_places x_t_persons x_t_many x_t_size x_t_at x_t_sought x_t_found (vp_updL x_t_counted p0.toNatClampNeg y7) (vp_updL x_t_told p0.toNatClampNeg p1) x_t_runs) H := hP
        replace hD : va_D A (ws_Md_timer G a_t a_t_truth a_t_entries a_t_marked a_t_present a_t_helped a_t_whose a_t_where a_t_what a_t_before a_t_behind a_t_isOn a_t_tryEntries a_t_tryMarks a_t_text a_t_counted a_t_told a_t_runs (0 : Int32) x_t_places x_t_persons x_t_many x_t_size x_t_at x_t_sought x_t_found (vp_updL x_t_counted p0.toNatClampNeg y7) (vp_updL x_t_told p0.toNatClampNeg p1) x_t_runs) := hD
        refine lv_aload_n hx hb d_Md_timer_55 rfl (lv_at hl 0 rfl) ?_
        refine va_get (D := G.1) (ci := 6) (v := .ref a_t_runs) (C := "PlayStatesModel") (T := TMd) (N := 25) hx hb hts iw_6 hown hK hP 0 rfl rfl 10 (by decide) (hts _ gw_389) (fun _ h9 => h9) rfl d_Md_timer_56 ?_
        refine lv_iload_n hx hb d_Md_timer_59 rfl (lv_at hl 1 rfl) ?_
        refine lv_iload hx hb d_Md_timer_60 (lv_at hl 3 rfl) ?_
        obtain ⟨i10, h⟩ := o_if h
        refine va_zast (n := 8) (f := x_t_runs) hx hb hK hP hD hS 3 1 rfl rfl i10 d_Md_timer_62 (fun H locs hP hD hS => ?_)
        replace hP : va_P G.1 vwCl (ws_Md_timer G a_t a_t_truth a_t_entries a_t_marked a_t_present a_t_helped a_t_whose a_t_where a_t_what a_t_before a_t_behind a_t_isOn a_t_tryEntries a_t_tryMarks a_t_text a_t_counted a_t_told a_t_runs (0 : Int32) x_t_places x_t_persons x_t_many x_t_size x_t_at x_t_sought x_t_found (vp_updL x_t_counted p0.toNatClampNeg y7) (vp_updL x_t_told p0.toNatClampNeg p1) (upd x_t_runs p0.toNatClampNeg (vp_nar .boolean p2))) H := hP
        replace hD : va_D A (ws_Md_timer G a_t a_t_truth a_t_entries a_t_marked a_t_present a_t_helped a_t_whose a_t_where a_t_what a_t_before a_t_behind a_t_isOn a_t_tryEntries a_t_tryMarks a_t_text a_t_counted a_t_told a_t_runs (0 : Int32) x_t_places x_t_persons x_t_many x_t_size x_t_at x_t_sought x_t_found (vp_updL x_t_counted p0.toNatClampNeg y7) (vp_updL x_t_told p0.toNatClampNeg p1) (upd x_t_runs p0.toNatClampNeg (vp_nar .boolean p2))) := hD
        refine lv_iconst (v := (1 : Int32)) hx hb d_Md_timer_63 (by decide) ?_
        cases h
        exact q_zretW hx hb hr hlocks (by decide) hP hD hS d_Md_timer_64
      · replace h := (if_pos c6).symm.trans h
        refine lv_iconst (v := (0 : Int32)) hx hb d_Md_timer_34 (by decide) ?_
        cases h
        exact q_zretW hx hb hr hlocks (by decide) hP hD hS d_Md_timer_35
    · replace h := (if_neg c4).symm.trans h
      refine lv_iload_n hx hb d_Md_timer_22 rfl (lv_at hl 1 rfl) ?_
      refine lv_goto (tgt := 27) hx hb d_Md_timer_23 (by decide) ?_
      refine lv_lload_n hx hb d_Md_timer_27 rfl (lv_at hl 2 rfl) ?_
      obtain ⟨y11, hy11, h⟩ := o_bind h
      have hPc := hP.sub (ws' := (ws_Md_mayTell G a_t a_t_truth a_t_entries a_t_marked a_t_present a_t_helped a_t_counted a_t_runs a_t_whose a_t_where a_t_what a_t_before a_t_behind a_t_isOn a_t_tryEntries a_t_tryMarks a_t_text a_t_told (0 : Int32) x_t_places x_t_persons x_t_many x_t_size x_t_at x_t_sought x_t_found x_t_told)) [0, 2] rfl
      have hDc := hD.sub (ws' := (ws_Md_mayTell G a_t a_t_truth a_t_entries a_t_marked a_t_present a_t_helped a_t_counted a_t_runs a_t_whose a_t_where a_t_what a_t_before a_t_behind a_t_isOn a_t_tryEntries a_t_tryMarks a_t_text a_t_told (0 : Int32) x_t_places x_t_persons x_t_many x_t_size x_t_at x_t_sought x_t_found x_t_told)) [0, 2] (by decide) rfl
      have hFc := va_free (wc := (ws_Md_mayTell G a_t a_t_truth a_t_entries a_t_marked a_t_present a_t_helped a_t_counted a_t_runs a_t_whose a_t_where a_t_what a_t_before a_t_behind a_t_isOn a_t_tryEntries a_t_tryMarks a_t_text a_t_told (0 : Int32) x_t_places x_t_persons x_t_many x_t_size x_t_at x_t_sought x_t_found x_t_told)) hD hS hA [0, 2] rfl
      refine q_call1 (va_runV (As := [.int p0, .long p1]) (rest := []) ⟨hx, hb, hml, hown, hts⟩ (c_Md_mayTell l G H.size a_t a_t_truth a_t_entries a_t_marked a_t_present a_t_helped a_t_counted a_t_runs a_t_whose a_t_where a_t_what a_t_before a_t_behind a_t_isOn a_t_tryEntries a_t_tryMarks a_t_text a_t_told p0 p1 (0 : Int32) x_t_places x_t_persons x_t_many x_t_size x_t_at x_t_sought x_t_found x_t_told _ hy11) (cwV 2 hts (gV gw_500 gw_501 gw_22 gw_36 gw_502) rfl rfl rfl (by decide +kernel) ⟨Nat.le_of_ble_eq_true rfl, Nat.le_of_ble_eq_true rfl⟩) (pV hK hN hPc hDc (ci := 6) (q0 := 0) rfl rfl) rfl rfl hl.1 rfl (lv_room (Nat.le_of_ble_eq_true rfl)) d_Md_timer_28 ⟨Nat.le_of_ble_eq_true rfl, Nat.le_of_ble_eq_true rfl⟩) hS (fun q _ h => hFc q h) hFc (fun H1 locs hB hz hk hS => ?_)
      obtain ⟨hP, hD⟩ := q_join (wr := [(a_t_counted, .inl (G.2 2, 8, .inr (.inl x_t_counted))), (a_t_runs, .inl (G.2 1, 8, .inl x_t_runs))]) (wn := (ws_Md_timer G a_t a_t_truth a_t_entries a_t_marked a_t_present a_t_helped a_t_whose a_t_where a_t_what a_t_before a_t_behind a_t_isOn a_t_tryEntries a_t_tryMarks a_t_text a_t_counted a_t_told a_t_runs (0 : Int32) x_t_places x_t_persons x_t_many x_t_size x_t_at x_t_sought x_t_found x_t_counted x_t_told x_t_runs)) hP hD [0, 2] [1, 3] [2, 0, 3, 1] rfl rfl (by decide) (by decide) rfl (by decide) hk hFc hB.1 hB.2
      generalize H1 = H at hP hS ⊢
      replace hP : va_P G.1 vwCl (ws_Md_timer G a_t a_t_truth a_t_entries a_t_marked a_t_present a_t_helped a_t_whose a_t_where a_t_what a_t_before a_t_behind a_t_isOn a_t_tryEntries a_t_tryMarks a_t_text a_t_counted a_t_told a_t_runs (0 : Int32) x_t_places x_t_persons x_t_many x_t_size x_t_at x_t_sought x_t_found x_t_counted x_t_told x_t_runs) H := hP
      replace hD : va_D A (ws_Md_timer G a_t a_t_truth a_t_entries a_t_marked a_t_present a_t_helped a_t_whose a_t_where a_t_what a_t_before a_t_behind a_t_isOn a_t_tryEntries a_t_tryMarks a_t_text a_t_counted a_t_told a_t_runs (0 : Int32) x_t_places x_t_persons x_t_many x_t_size x_t_at x_t_sought x_t_found x_t_counted x_t_told x_t_runs) := hD
      refine lv_if_ne (tgt := 36) hx hb d_Md_timer_31 (by decide) (fun c12 => ?_) (fun c12 => ?_)
      · replace h := (if_neg c12).symm.trans h
        refine lv_aload_n hx hb d_Md_timer_36 rfl (lv_at hl 0 rfl) ?_
        refine va_get (D := G.1) (ci := 6) (v := .ref a_t_counted) (C := "PlayStatesModel") (T := TMd) (N := 25) hx hb hts iw_6 hown hK hP 0 rfl rfl 8 (by decide) (hts _ gw_387) (fun _ h9 => h9) rfl d_Md_timer_37 ?_
        refine lv_iload_n hx hb d_Md_timer_40 rfl (lv_at hl 1 rfl) ?_
        refine lv_aload_n hx hb d_Md_timer_41 rfl (lv_at hl 0 rfl) ?_
        refine lv_iload_n hx hb d_Md_timer_42 rfl (lv_at hl 1 rfl) ?_
        refine lv_lload_n hx hb d_Md_timer_43 rfl (lv_at hl 2 rfl) ?_
        obtain ⟨y13, hy13, h⟩ := o_bind h
        have hPc := hP.sub (ws' := (ws_Md_countedTo G a_t a_t_truth a_t_entries a_t_marked a_t_present a_t_helped a_t_whose a_t_where a_t_what a_t_before a_t_behind a_t_isOn a_t_tryEntries a_t_tryMarks a_t_text a_t_counted a_t_told a_t_runs (0 : Int32) x_t_places x_t_persons x_t_many x_t_size x_t_at x_t_sought x_t_found x_t_counted x_t_told x_t_runs)) [0, 1, 2, 3] rfl
        have hDc := hD.sub (ws' := (ws_Md_countedTo G a_t a_t_truth a_t_entries a_t_marked a_t_present a_t_helped a_t_whose a_t_where a_t_what a_t_before a_t_behind a_t_isOn a_t_tryEntries a_t_tryMarks a_t_text a_t_counted a_t_told a_t_runs (0 : Int32) x_t_places x_t_persons x_t_many x_t_size x_t_at x_t_sought x_t_found x_t_counted x_t_told x_t_runs)) [0, 1, 2, 3] (by decide) rfl
        have hFc := va_free (wc := (ws_Md_countedTo G a_t a_t_truth a_t_entries a_t_marked a_t_present a_t_helped a_t_whose a_t_where a_t_what a_t_before a_t_behind a_t_isOn a_t_tryEntries a_t_tryMarks a_t_text a_t_counted a_t_told a_t_runs (0 : Int32) x_t_places x_t_persons x_t_many x_t_size x_t_at x_t_sought x_t_found x_t_counted x_t_told x_t_runs)) hD hS hA [0, 1, 2, 3] rfl
        refine q_call1 (va_runV (As := [.int p0, .long p1]) (rest := [.int p0, .ref a_t_counted]) ⟨hx, hb, hml, hown, hts⟩ (c_Md_countedTo l G H.size a_t a_t_truth a_t_entries a_t_marked a_t_present a_t_helped a_t_whose a_t_where a_t_what a_t_before a_t_behind a_t_isOn a_t_tryEntries a_t_tryMarks a_t_text a_t_counted a_t_told a_t_runs p0 p1 (0 : Int32) x_t_places x_t_persons x_t_many x_t_size x_t_at x_t_sought x_t_found x_t_counted x_t_told x_t_runs _ hy13) (cwV 2 hts (gV gw_503 gw_504 gw_23 gw_36 gw_505) rfl rfl rfl (by decide +kernel) ⟨Nat.le_of_ble_eq_true rfl, Nat.le_of_ble_eq_true rfl⟩) (pV hK hN hPc hDc (ci := 6) (q0 := 0) rfl rfl) rfl rfl hl.1 rfl (lv_room (Nat.le_of_ble_eq_true rfl)) d_Md_timer_44 ⟨Nat.le_of_ble_eq_true rfl, Nat.le_of_ble_eq_true rfl⟩) hS (fun q _ h => hFc q h) hFc (fun H1 locs hB hz hk hS => ?_)
        obtain ⟨hP, hD⟩ := q_joinA hFc hB.1 hB.2
        generalize H1 = H at hP hS ⊢
        replace hP : va_P G.1 vwCl (ws_Md_timer G a_t a_t_truth a_t_entries a_t_marked a_t_present a_t_helped a_t_whose a_t_where a_t_what a_t_before a_t_behind a_t_isOn a_t_tryEntries a_t_tryMarks a_t_text a_t_counted a_t_told a_t_runs (0 : Int32) x_t_places x_t_persons x_t_many x_t_size x_t_at x_t_sought x_t_found x_t_counted x_t_told x_t_runs) H := hP
        replace hD : va_D A (ws_Md_timer G a_t a_t_truth a_t_entries a_t_marked a_t_present a_t_helped a_t_whose a_t_where a_t_what a_t_before a_t_behind a_t_isOn a_t_tryEntries a_t_tryMarks a_t_text a_t_counted a_t_told a_t_runs (0 : Int32) x_t_places x_t_persons x_t_many x_t_size x_t_at x_t_sought x_t_found x_t_counted x_t_told x_t_runs) := hD
        obtain ⟨i14, h⟩ := o_if h
        refine va_last (n := 8) (f := x_t_counted) hx hb hK hP hD hS 1 2 rfl rfl i14 d_Md_timer_47 (fun H locs hP hD hS => ?_)
        replace hP : va_P G.1 vwCl (ws_Md_timer G a_t a_t_truth a_t_entries a_t_marked a_t_present a_t_helped a_t_whose a_t_where a_t_what a_t_before a_t_behind a_t_isOn a_t_tryEntries a_t_tryMarks a_t_text a_t_counted a_t_told a_t_runs (0 : Int32) x_t_places x_t_persons x_t_many x_t_size x_t_at x_t_sought x_t_found (vp_updL x_t_counted p0.toNatClampNeg y13) x_t_told x_t_runs) H := hP
        replace hD : va_D A (ws_Md_timer G a_t a_t_truth a_t_entries a_t_marked a_t_present a_t_helped a_t_whose a_t_where a_t_what a_t_before a_t_behind a_t_isOn a_t_tryEntries a_t_tryMarks a_t_text a_t_counted a_t_told a_t_runs (0 : Int32) x_t_places x_t_persons x_t_many x_t_size x_t_at x_t_sought x_t_found (vp_updL x_t_counted p0.toNatClampNeg y13) x_t_told x_t_runs) := hD
        refine lv_aload_n hx hb d_Md_timer_48 rfl (lv_at hl 0 rfl) ?_
        refine va_get (D := G.1) (ci := 6) (v := .ref a_t_told) (C := "PlayStatesModel") (T := TMd) (N := 25) hx hb hts iw_6 hown hK hP 0 rfl rfl 9 (by decide) (hts _ gw_388) (fun _ h9 => h9) rfl d_Md_timer_49 ?_
        refine lv_iload_n hx hb d_Md_timer_52 rfl (lv_at hl 1 rfl) ?_
        refine lv_lload_n hx hb d_Md_timer_53 rfl (lv_at hl 2 rfl) ?_
        obtain ⟨i15, h⟩ := o_if h
        refine va_last (n := 8) (f := x_t_told) hx hb hK hP hD hS 2 2 rfl rfl i15 d_Md_timer_54 (fun H locs hP hD hS => ?_)
        replace hP : va_P G.1 vwCl (ws_Md_timer G a_t a_t_truth a_t_entries a_t_marked a_t_present a_t_helped a_t_whose a_t_where a_t_what a_t_before a_t_behind a_t_isOn a_t_tryEntries a_t_tryMarks a_t_text a_t_counted a_t_told a_t_runs (0 : Int32) x_t_places x_t_persons x_t_many x_t_size x_t_at x_t_sought x_t_found (vp_updL x_t_counted p0.toNatClampNeg y13) (vp_updL x_t_told p0.toNatClampNeg p1) x_t_runs) H := hP
        replace hD : va_D A (ws_Md_timer G a_t a_t_truth a_t_entries a_t_marked a_t_present a_t_helped a_t_whose a_t_where a_t_what a_t_before a_t_behind a_t_isOn a_t_tryEntries a_t_tryMarks a_t_text a_t_counted a_t_told a_t_runs (0 : Int32) x_t_places x_t_persons x_t_many x_t_size x_t_at x_t_sought x_t_found (vp_updL x_t_counted p0.toNatClampNeg y13) (vp_updL x_t_told p0.toNatClampNeg p1) x_t_runs) := hD
        refine lv_aload_n hx hb d_Md_timer_55 rfl (lv_at hl 0 rfl) ?_
        refine va_get (D := G.1) (ci := 6) (v := .ref a_t_runs) (C := "PlayStatesModel") (T := TMd) (N := 25) hx hb hts iw_6 hown hK hP 0 rfl rfl 10 (by decide) (hts _ gw_389) (fun _ h9 => h9) rfl d_Md_timer_56 ?_
        refine lv_iload_n hx hb d_Md_timer_59 rfl (lv_at hl 1 rfl) ?_
        refine lv_iload hx hb d_Md_timer_60 (lv_at hl 3 rfl) ?_
        obtain ⟨i16, h⟩ := o_if h
        refine va_zast (n := 8) (f := x_t_runs) hx hb hK hP hD hS 3 1 rfl rfl i16 d_Md_timer_62 (fun H locs hP hD hS => ?_)
        replace hP : va_P G.1 vwCl (ws_Md_timer G a_t a_t_truth a_t_entries a_t_marked a_t_present a_t_helped a_t_whose a_t_where a_t_what a_t_before a_t_behind a_t_isOn a_t_tryEntries a_t_tryMarks a_t_text a_t_counted a_t_told a_t_runs (0 : Int32) x_t_places x_t_persons x_t_many x_t_size x_t_at x_t_sought x_t_found (vp_updL x_t_counted p0.toNatClampNeg y13) (vp_updL x_t_told p0.toNatClampNeg p1) (upd x_t_runs p0.toNatClampNeg (vp_nar .boolean p2))) H := hP
        replace hD : va_D A (ws_Md_timer G a_t a_t_truth a_t_entries a_t_marked a_t_present a_t_helped a_t_whose a_t_where a_t_what a_t_before a_t_behind a_t_isOn a_t_tryEntries a_t_tryMarks a_t_text a_t_counted a_t_told a_t_runs (0 : Int32) x_t_places x_t_persons x_t_many x_t_size x_t_at x_t_sought x_t_found (vp_updL x_t_counted p0.toNatClampNeg y13) (vp_updL x_t_told p0.toNatClampNeg p1) (upd x_t_runs p0.toNatClampNeg (vp_nar .boolean p2))) := hD
        refine lv_iconst (v := (1 : Int32)) hx hb d_Md_timer_63 (by decide) ?_
        cases h
        exact q_zretW hx hb hr hlocks (by decide) hP hD hS d_Md_timer_64
      · replace h := (if_pos c12).symm.trans h
        refine lv_iconst (v := (0 : Int32)) hx hb d_Md_timer_34 (by decide) ?_
        cases h
        exact q_zretW hx hb hr hlocks (by decide) hP hD hS d_Md_timer_35

theorem gw_378 : (.constantLong "PlayStatesModel" 67 (-1 : Int64) : Cond) ∈ GW := gT 416 (by decide +kernel) (by decide +kernel)
theorem d_Md_time_0 : decode prog_8_method_24_code 0 = .ok (.aload_n 0, 1) := by decide +kernel
theorem d_Md_time_1 : decode prog_8_method_24_code 1 = .ok (.iconst 0, 1) := by decide +kernel
theorem d_Md_time_2 : decode prog_8_method_24_code 2 = .ok (.putfield 69, 3) := by decide +kernel
theorem d_Md_time_5 : decode prog_8_method_24_code 5 = .ok (.aload_n 0, 1) := by decide +kernel
theorem d_Md_time_6 : decode prog_8_method_24_code 6 = .ok (.iload_n 1, 1) := by decide +kernel
theorem d_Md_time_7 : decode prog_8_method_24_code 7 = .ok (.invokevirtual 86, 3) := by decide +kernel
theorem d_Md_time_10 : decode prog_8_method_24_code 10 = .ok (.ifCond .eq 21, 3) := by decide +kernel
theorem d_Md_time_13 : decode prog_8_method_24_code 13 = .ok (.aload_n 0, 1) := by decide +kernel
theorem d_Md_time_14 : decode prog_8_method_24_code 14 = .ok (.iload_n 1, 1) := by decide +kernel
theorem d_Md_time_15 : decode prog_8_method_24_code 15 = .ok (.lload_n 2, 1) := by decide +kernel
theorem d_Md_time_16 : decode prog_8_method_24_code 16 = .ok (.invokevirtual 101, 3) := by decide +kernel
theorem d_Md_time_19 : decode prog_8_method_24_code 19 = .ok (.ifCond .eq 12, 3) := by decide +kernel
theorem d_Md_time_22 : decode prog_8_method_24_code 22 = .ok (.aload_n 0, 1) := by decide +kernel
theorem d_Md_time_23 : decode prog_8_method_24_code 23 = .ok (.iload_n 1, 1) := by decide +kernel
theorem d_Md_time_24 : decode prog_8_method_24_code 24 = .ok (.lload_n 2, 1) := by decide +kernel
theorem d_Md_time_25 : decode prog_8_method_24_code 25 = .ok (.invokevirtual 105, 3) := by decide +kernel
theorem d_Md_time_28 : decode prog_8_method_24_code 28 = .ok (.goto 6, 3) := by decide +kernel
theorem d_Md_time_31 : decode prog_8_method_24_code 31 = .ok (.ldc2_w 67, 3) := by decide +kernel
theorem d_Md_time_34 : decode prog_8_method_24_code 34 = .ok (.lreturn, 1) := by decide +kernel
-- PlayStatesModel.time(IJ)J 
def ws_Md_time (G : gG) (a_t a_t_truth a_t_entries a_t_marked a_t_present a_t_helped a_t_whose a_t_where a_t_what a_t_before a_t_behind a_t_isOn a_t_tryEntries a_t_tryMarks a_t_text a_t_counted a_t_told a_t_runs : Nat)  (x_t_thrown : Int32) (x_t_places : Int32) (x_t_persons : Int32) (x_t_many : Int32) (x_t_size : Int32) (x_t_at : Int32) (x_t_sought : Int32) (x_t_found : Int32) (x_t_counted : Nat → Int64) (x_t_told : Nat → Int64) (x_t_runs : Nat → Int32) : va_W := [(a_t, .inr (6, [.int x_t_thrown, .int x_t_places, .int x_t_persons, .ref a_t_truth, .ref a_t_entries, .ref a_t_marked, .ref a_t_present, .ref a_t_helped, .ref a_t_counted, .ref a_t_told, .ref a_t_runs, .int x_t_many, .ref a_t_whose, .ref a_t_where, .ref a_t_what, .ref a_t_before, .ref a_t_behind, .ref a_t_isOn, .ref a_t_tryEntries, .ref a_t_tryMarks, .int x_t_size, .ref a_t_text, .int x_t_at, .int x_t_sought, .int x_t_found])), (a_t_counted, .inl (G.2 2, 8, .inr (.inl x_t_counted))), (a_t_told, .inl (G.2 2, 8, .inr (.inl x_t_told))), (a_t_runs, .inl (G.2 1, 8, .inl x_t_runs))]
def f_Md_time  (p0 : Int32) (p1 : Int64) (x_t_thrown : Int32) (x_t_places : Int32) (x_t_persons : Int32) (x_t_many : Int32) (x_t_size : Int32) (x_t_at : Int32) (x_t_sought : Int32) (x_t_found : Int32) (x_t_counted : Nat → Int64) (x_t_told : Nat → Int64) (x_t_runs : Nat → Int32) : Option (Int64 × Int32) :=
  ((f_Md_isPerson p0 (0 : Int32) x_t_places x_t_persons x_t_many x_t_size x_t_at x_t_sought x_t_found).bind fun y1 => (if y1 = 0 then some ((-1 : Int64), (0 : Int32)) else ((f_Md_mayTell p0 p1 (0 : Int32) x_t_places x_t_persons x_t_many x_t_size x_t_at x_t_sought x_t_found x_t_told).bind fun y3 => (if y3 = 0 then some ((-1 : Int64), (0 : Int32)) else ((f_Md_countedTo p0 p1 (0 : Int32) x_t_places x_t_persons x_t_many x_t_size x_t_at x_t_sought x_t_found x_t_counted x_t_told x_t_runs).bind fun y5 => some (y5, (0 : Int32)))))))
set_option maxHeartbeats 4000000 in
set_option maxRecDepth 100000 in
theorem c_Md_time (l : Launch) (G : gG) (sz : Nat) (a_t a_t_truth a_t_entries a_t_marked a_t_present a_t_helped a_t_whose a_t_where a_t_what a_t_before a_t_behind a_t_isOn a_t_tryEntries a_t_tryMarks a_t_text a_t_counted a_t_told a_t_runs : Nat)  (p0 : Int32) (p1 : Int64) (x_t_thrown : Int32) (x_t_places : Int32) (x_t_persons : Int32) (x_t_many : Int32) (x_t_size : Int32) (x_t_at : Int32) (x_t_sought : Int32) (x_t_found : Int32) (x_t_counted : Nat → Int64) (x_t_told : Nat → Int64) (x_t_runs : Nat → Int32) (r : Int64) (x_t_thrown' : Int32) (h : f_Md_time p0 p1 x_t_thrown x_t_places x_t_persons x_t_many x_t_size x_t_at x_t_sought x_t_found x_t_counted x_t_told x_t_runs = some (r, x_t_thrown'))  : cN l y_Md_time w_Md_time { frames := 2, cells := 0, slots := 0, locals := 44 } G sz [.ref a_t, .int p0, .long p1] (ws_Md_time G a_t a_t_truth a_t_entries a_t_marked a_t_present a_t_helped a_t_whose a_t_where a_t_what a_t_before a_t_behind a_t_isOn a_t_tryEntries a_t_tryMarks a_t_text a_t_counted a_t_told a_t_runs x_t_thrown x_t_places x_t_persons x_t_many x_t_size x_t_at x_t_sought x_t_found x_t_counted x_t_told x_t_runs) (some (.long r)) (wB G (ws_Md_time G a_t a_t_truth a_t_entries a_t_marked a_t_present a_t_helped a_t_whose a_t_where a_t_what a_t_before a_t_behind a_t_isOn a_t_tryEntries a_t_tryMarks a_t_text a_t_counted a_t_told a_t_runs x_t_thrown' x_t_places x_t_persons x_t_many x_t_size x_t_at x_t_sought x_t_found x_t_counted x_t_told x_t_runs)) 0 0 := by
  refine cN_ofW (cc := prog_8_method_24_code) (maxL := 4) (ret := (some .long)) (by decide) rfl (Nat.le_of_ble_eq_true rfl) ?_
  intro p e s m args below meth c A H locs ls hx hb hr hts hown hlocks hin hml hK hN hP hD hA hS hl
  replace hl : lv_has ls 4 [(0, .ref a_t), (1, .int p0), (2, .long p1)] := hl
  replace hown : s.vm.findClass "PlayStatesModel" = some m.cls := hown
  unfold f_Md_time at h
  refine lv_aload_n hx hb d_Md_time_0 rfl (lv_at hl 0 rfl) ?_
  refine lv_iconst (v := (0 : Int32)) hx hb d_Md_time_1 (by decide) ?_
  refine va_put (D := G.1) (ci := 6) (v := .int (0 : Int32)) (ty := .int) (C := "PlayStatesModel") (T := TMd) (N := 25) hx hb hts iw_6 tyMd tyMd_ok nmMd hown hK hP hD hS 0 rfl rfl 0 (by decide) (hts _ gw_379) (fun _ h9 => h9) rfl (by decide +kernel) (by rfl) (by rfl) (Nat.le_of_ble_eq_true rfl) d_Md_time_2 (fun H locs hP hD hS => ?_)
  replace hP : va_P G.1 vwCl (ws_Md_time G a_t a_t_truth a_t_entries a_t_marked a_t_present a_t_helped a_t_whose a_t_where a_t_what a_t_before a_t_behind a_t_isOn a_t_tryEntries a_t_tryMarks a_t_text a_t_counted a_t_told a_t_runs (0 : Int32) x_t_places x_t_persons x_t_many x_t_size x_t_at x_t_sought x_t_found x_t_counted x_t_told x_t_runs) H := hP
  replace hD : va_D A (ws_Md_time G a_t a_t_truth a_t_entries a_t_marked a_t_present a_t_helped a_t_whose a_t_where a_t_what a_t_before a_t_behind a_t_isOn a_t_tryEntries a_t_tryMarks a_t_text a_t_counted a_t_told a_t_runs (0 : Int32) x_t_places x_t_persons x_t_many x_t_size x_t_at x_t_sought x_t_found x_t_counted x_t_told x_t_runs) := hD
  refine lv_aload_n hx hb d_Md_time_5 rfl (lv_at hl 0 rfl) ?_
  refine lv_iload_n hx hb d_Md_time_6 rfl (lv_at hl 1 rfl) ?_
  obtain ⟨y1, hy1, h⟩ := o_bind h
  have hPc := hP.sub (ws' := (ws_Md_isPerson G a_t a_t_truth a_t_entries a_t_marked a_t_present a_t_helped a_t_counted a_t_told a_t_runs a_t_whose a_t_where a_t_what a_t_before a_t_behind a_t_isOn a_t_tryEntries a_t_tryMarks a_t_text (0 : Int32) x_t_places x_t_persons x_t_many x_t_size x_t_at x_t_sought x_t_found)) [0] rfl
  have hDc := hD.sub (ws' := (ws_Md_isPerson G a_t a_t_truth a_t_entries a_t_marked a_t_present a_t_helped a_t_counted a_t_told a_t_runs a_t_whose a_t_where a_t_what a_t_before a_t_behind a_t_isOn a_t_tryEntries a_t_tryMarks a_t_text (0 : Int32) x_t_places x_t_persons x_t_many x_t_size x_t_at x_t_sought x_t_found)) [0] (by decide) rfl
  have hFc := va_free (wc := (ws_Md_isPerson G a_t a_t_truth a_t_entries a_t_marked a_t_present a_t_helped a_t_counted a_t_told a_t_runs a_t_whose a_t_where a_t_what a_t_before a_t_behind a_t_isOn a_t_tryEntries a_t_tryMarks a_t_text (0 : Int32) x_t_places x_t_persons x_t_many x_t_size x_t_at x_t_sought x_t_found)) hD hS hA [0] rfl
  refine q_call1 (va_runV (As := [.int p0]) (rest := []) ⟨hx, hb, hml, hown, hts⟩ (c_Md_isPerson l G H.size a_t a_t_truth a_t_entries a_t_marked a_t_present a_t_helped a_t_counted a_t_told a_t_runs a_t_whose a_t_where a_t_what a_t_before a_t_behind a_t_isOn a_t_tryEntries a_t_tryMarks a_t_text p0 (0 : Int32) x_t_places x_t_persons x_t_many x_t_size x_t_at x_t_sought x_t_found _ hy1) (cwV 1 hts (gV gw_441 gw_442 gw_17 gw_36 gw_443) rfl rfl rfl (by decide +kernel) ⟨Nat.le_of_ble_eq_true rfl, Nat.le_of_ble_eq_true rfl⟩) (pV hK hN hPc hDc (ci := 6) (q0 := 0) rfl rfl) rfl rfl hl.1 rfl (lv_room (Nat.le_of_ble_eq_true rfl)) d_Md_time_7 ⟨Nat.le_of_ble_eq_true rfl, Nat.le_of_ble_eq_true rfl⟩) hS (fun q _ h => hFc q h) hFc (fun H1 locs hB hz hk hS => ?_)
  obtain ⟨hP, hD⟩ := q_join (wr := [(a_t_counted, .inl (G.2 2, 8, .inr (.inl x_t_counted))), (a_t_told, .inl (G.2 2, 8, .inr (.inl x_t_told))), (a_t_runs, .inl (G.2 1, 8, .inl x_t_runs))]) (wn := (ws_Md_time G a_t a_t_truth a_t_entries a_t_marked a_t_present a_t_helped a_t_whose a_t_where a_t_what a_t_before a_t_behind a_t_isOn a_t_tryEntries a_t_tryMarks a_t_text a_t_counted a_t_told a_t_runs (0 : Int32) x_t_places x_t_persons x_t_many x_t_size x_t_at x_t_sought x_t_found x_t_counted x_t_told x_t_runs)) hP hD [0] [1, 2, 3] [3, 0, 1, 2] rfl rfl (by decide) (by decide) rfl (by decide) hk hFc hB.1 hB.2
  generalize H1 = H at hP hS ⊢
  replace hP : va_P G.1 vwCl (ws_Md_time G a_t a_t_truth a_t_entries a_t_marked a_t_present a_t_helped a_t_whose a_t_where a_t_what a_t_before a_t_behind a_t_isOn a_t_tryEntries a_t_tryMarks a_t_text a_t_counted a_t_told a_t_runs (0 : Int32) x_t_places x_t_persons x_t_many x_t_size x_t_at x_t_sought x_t_found x_t_counted x_t_told x_t_runs) H := hP
  replace hD : va_D A (ws_Md_time G a_t a_t_truth a_t_entries a_t_marked a_t_present a_t_helped a_t_whose a_t_where a_t_what a_t_before a_t_behind a_t_isOn a_t_tryEntries a_t_tryMarks a_t_text a_t_counted a_t_told a_t_runs (0 : Int32) x_t_places x_t_persons x_t_many x_t_size x_t_at x_t_sought x_t_found x_t_counted x_t_told x_t_runs) := hD
  refine lv_if_eq (tgt := 31) hx hb d_Md_time_10 (by decide) (fun c2 => ?_) (fun c2 => ?_)
  · replace h := (if_pos c2).symm.trans h
    refine lv_ldc2 (v := (-1 : Int64)) hx hb hown (hts _ gw_378) d_Md_time_31 ?_
    cases h
    exact q_lretW hx hb hr hlocks hP hD hS d_Md_time_34
  · replace h := (if_neg c2).symm.trans h
    refine lv_aload_n hx hb d_Md_time_13 rfl (lv_at hl 0 rfl) ?_
    refine lv_iload_n hx hb d_Md_time_14 rfl (lv_at hl 1 rfl) ?_
    refine lv_lload_n hx hb d_Md_time_15 rfl (lv_at hl 2 rfl) ?_
    obtain ⟨y3, hy3, h⟩ := o_bind h
    have hPc := hP.sub (ws' := (ws_Md_mayTell G a_t a_t_truth a_t_entries a_t_marked a_t_present a_t_helped a_t_counted a_t_runs a_t_whose a_t_where a_t_what a_t_before a_t_behind a_t_isOn a_t_tryEntries a_t_tryMarks a_t_text a_t_told (0 : Int32) x_t_places x_t_persons x_t_many x_t_size x_t_at x_t_sought x_t_found x_t_told)) [0, 2] rfl
    have hDc := hD.sub (ws' := (ws_Md_mayTell G a_t a_t_truth a_t_entries a_t_marked a_t_present a_t_helped a_t_counted a_t_runs a_t_whose a_t_where a_t_what a_t_before a_t_behind a_t_isOn a_t_tryEntries a_t_tryMarks a_t_text a_t_told (0 : Int32) x_t_places x_t_persons x_t_many x_t_size x_t_at x_t_sought x_t_found x_t_told)) [0, 2] (by decide) rfl
    have hFc := va_free (wc := (ws_Md_mayTell G a_t a_t_truth a_t_entries a_t_marked a_t_present a_t_helped a_t_counted a_t_runs a_t_whose a_t_where a_t_what a_t_before a_t_behind a_t_isOn a_t_tryEntries a_t_tryMarks a_t_text a_t_told (0 : Int32) x_t_places x_t_persons x_t_many x_t_size x_t_at x_t_sought x_t_found x_t_told)) hD hS hA [0, 2] rfl
    refine q_call1 (va_runV (As := [.int p0, .long p1]) (rest := []) ⟨hx, hb, hml, hown, hts⟩ (c_Md_mayTell l G H.size a_t a_t_truth a_t_entries a_t_marked a_t_present a_t_helped a_t_counted a_t_runs a_t_whose a_t_where a_t_what a_t_before a_t_behind a_t_isOn a_t_tryEntries a_t_tryMarks a_t_text a_t_told p0 p1 (0 : Int32) x_t_places x_t_persons x_t_many x_t_size x_t_at x_t_sought x_t_found x_t_told _ hy3) (cwV 2 hts (gV gw_500 gw_501 gw_22 gw_36 gw_502) rfl rfl rfl (by decide +kernel) ⟨Nat.le_of_ble_eq_true rfl, Nat.le_of_ble_eq_true rfl⟩) (pV hK hN hPc hDc (ci := 6) (q0 := 0) rfl rfl) rfl rfl hl.1 rfl (lv_room (Nat.le_of_ble_eq_true rfl)) d_Md_time_16 ⟨Nat.le_of_ble_eq_true rfl, Nat.le_of_ble_eq_true rfl⟩) hS (fun q _ h => hFc q h) hFc (fun H1 locs hB hz hk hS => ?_)
    obtain ⟨hP, hD⟩ := q_join (wr := [(a_t_counted, .inl (G.2 2, 8, .inr (.inl x_t_counted))), (a_t_runs, .inl (G.2 1, 8, .inl x_t_runs))]) (wn := (ws_Md_time G a_t a_t_truth a_t_entries a_t_marked a_t_present a_t_helped a_t_whose a_t_where a_t_what a_t_before a_t_behind a_t_isOn a_t_tryEntries a_t_tryMarks a_t_text a_t_counted a_t_told a_t_runs (0 : Int32) x_t_places x_t_persons x_t_many x_t_size x_t_at x_t_sought x_t_found x_t_counted x_t_told x_t_runs)) hP hD [0, 2] [1, 3] [2, 0, 3, 1] rfl rfl (by decide) (by decide) rfl (by decide) hk hFc hB.1 hB.2
    generalize H1 = H at hP hS ⊢
    replace hP : va_P G.1 vwCl (ws_Md_time G a_t a_t_truth a_t_entries a_t_marked a_t_present a_t_helped a_t_whose a_t_where a_t_what a_t_before a_t_behind a_t_isOn a_t_tryEntries a_t_tryMarks a_t_text a_t_counted a_t_told a_t_runs (0 : Int32) x_t_places x_t_persons x_t_many x_t_size x_t_at x_t_sought x_t_found x_t_counted x_t_told x_t_runs) H := hP
    replace hD : va_D A (ws_Md_time G a_t a_t_truth a_t_entries a_t_marked a_t_present a_t_helped a_t_whose a_t_where a_t_what a_t_before a_t_behind a_t_isOn a_t_tryEntries a_t_tryMarks a_t_text a_t_counted a_t_told a_t_runs (0 : Int32) x_t_places x_t_persons x_t_many x_t_size x_t_at x_t_sought x_t_found x_t_counted x_t_told x_t_runs) := hD
    refine lv_if_eq (tgt := 31) hx hb d_Md_time_19 (by decide) (fun c4 => ?_) (fun c4 => ?_)
    · replace h := (if_pos c4).symm.trans h
      refine lv_ldc2 (v := (-1 : Int64)) hx hb hown (hts _ gw_378) d_Md_time_31 ?_
      cases h
      exact q_lretW hx hb hr hlocks hP hD hS d_Md_time_34
    · replace h := (if_neg c4).symm.trans h
      refine lv_aload_n hx hb d_Md_time_22 rfl (lv_at hl 0 rfl) ?_
      refine lv_iload_n hx hb d_Md_time_23 rfl (lv_at hl 1 rfl) ?_
      refine lv_lload_n hx hb d_Md_time_24 rfl (lv_at hl 2 rfl) ?_
      obtain ⟨y5, hy5, h⟩ := o_bind h
      have hPc := hP.sub (ws' := (ws_Md_countedTo G a_t a_t_truth a_t_entries a_t_marked a_t_present a_t_helped a_t_whose a_t_where a_t_what a_t_before a_t_behind a_t_isOn a_t_tryEntries a_t_tryMarks a_t_text a_t_counted a_t_told a_t_runs (0 : Int32) x_t_places x_t_persons x_t_many x_t_size x_t_at x_t_sought x_t_found x_t_counted x_t_told x_t_runs)) [0, 1, 2, 3] rfl
      have hDc := hD.sub (ws' := (ws_Md_countedTo G a_t a_t_truth a_t_entries a_t_marked a_t_present a_t_helped a_t_whose a_t_where a_t_what a_t_before a_t_behind a_t_isOn a_t_tryEntries a_t_tryMarks a_t_text a_t_counted a_t_told a_t_runs (0 : Int32) x_t_places x_t_persons x_t_many x_t_size x_t_at x_t_sought x_t_found x_t_counted x_t_told x_t_runs)) [0, 1, 2, 3] (by decide) rfl
      have hFc := va_free (wc := (ws_Md_countedTo G a_t a_t_truth a_t_entries a_t_marked a_t_present a_t_helped a_t_whose a_t_where a_t_what a_t_before a_t_behind a_t_isOn a_t_tryEntries a_t_tryMarks a_t_text a_t_counted a_t_told a_t_runs (0 : Int32) x_t_places x_t_persons x_t_many x_t_size x_t_at x_t_sought x_t_found x_t_counted x_t_told x_t_runs)) hD hS hA [0, 1, 2, 3] rfl
      refine q_call1 (va_runV (As := [.int p0, .long p1]) (rest := []) ⟨hx, hb, hml, hown, hts⟩ (c_Md_countedTo l G H.size a_t a_t_truth a_t_entries a_t_marked a_t_present a_t_helped a_t_whose a_t_where a_t_what a_t_before a_t_behind a_t_isOn a_t_tryEntries a_t_tryMarks a_t_text a_t_counted a_t_told a_t_runs p0 p1 (0 : Int32) x_t_places x_t_persons x_t_many x_t_size x_t_at x_t_sought x_t_found x_t_counted x_t_told x_t_runs _ hy5) (cwV 2 hts (gV gw_503 gw_504 gw_23 gw_36 gw_505) rfl rfl rfl (by decide +kernel) ⟨Nat.le_of_ble_eq_true rfl, Nat.le_of_ble_eq_true rfl⟩) (pV hK hN hPc hDc (ci := 6) (q0 := 0) rfl rfl) rfl rfl hl.1 rfl (lv_room (Nat.le_of_ble_eq_true rfl)) d_Md_time_25 ⟨Nat.le_of_ble_eq_true rfl, Nat.le_of_ble_eq_true rfl⟩) hS (fun q _ h => hFc q h) hFc (fun H1 locs hB hz hk hS => ?_)
      obtain ⟨hP, hD⟩ := q_joinA hFc hB.1 hB.2
      generalize H1 = H at hP hS ⊢
      replace hP : va_P G.1 vwCl (ws_Md_time G a_t a_t_truth a_t_entries a_t_marked a_t_present a_t_helped a_t_whose a_t_where a_t_what a_t_before a_t_behind a_t_isOn a_t_tryEntries a_t_tryMarks a_t_text a_t_counted a_t_told a_t_runs (0 : Int32) x_t_places x_t_persons x_t_many x_t_size x_t_at x_t_sought x_t_found x_t_counted x_t_told x_t_runs) H := hP
      replace hD : va_D A (ws_Md_time G a_t a_t_truth a_t_entries a_t_marked a_t_present a_t_helped a_t_whose a_t_where a_t_what a_t_before a_t_behind a_t_isOn a_t_tryEntries a_t_tryMarks a_t_text a_t_counted a_t_told a_t_runs (0 : Int32) x_t_places x_t_persons x_t_many x_t_size x_t_at x_t_sought x_t_found x_t_counted x_t_told x_t_runs) := hD
      refine lv_goto (tgt := 34) hx hb d_Md_time_28 (by decide) ?_
      cases h
      exact q_lretW hx hb hr hlocks hP hD hS d_Md_time_34

theorem d_Md_rows_0 : decode prog_8_method_35_code 0 = .ok (.aload_n 0, 1) := by decide +kernel
theorem d_Md_rows_1 : decode prog_8_method_35_code 1 = .ok (.iconst 0, 1) := by decide +kernel
theorem d_Md_rows_2 : decode prog_8_method_35_code 2 = .ok (.putfield 69, 3) := by decide +kernel
theorem d_Md_rows_5 : decode prog_8_method_35_code 5 = .ok (.aload_n 0, 1) := by decide +kernel
theorem d_Md_rows_6 : decode prog_8_method_35_code 6 = .ok (.getfield 79, 3) := by decide +kernel
theorem d_Md_rows_9 : decode prog_8_method_35_code 9 = .ok (.ireturn, 1) := by decide +kernel
-- PlayStatesModel.rows()I 
def ws_Md_rows (G : gG) (a_t a_t_truth a_t_entries a_t_marked a_t_present a_t_helped a_t_counted a_t_told a_t_runs a_t_whose a_t_where a_t_what a_t_before a_t_behind a_t_isOn a_t_tryEntries a_t_tryMarks a_t_text : Nat)  (x_t_thrown : Int32) (x_t_places : Int32) (x_t_persons : Int32) (x_t_many : Int32) (x_t_size : Int32) (x_t_at : Int32) (x_t_sought : Int32) (x_t_found : Int32) : va_W := [(a_t, .inr (6, [.int x_t_thrown, .int x_t_places, .int x_t_persons, .ref a_t_truth, .ref a_t_entries, .ref a_t_marked, .ref a_t_present, .ref a_t_helped, .ref a_t_counted, .ref a_t_told, .ref a_t_runs, .int x_t_many, .ref a_t_whose, .ref a_t_where, .ref a_t_what, .ref a_t_before, .ref a_t_behind, .ref a_t_isOn, .ref a_t_tryEntries, .ref a_t_tryMarks, .int x_t_size, .ref a_t_text, .int x_t_at, .int x_t_sought, .int x_t_found]))]
def f_Md_rows   (x_t_thrown : Int32) (x_t_places : Int32) (x_t_persons : Int32) (x_t_many : Int32) (x_t_size : Int32) (x_t_at : Int32) (x_t_sought : Int32) (x_t_found : Int32) : Option (Int32 × Int32) :=
  some (x_t_many, (0 : Int32))
set_option maxHeartbeats 4000000 in
set_option maxRecDepth 100000 in
theorem c_Md_rows (l : Launch) (G : gG) (sz : Nat) (a_t a_t_truth a_t_entries a_t_marked a_t_present a_t_helped a_t_counted a_t_told a_t_runs a_t_whose a_t_where a_t_what a_t_before a_t_behind a_t_isOn a_t_tryEntries a_t_tryMarks a_t_text : Nat)   (x_t_thrown : Int32) (x_t_places : Int32) (x_t_persons : Int32) (x_t_many : Int32) (x_t_size : Int32) (x_t_at : Int32) (x_t_sought : Int32) (x_t_found : Int32) (r : Int32) (x_t_thrown' : Int32) (h : f_Md_rows x_t_thrown x_t_places x_t_persons x_t_many x_t_size x_t_at x_t_sought x_t_found = some (r, x_t_thrown'))  : cN l y_Md_rows w_Md_rows { frames := 0, cells := 0, slots := 0, locals := 0 } G sz [.ref a_t] (ws_Md_rows G a_t a_t_truth a_t_entries a_t_marked a_t_present a_t_helped a_t_counted a_t_told a_t_runs a_t_whose a_t_where a_t_what a_t_before a_t_behind a_t_isOn a_t_tryEntries a_t_tryMarks a_t_text x_t_thrown x_t_places x_t_persons x_t_many x_t_size x_t_at x_t_sought x_t_found) (some (.int r)) (wB G (ws_Md_rows G a_t a_t_truth a_t_entries a_t_marked a_t_present a_t_helped a_t_counted a_t_told a_t_runs a_t_whose a_t_where a_t_what a_t_before a_t_behind a_t_isOn a_t_tryEntries a_t_tryMarks a_t_text x_t_thrown' x_t_places x_t_persons x_t_many x_t_size x_t_at x_t_sought x_t_found)) 0 0 := by
  refine cN_ofW (cc := prog_8_method_35_code) (maxL := 1) (ret := (some .int)) (by decide) rfl (Nat.le_of_ble_eq_true rfl) ?_
  intro p e s m args below meth c A H locs ls hx hb hr hts hown hlocks hin hml hK hN hP hD hA hS hl
  replace hl : lv_has ls 1 [(0, .ref a_t)] := hl
  replace hown : s.vm.findClass "PlayStatesModel" = some m.cls := hown
  unfold f_Md_rows at h
  refine lv_aload_n hx hb d_Md_rows_0 rfl (lv_at hl 0 rfl) ?_
  refine lv_iconst (v := (0 : Int32)) hx hb d_Md_rows_1 (by decide) ?_
  refine va_put (D := G.1) (ci := 6) (v := .int (0 : Int32)) (ty := .int) (C := "PlayStatesModel") (T := TMd) (N := 25) hx hb hts iw_6 tyMd tyMd_ok nmMd hown hK hP hD hS 0 rfl rfl 0 (by decide) (hts _ gw_379) (fun _ h9 => h9) rfl (by decide +kernel) (by rfl) (by rfl) (Nat.le_of_ble_eq_true rfl) d_Md_rows_2 (fun H locs hP hD hS => ?_)
  replace hP : va_P G.1 vwCl (ws_Md_rows G a_t a_t_truth a_t_entries a_t_marked a_t_present a_t_helped a_t_counted a_t_told a_t_runs a_t_whose a_t_where a_t_what a_t_before a_t_behind a_t_isOn a_t_tryEntries a_t_tryMarks a_t_text (0 : Int32) x_t_places x_t_persons x_t_many x_t_size x_t_at x_t_sought x_t_found) H := hP
  replace hD : va_D A (ws_Md_rows G a_t a_t_truth a_t_entries a_t_marked a_t_present a_t_helped a_t_counted a_t_told a_t_runs a_t_whose a_t_where a_t_what a_t_before a_t_behind a_t_isOn a_t_tryEntries a_t_tryMarks a_t_text (0 : Int32) x_t_places x_t_persons x_t_many x_t_size x_t_at x_t_sought x_t_found) := hD
  refine lv_aload_n hx hb d_Md_rows_5 rfl (lv_at hl 0 rfl) ?_
  refine va_get (D := G.1) (ci := 6) (v := .int x_t_many) (C := "PlayStatesModel") (T := TMd) (N := 25) hx hb hts iw_6 hown hK hP 0 rfl rfl 11 (by decide) (hts _ gw_390) (fun _ h9 => h9) rfl d_Md_rows_6 ?_
  cases h
  exact q_iretW hx hb hr hlocks hP hD hS d_Md_rows_9

theorem gw_399 : (.fieldLink "PlayStatesModel" 128 "PlayStatesModel" "size" "I" : Cond) ∈ GW := gT 437 (by decide +kernel) (by decide +kernel)
theorem gw_400 : (.fieldLink "PlayStatesModel" 60 "PlayStatesModel" "text" "[I" : Cond) ∈ GW := gT 438 (by decide +kernel) (by decide +kernel)
theorem d_Md_unit_0 : decode prog_8_method_30_code 0 = .ok (.aload_n 0, 1) := by decide +kernel
theorem d_Md_unit_1 : decode prog_8_method_30_code 1 = .ok (.iconst 0, 1) := by decide +kernel
theorem d_Md_unit_2 : decode prog_8_method_30_code 2 = .ok (.putfield 69, 3) := by decide +kernel
theorem d_Md_unit_5 : decode prog_8_method_30_code 5 = .ok (.iload_n 1, 1) := by decide +kernel
theorem d_Md_unit_6 : decode prog_8_method_30_code 6 = .ok (.ifCond .lt 20, 3) := by decide +kernel
theorem d_Md_unit_9 : decode prog_8_method_30_code 9 = .ok (.iload_n 1, 1) := by decide +kernel
theorem d_Md_unit_10 : decode prog_8_method_30_code 10 = .ok (.sipush 255, 3) := by decide +kernel
theorem d_Md_unit_13 : decode prog_8_method_30_code 13 = .ok (.if_icmp .gt 13, 3) := by decide +kernel
theorem d_Md_unit_16 : decode prog_8_method_30_code 16 = .ok (.aload_n 0, 1) := by decide +kernel
theorem d_Md_unit_17 : decode prog_8_method_30_code 17 = .ok (.getfield 128, 3) := by decide +kernel
theorem d_Md_unit_20 : decode prog_8_method_30_code 20 = .ok (.sipush 1000, 3) := by decide +kernel
theorem d_Md_unit_23 : decode prog_8_method_30_code 23 = .ok (.if_icmp .ne 5, 3) := by decide +kernel
theorem d_Md_unit_26 : decode prog_8_method_30_code 26 = .ok (.iconst 0, 1) := by decide +kernel
theorem d_Md_unit_27 : decode prog_8_method_30_code 27 = .ok (.ireturn, 1) := by decide +kernel
theorem d_Md_unit_28 : decode prog_8_method_30_code 28 = .ok (.aload_n 0, 1) := by decide +kernel
theorem d_Md_unit_29 : decode prog_8_method_30_code 29 = .ok (.getfield 60, 3) := by decide +kernel
theorem d_Md_unit_32 : decode prog_8_method_30_code 32 = .ok (.aload_n 0, 1) := by decide +kernel
theorem d_Md_unit_33 : decode prog_8_method_30_code 33 = .ok (.getfield 128, 3) := by decide +kernel
theorem d_Md_unit_36 : decode prog_8_method_30_code 36 = .ok (.iload_n 1, 1) := by decide +kernel
theorem d_Md_unit_37 : decode prog_8_method_30_code 37 = .ok (.iastore, 1) := by decide +kernel
theorem d_Md_unit_38 : decode prog_8_method_30_code 38 = .ok (.aload_n 0, 1) := by decide +kernel
theorem d_Md_unit_39 : decode prog_8_method_30_code 39 = .ok (.dup, 1) := by decide +kernel
theorem d_Md_unit_40 : decode prog_8_method_30_code 40 = .ok (.getfield 128, 3) := by decide +kernel
theorem d_Md_unit_43 : decode prog_8_method_30_code 43 = .ok (.iconst 1, 1) := by decide +kernel
theorem d_Md_unit_44 : decode prog_8_method_30_code 44 = .ok (.iadd, 1) := by decide +kernel
theorem d_Md_unit_45 : decode prog_8_method_30_code 45 = .ok (.putfield 128, 3) := by decide +kernel
theorem d_Md_unit_48 : decode prog_8_method_30_code 48 = .ok (.iconst 1, 1) := by decide +kernel
theorem d_Md_unit_49 : decode prog_8_method_30_code 49 = .ok (.ireturn, 1) := by decide +kernel
-- PlayStatesModel.unit(I)Z 
def ws_Md_unit (G : gG) (a_t a_t_truth a_t_entries a_t_marked a_t_present a_t_helped a_t_counted a_t_told a_t_runs a_t_whose a_t_where a_t_what a_t_before a_t_behind a_t_isOn a_t_tryEntries a_t_tryMarks a_t_text : Nat)  (x_t_thrown : Int32) (x_t_places : Int32) (x_t_persons : Int32) (x_t_many : Int32) (x_t_size : Int32) (x_t_at : Int32) (x_t_sought : Int32) (x_t_found : Int32) (x_t_text : Nat → Int32) : va_W := [(a_t, .inr (6, [.int x_t_thrown, .int x_t_places, .int x_t_persons, .ref a_t_truth, .ref a_t_entries, .ref a_t_marked, .ref a_t_present, .ref a_t_helped, .ref a_t_counted, .ref a_t_told, .ref a_t_runs, .int x_t_many, .ref a_t_whose, .ref a_t_where, .ref a_t_what, .ref a_t_before, .ref a_t_behind, .ref a_t_isOn, .ref a_t_tryEntries, .ref a_t_tryMarks, .int x_t_size, .ref a_t_text, .int x_t_at, .int x_t_sought, .int x_t_found])), (a_t_text, .inl (G.2 0, 1000, .inl x_t_text))]
def f_Md_unit  (p0 : Int32) (x_t_thrown : Int32) (x_t_places : Int32) (x_t_persons : Int32) (x_t_many : Int32) (x_t_size : Int32) (x_t_at : Int32) (x_t_sought : Int32) (x_t_found : Int32) (x_t_text : Nat → Int32) : Option (Int32 × Int32 × Int32 × (Nat → Int32)) :=
  (if p0 < 0 then some ((0 : Int32), (0 : Int32), x_t_size, x_t_text) else (if (255 : Int32) < p0 then some ((0 : Int32), (0 : Int32), x_t_size, x_t_text) else (if x_t_size = (1000 : Int32) then some ((0 : Int32), (0 : Int32), x_t_size, x_t_text) else (if inB x_t_size 1000 then some ((1 : Int32), (0 : Int32), (x_t_size + (1 : Int32)), (upd x_t_text x_t_size.toNatClampNeg p0)) else none))))
set_option maxHeartbeats 4000000 in
set_option maxRecDepth 100000 in
theorem c_Md_unit (l : Launch) (G : gG) (sz : Nat) (a_t a_t_truth a_t_entries a_t_marked a_t_present a_t_helped a_t_counted a_t_told a_t_runs a_t_whose a_t_where a_t_what a_t_before a_t_behind a_t_isOn a_t_tryEntries a_t_tryMarks a_t_text : Nat)  (p0 : Int32) (x_t_thrown : Int32) (x_t_places : Int32) (x_t_persons : Int32) (x_t_many : Int32) (x_t_size : Int32) (x_t_at : Int32) (x_t_sought : Int32) (x_t_found : Int32) (x_t_text : Nat → Int32) (r : Int32) (x_t_thrown' : Int32) (x_t_size' : Int32) (x_t_text' : Nat → Int32) (h : f_Md_unit p0 x_t_thrown x_t_places x_t_persons x_t_many x_t_size x_t_at x_t_sought x_t_found x_t_text = some (r, x_t_thrown', x_t_size', x_t_text'))  : cN l y_Md_unit w_Md_unit { frames := 0, cells := 0, slots := 0, locals := 0 } G sz [.ref a_t, .int p0] (ws_Md_unit G a_t a_t_truth a_t_entries a_t_marked a_t_present a_t_helped a_t_counted a_t_told a_t_runs a_t_whose a_t_where a_t_what a_t_before a_t_behind a_t_isOn a_t_tryEntries a_t_tryMarks a_t_text x_t_thrown x_t_places x_t_persons x_t_many x_t_size x_t_at x_t_sought x_t_found x_t_text) (some (.int r)) (wB G (ws_Md_unit G a_t a_t_truth a_t_entries a_t_marked a_t_present a_t_helped a_t_counted a_t_told a_t_runs a_t_whose a_t_where a_t_what a_t_before a_t_behind a_t_isOn a_t_tryEntries a_t_tryMarks a_t_text x_t_thrown' x_t_places x_t_persons x_t_many x_t_size' x_t_at x_t_sought x_t_found x_t_text')) 0 0 := by
  refine cN_ofW (cc := prog_8_method_30_code) (maxL := 2) (ret := (some .boolean)) (by decide) rfl (Nat.le_of_ble_eq_true rfl) ?_
  intro p e s m args below meth c A H locs ls hx hb hr hts hown hlocks hin hml hK hN hP hD hA hS hl
  replace hl : lv_has ls 2 [(0, .ref a_t), (1, .int p0)] := hl
  replace hown : s.vm.findClass "PlayStatesModel" = some m.cls := hown
  unfold f_Md_unit at h
  refine lv_aload_n hx hb d_Md_unit_0 rfl (lv_at hl 0 rfl) ?_
  refine lv_iconst (v := (0 : Int32)) hx hb d_Md_unit_1 (by decide) ?_
  refine va_put (D := G.1) (ci := 6) (v := .int (0 : Int32)) (ty := .int) (C := "PlayStatesModel") (T := TMd) (N := 25) hx hb hts iw_6 tyMd tyMd_ok nmMd hown hK hP hD hS 0 rfl rfl 0 (by decide) (hts _ gw_379) (fun _ h9 => h9) rfl (by decide +kernel) (by rfl) (by rfl) (Nat.le_of_ble_eq_true rfl) d_Md_unit_2 (fun H locs hP hD hS => ?_)
  replace hP : va_P G.1 vwCl (ws_Md_unit G a_t a_t_truth a_t_entries a_t_marked a_t_present a_t_helped a_t_counted a_t_told a_t_runs a_t_whose a_t_where a_t_what a_t_before a_t_behind a_t_isOn a_t_tryEntries a_t_tryMarks a_t_text (0 : Int32) x_t_places x_t_persons x_t_many x_t_size x_t_at x_t_sought x_t_found x_t_text) H := hP
  replace hD : va_D A (ws_Md_unit G a_t a_t_truth a_t_entries a_t_marked a_t_present a_t_helped a_t_counted a_t_told a_t_runs a_t_whose a_t_where a_t_what a_t_before a_t_behind a_t_isOn a_t_tryEntries a_t_tryMarks a_t_text (0 : Int32) x_t_places x_t_persons x_t_many x_t_size x_t_at x_t_sought x_t_found x_t_text) := hD
  refine lv_iload_n hx hb d_Md_unit_5 rfl (lv_at hl 1 rfl) ?_
  refine lv_if_lt (tgt := 26) hx hb d_Md_unit_6 (by decide) (fun c1 => ?_) (fun c1 => ?_)
  · replace h := (if_pos c1).symm.trans h
    refine lv_iconst (v := (0 : Int32)) hx hb d_Md_unit_26 (by decide) ?_
    cases h
    exact q_zretW hx hb hr hlocks (by decide) hP hD hS d_Md_unit_27
  · replace h := (if_neg c1).symm.trans h
    refine lv_iload_n hx hb d_Md_unit_9 rfl (lv_at hl 1 rfl) ?_
    refine lv_sipush (v := (255 : Int32)) hx hb d_Md_unit_10 (by decide) ?_
    refine lv_icmp_gt (tgt := 26) hx hb d_Md_unit_13 (by decide) (fun c2 => ?_) (fun c2 => ?_)
    · replace h := (if_pos c2).symm.trans h
      refine lv_iconst (v := (0 : Int32)) hx hb d_Md_unit_26 (by decide) ?_
      cases h
      exact q_zretW hx hb hr hlocks (by decide) hP hD hS d_Md_unit_27
    · replace h := (if_neg c2).symm.trans h
      refine lv_aload_n hx hb d_Md_unit_16 rfl (lv_at hl 0 rfl) ?_
      refine va_get (D := G.1) (ci := 6) (v := .int x_t_size) (C := "PlayStatesModel") (T := TMd) (N := 25) hx hb hts iw_6 hown hK hP 0 rfl rfl 20 (by decide) (hts _ gw_399) (fun _ h9 => h9) rfl d_Md_unit_17 ?_
      refine lv_sipush (v := (1000 : Int32)) hx hb d_Md_unit_20 (by decide) ?_
      refine lv_icmp_ne (tgt := 28) hx hb d_Md_unit_23 (by decide) (fun c3 => ?_) (fun c3 => ?_)
      · replace h := (if_neg c3).symm.trans h
        refine lv_aload_n hx hb d_Md_unit_28 rfl (lv_at hl 0 rfl) ?_
        refine va_get (D := G.1) (ci := 6) (v := .ref a_t_text) (C := "PlayStatesModel") (T := TMd) (N := 25) hx hb hts iw_6 hown hK hP 0 rfl rfl 21 (by decide) (hts _ gw_400) (fun _ h9 => h9) rfl d_Md_unit_29 ?_
        refine lv_aload_n hx hb d_Md_unit_32 rfl (lv_at hl 0 rfl) ?_
        refine va_get (D := G.1) (ci := 6) (v := .int x_t_size) (C := "PlayStatesModel") (T := TMd) (N := 25) hx hb hts iw_6 hown hK hP 0 rfl rfl 20 (by decide) (hts _ gw_399) (fun _ h9 => h9) rfl d_Md_unit_33 ?_
        refine lv_iload_n hx hb d_Md_unit_36 rfl (lv_at hl 1 rfl) ?_
        obtain ⟨i4, h⟩ := o_if h
        refine va_iast (n := 1000) (f := x_t_text) hx hb hK hP hD hS 1 0 rfl rfl i4 d_Md_unit_37 (fun H locs hP hD hS => ?_)
        replace hP : va_P G.1 vwCl (ws_Md_unit G a_t a_t_truth a_t_entries a_t_marked a_t_present a_t_helped a_t_counted a_t_told a_t_runs a_t_whose a_t_where a_t_what a_t_before a_t_behind a_t_isOn a_t_tryEntries a_t_tryMarks a_t_text (0 : Int32) x_t_places x_t_persons x_t_many x_t_size x_t_at x_t_sought x_t_found (upd x_t_text x_t_size.toNatClampNeg p0)) H := hP
        replace hD : va_D A (ws_Md_unit G a_t a_t_truth a_t_entries a_t_marked a_t_present a_t_helped a_t_counted a_t_told a_t_runs a_t_whose a_t_where a_t_what a_t_before a_t_behind a_t_isOn a_t_tryEntries a_t_tryMarks a_t_text (0 : Int32) x_t_places x_t_persons x_t_many x_t_size x_t_at x_t_sought x_t_found (upd x_t_text x_t_size.toNatClampNeg p0)) := hD
        refine lv_aload_n hx hb d_Md_unit_38 rfl (lv_at hl 0 rfl) ?_
        refine lv_dup hx hb d_Md_unit_39 rfl ?_
        refine va_get (D := G.1) (ci := 6) (v := .int x_t_size) (C := "PlayStatesModel") (T := TMd) (N := 25) hx hb hts iw_6 hown hK hP 0 rfl rfl 20 (by decide) (hts _ gw_399) (fun _ h9 => h9) rfl d_Md_unit_40 ?_
        refine lv_iconst (v := (1 : Int32)) hx hb d_Md_unit_43 (by decide) ?_
        refine lv_iadd hx hb d_Md_unit_44 ?_
        refine va_put (D := G.1) (ci := 6) (v := .int (x_t_size + (1 : Int32))) (ty := .int) (C := "PlayStatesModel") (T := TMd) (N := 25) hx hb hts iw_6 tyMd tyMd_ok nmMd hown hK hP hD hS 0 rfl rfl 20 (by decide) (hts _ gw_399) (fun _ h9 => h9) rfl (by decide +kernel) (by rfl) (by rfl) (Nat.le_of_ble_eq_true rfl) d_Md_unit_45 (fun H locs hP hD hS => ?_)
        replace hP : va_P G.1 vwCl (ws_Md_unit G a_t a_t_truth a_t_entries a_t_marked a_t_present a_t_helped a_t_counted a_t_told a_t_runs a_t_whose a_t_where a_t_what a_t_before a_t_behind a_t_isOn a_t_tryEntries a_t_tryMarks a_t_text (0 : Int32) x_t_places x_t_persons x_t_many (x_t_size + (1 : Int32)) x_t_at x_t_sought x_t_found (upd x_t_text x_t_size.toNatClampNeg p0)) H := hP
        replace hD : va_D A (ws_Md_unit G a_t a_t_truth a_t_entries a_t_marked a_t_present a_t_helped a_t_counted a_t_told a_t_runs a_t_whose a_t_where a_t_what a_t_before a_t_behind a_t_isOn a_t_tryEntries a_t_tryMarks a_t_text (0 : Int32) x_t_places x_t_persons x_t_many (x_t_size + (1 : Int32)) x_t_at x_t_sought x_t_found (upd x_t_text x_t_size.toNatClampNeg p0)) := hD
        refine lv_iconst (v := (1 : Int32)) hx hb d_Md_unit_48 (by decide) ?_
        cases h
        exact q_zretW hx hb hr hlocks (by decide) hP hD hS d_Md_unit_49
      · replace h := (if_pos c3).symm.trans h
        refine lv_iconst (v := (0 : Int32)) hx hb d_Md_unit_26 (by decide) ?_
        cases h
        exact q_zretW hx hb hr hlocks (by decide) hP hD hS d_Md_unit_27

theorem gw_401 : (.fieldLink "PlayStatesModel" 116 "PlayStatesModel" "at" "I" : Cond) ∈ GW := gT 439 (by decide +kernel) (by decide +kernel)
theorem gw_402 : (.fieldLink "PlayStatesModel" 119 "PlayStatesModel" "sought" "I" : Cond) ∈ GW := gT 440 (by decide +kernel) (by decide +kernel)
theorem gw_403 : (.fieldLink "PlayStatesModel" 122 "PlayStatesModel" "found" "I" : Cond) ∈ GW := gT 441 (by decide +kernel) (by decide +kernel)
theorem d_Md_say_0 : decode prog_8_method_28_code 0 = .ok (.aload_n 0, 1) := by decide +kernel
theorem d_Md_say_1 : decode prog_8_method_28_code 1 = .ok (.getfield 116, 3) := by decide +kernel
theorem d_Md_say_4 : decode prog_8_method_28_code 4 = .ok (.aload_n 0, 1) := by decide +kernel
theorem d_Md_say_5 : decode prog_8_method_28_code 5 = .ok (.getfield 119, 3) := by decide +kernel
theorem d_Md_say_8 : decode prog_8_method_28_code 8 = .ok (.if_icmp .ne 8, 3) := by decide +kernel
theorem d_Md_say_11 : decode prog_8_method_28_code 11 = .ok (.aload_n 0, 1) := by decide +kernel
theorem d_Md_say_12 : decode prog_8_method_28_code 12 = .ok (.iload_n 1, 1) := by decide +kernel
theorem d_Md_say_13 : decode prog_8_method_28_code 13 = .ok (.putfield 122, 3) := by decide +kernel
theorem d_Md_say_16 : decode prog_8_method_28_code 16 = .ok (.aload_n 0, 1) := by decide +kernel
theorem d_Md_say_17 : decode prog_8_method_28_code 17 = .ok (.dup, 1) := by decide +kernel
theorem d_Md_say_18 : decode prog_8_method_28_code 18 = .ok (.getfield 116, 3) := by decide +kernel
theorem d_Md_say_21 : decode prog_8_method_28_code 21 = .ok (.iconst 1, 1) := by decide +kernel
theorem d_Md_say_22 : decode prog_8_method_28_code 22 = .ok (.iadd, 1) := by decide +kernel
theorem d_Md_say_23 : decode prog_8_method_28_code 23 = .ok (.putfield 116, 3) := by decide +kernel
theorem d_Md_say_26 : decode prog_8_method_28_code 26 = .ok (.return_, 1) := by decide +kernel
-- PlayStatesModel.say(I)V 
def ws_Md_say (G : gG) (a_t a_t_truth a_t_entries a_t_marked a_t_present a_t_helped a_t_counted a_t_told a_t_runs a_t_whose a_t_where a_t_what a_t_before a_t_behind a_t_isOn a_t_tryEntries a_t_tryMarks a_t_text : Nat)  (x_t_thrown : Int32) (x_t_places : Int32) (x_t_persons : Int32) (x_t_many : Int32) (x_t_size : Int32) (x_t_at : Int32) (x_t_sought : Int32) (x_t_found : Int32) : va_W := [(a_t, .inr (6, [.int x_t_thrown, .int x_t_places, .int x_t_persons, .ref a_t_truth, .ref a_t_entries, .ref a_t_marked, .ref a_t_present, .ref a_t_helped, .ref a_t_counted, .ref a_t_told, .ref a_t_runs, .int x_t_many, .ref a_t_whose, .ref a_t_where, .ref a_t_what, .ref a_t_before, .ref a_t_behind, .ref a_t_isOn, .ref a_t_tryEntries, .ref a_t_tryMarks, .int x_t_size, .ref a_t_text, .int x_t_at, .int x_t_sought, .int x_t_found]))]
def f_Md_say  (p0 : Int32) (x_t_thrown : Int32) (x_t_places : Int32) (x_t_persons : Int32) (x_t_many : Int32) (x_t_size : Int32) (x_t_at : Int32) (x_t_sought : Int32) (x_t_found : Int32) : Option (Int32 × Int32) :=
  (if x_t_at = x_t_sought then some ((x_t_at + (1 : Int32)), p0) else some ((x_t_at + (1 : Int32)), x_t_found))
set_option maxHeartbeats 4000000 in
set_option maxRecDepth 100000 in
theorem c_Md_say (l : Launch) (G : gG) (sz : Nat) (a_t a_t_truth a_t_entries a_t_marked a_t_present a_t_helped a_t_counted a_t_told a_t_runs a_t_whose a_t_where a_t_what a_t_before a_t_behind a_t_isOn a_t_tryEntries a_t_tryMarks a_t_text : Nat)  (p0 : Int32) (x_t_thrown : Int32) (x_t_places : Int32) (x_t_persons : Int32) (x_t_many : Int32) (x_t_size : Int32) (x_t_at : Int32) (x_t_sought : Int32) (x_t_found : Int32) (x_t_at' : Int32) (x_t_found' : Int32) (h : f_Md_say p0 x_t_thrown x_t_places x_t_persons x_t_many x_t_size x_t_at x_t_sought x_t_found = some (x_t_at', x_t_found'))  : cN l y_Md_say w_Md_say { frames := 0, cells := 0, slots := 0, locals := 0 } G sz [.ref a_t, .int p0] (ws_Md_say G a_t a_t_truth a_t_entries a_t_marked a_t_present a_t_helped a_t_counted a_t_told a_t_runs a_t_whose a_t_where a_t_what a_t_before a_t_behind a_t_isOn a_t_tryEntries a_t_tryMarks a_t_text x_t_thrown x_t_places x_t_persons x_t_many x_t_size x_t_at x_t_sought x_t_found) none (wB G (ws_Md_say G a_t a_t_truth a_t_entries a_t_marked a_t_present a_t_helped a_t_counted a_t_told a_t_runs a_t_whose a_t_where a_t_what a_t_before a_t_behind a_t_isOn a_t_tryEntries a_t_tryMarks a_t_text x_t_thrown x_t_places x_t_persons x_t_many x_t_size x_t_at' x_t_sought x_t_found')) 0 0 := by
  refine cN_ofW (cc := prog_8_method_28_code) (maxL := 2) (ret := none) (by decide) rfl (Nat.le_of_ble_eq_true rfl) ?_
  intro p e s m args below meth c A H locs ls hx hb hr hts hown hlocks hin hml hK hN hP hD hA hS hl
  replace hl : lv_has ls 2 [(0, .ref a_t), (1, .int p0)] := hl
  replace hown : s.vm.findClass "PlayStatesModel" = some m.cls := hown
  unfold f_Md_say at h
  refine lv_aload_n hx hb d_Md_say_0 rfl (lv_at hl 0 rfl) ?_
  refine va_get (D := G.1) (ci := 6) (v := .int x_t_at) (C := "PlayStatesModel") (T := TMd) (N := 25) hx hb hts iw_6 hown hK hP 0 rfl rfl 22 (by decide) (hts _ gw_401) (fun _ h9 => h9) rfl d_Md_say_1 ?_
  refine lv_aload_n hx hb d_Md_say_4 rfl (lv_at hl 0 rfl) ?_
  refine va_get (D := G.1) (ci := 6) (v := .int x_t_sought) (C := "PlayStatesModel") (T := TMd) (N := 25) hx hb hts iw_6 hown hK hP 0 rfl rfl 23 (by decide) (hts _ gw_402) (fun _ h9 => h9) rfl d_Md_say_5 ?_
  refine lv_icmp_ne (tgt := 16) hx hb d_Md_say_8 (by decide) (fun c1 => ?_) (fun c1 => ?_)
  · replace h := (if_neg c1).symm.trans h
    refine lv_aload_n hx hb d_Md_say_16 rfl (lv_at hl 0 rfl) ?_
    refine lv_dup hx hb d_Md_say_17 rfl ?_
    refine va_get (D := G.1) (ci := 6) (v := .int x_t_at) (C := "PlayStatesModel") (T := TMd) (N := 25) hx hb hts iw_6 hown hK hP 0 rfl rfl 22 (by decide) (hts _ gw_401) (fun _ h9 => h9) rfl d_Md_say_18 ?_
    refine lv_iconst (v := (1 : Int32)) hx hb d_Md_say_21 (by decide) ?_
    refine lv_iadd hx hb d_Md_say_22 ?_
    refine va_put (D := G.1) (ci := 6) (v := .int (x_t_at + (1 : Int32))) (ty := .int) (C := "PlayStatesModel") (T := TMd) (N := 25) hx hb hts iw_6 tyMd tyMd_ok nmMd hown hK hP hD hS 0 rfl rfl 22 (by decide) (hts _ gw_401) (fun _ h9 => h9) rfl (by decide +kernel) (by rfl) (by rfl) (Nat.le_of_ble_eq_true rfl) d_Md_say_23 (fun H locs hP hD hS => ?_)
    replace hP : va_P G.1 vwCl (ws_Md_say G a_t a_t_truth a_t_entries a_t_marked a_t_present a_t_helped a_t_counted a_t_told a_t_runs a_t_whose a_t_where a_t_what a_t_before a_t_behind a_t_isOn a_t_tryEntries a_t_tryMarks a_t_text x_t_thrown x_t_places x_t_persons x_t_many x_t_size (x_t_at + (1 : Int32)) x_t_sought x_t_found) H := hP
    replace hD : va_D A (ws_Md_say G a_t a_t_truth a_t_entries a_t_marked a_t_present a_t_helped a_t_counted a_t_told a_t_runs a_t_whose a_t_where a_t_what a_t_before a_t_behind a_t_isOn a_t_tryEntries a_t_tryMarks a_t_text x_t_thrown x_t_places x_t_persons x_t_many x_t_size (x_t_at + (1 : Int32)) x_t_sought x_t_found) := hD
    cases h
    exact q_vretW hx hb hr hlocks hP hD hS d_Md_say_26
  · replace h := (if_pos c1).symm.trans h
    refine lv_aload_n hx hb d_Md_say_11 rfl (lv_at hl 0 rfl) ?_
    refine lv_iload_n hx hb d_Md_say_12 rfl (lv_at hl 1 rfl) ?_
    refine va_put (D := G.1) (ci := 6) (v := .int p0) (ty := .int) (C := "PlayStatesModel") (T := TMd) (N := 25) hx hb hts iw_6 tyMd tyMd_ok nmMd hown hK hP hD hS 0 rfl rfl 24 (by decide) (hts _ gw_403) (fun _ h9 => h9) rfl (by decide +kernel) (by rfl) (by rfl) (Nat.le_of_ble_eq_true rfl) d_Md_say_13 (fun H locs hP hD hS => ?_)
    replace hP : va_P G.1 vwCl (ws_Md_say G a_t a_t_truth a_t_entries a_t_marked a_t_present a_t_helped a_t_counted a_t_told a_t_runs a_t_whose a_t_where a_t_what a_t_before a_t_behind a_t_isOn a_t_tryEntries a_t_tryMarks a_t_text x_t_thrown x_t_places x_t_persons x_t_many x_t_size x_t_at x_t_sought p0) H := hP
    replace hD : va_D A (ws_Md_say G a_t a_t_truth a_t_entries a_t_marked a_t_present a_t_helped a_t_counted a_t_told a_t_runs a_t_whose a_t_where a_t_what a_t_before a_t_behind a_t_isOn a_t_tryEntries a_t_tryMarks a_t_text x_t_thrown x_t_places x_t_persons x_t_many x_t_size x_t_at x_t_sought p0) := hD
    refine lv_aload_n hx hb d_Md_say_16 rfl (lv_at hl 0 rfl) ?_
    refine lv_dup hx hb d_Md_say_17 rfl ?_
    refine va_get (D := G.1) (ci := 6) (v := .int x_t_at) (C := "PlayStatesModel") (T := TMd) (N := 25) hx hb hts iw_6 hown hK hP 0 rfl rfl 22 (by decide) (hts _ gw_401) (fun _ h9 => h9) rfl d_Md_say_18 ?_
    refine lv_iconst (v := (1 : Int32)) hx hb d_Md_say_21 (by decide) ?_
    refine lv_iadd hx hb d_Md_say_22 ?_
    refine va_put (D := G.1) (ci := 6) (v := .int (x_t_at + (1 : Int32))) (ty := .int) (C := "PlayStatesModel") (T := TMd) (N := 25) hx hb hts iw_6 tyMd tyMd_ok nmMd hown hK hP hD hS 0 rfl rfl 22 (by decide) (hts _ gw_401) (fun _ h9 => h9) rfl (by decide +kernel) (by rfl) (by rfl) (Nat.le_of_ble_eq_true rfl) d_Md_say_23 (fun H locs hP hD hS => ?_)
    replace hP : va_P G.1 vwCl (ws_Md_say G a_t a_t_truth a_t_entries a_t_marked a_t_present a_t_helped a_t_counted a_t_told a_t_runs a_t_whose a_t_where a_t_what a_t_before a_t_behind a_t_isOn a_t_tryEntries a_t_tryMarks a_t_text x_t_thrown x_t_places x_t_persons x_t_many x_t_size (x_t_at + (1 : Int32)) x_t_sought p0) H := hP
    replace hD : va_D A (ws_Md_say G a_t a_t_truth a_t_entries a_t_marked a_t_present a_t_helped a_t_counted a_t_told a_t_runs a_t_whose a_t_where a_t_what a_t_before a_t_behind a_t_isOn a_t_tryEntries a_t_tryMarks a_t_text x_t_thrown x_t_places x_t_persons x_t_many x_t_size (x_t_at + (1 : Int32)) x_t_sought p0) := hD
    cases h
    exact q_vretW hx hb hr hlocks hP hD hS d_Md_say_26

theorem d_Md_byteAt_0 : decode prog_8_method_31_code 0 = .ok (.iload_n 1, 1) := by decide +kernel
theorem d_Md_byteAt_1 : decode prog_8_method_31_code 1 = .ok (.aload_n 0, 1) := by decide +kernel
theorem d_Md_byteAt_2 : decode prog_8_method_31_code 2 = .ok (.getfield 128, 3) := by decide +kernel
theorem d_Md_byteAt_5 : decode prog_8_method_31_code 5 = .ok (.if_icmp .ge 12, 3) := by decide +kernel
theorem d_Md_byteAt_8 : decode prog_8_method_31_code 8 = .ok (.aload_n 0, 1) := by decide +kernel
theorem d_Md_byteAt_9 : decode prog_8_method_31_code 9 = .ok (.getfield 60, 3) := by decide +kernel
theorem d_Md_byteAt_12 : decode prog_8_method_31_code 12 = .ok (.iload_n 1, 1) := by decide +kernel
theorem d_Md_byteAt_13 : decode prog_8_method_31_code 13 = .ok (.iaload, 1) := by decide +kernel
theorem d_Md_byteAt_14 : decode prog_8_method_31_code 14 = .ok (.goto 4, 3) := by decide +kernel
theorem d_Md_byteAt_17 : decode prog_8_method_31_code 17 = .ok (.iconst (-1), 1) := by decide +kernel
theorem d_Md_byteAt_18 : decode prog_8_method_31_code 18 = .ok (.ireturn, 1) := by decide +kernel
-- PlayStatesModel.byteAt(I)I 
def ws_Md_byteAt (G : gG) (a_t a_t_truth a_t_entries a_t_marked a_t_present a_t_helped a_t_counted a_t_told a_t_runs a_t_whose a_t_where a_t_what a_t_before a_t_behind a_t_isOn a_t_tryEntries a_t_tryMarks a_t_text : Nat)  (x_t_thrown : Int32) (x_t_places : Int32) (x_t_persons : Int32) (x_t_many : Int32) (x_t_size : Int32) (x_t_at : Int32) (x_t_sought : Int32) (x_t_found : Int32) (x_t_text : Nat → Int32) : va_W := [(a_t, .inr (6, [.int x_t_thrown, .int x_t_places, .int x_t_persons, .ref a_t_truth, .ref a_t_entries, .ref a_t_marked, .ref a_t_present, .ref a_t_helped, .ref a_t_counted, .ref a_t_told, .ref a_t_runs, .int x_t_many, .ref a_t_whose, .ref a_t_where, .ref a_t_what, .ref a_t_before, .ref a_t_behind, .ref a_t_isOn, .ref a_t_tryEntries, .ref a_t_tryMarks, .int x_t_size, .ref a_t_text, .int x_t_at, .int x_t_sought, .int x_t_found])), (a_t_text, .inl (G.2 0, 1000, .inl x_t_text))]
def f_Md_byteAt  (p0 : Int32) (x_t_thrown : Int32) (x_t_places : Int32) (x_t_persons : Int32) (x_t_many : Int32) (x_t_size : Int32) (x_t_at : Int32) (x_t_sought : Int32) (x_t_found : Int32) (x_t_text : Nat → Int32) : Option (Int32) :=
  (if x_t_size ≤ p0 then some (-1 : Int32) else (if inB p0 1000 then some (x_t_text p0.toNatClampNeg) else none))
set_option maxHeartbeats 4000000 in
set_option maxRecDepth 100000 in
theorem c_Md_byteAt (l : Launch) (G : gG) (sz : Nat) (a_t a_t_truth a_t_entries a_t_marked a_t_present a_t_helped a_t_counted a_t_told a_t_runs a_t_whose a_t_where a_t_what a_t_before a_t_behind a_t_isOn a_t_tryEntries a_t_tryMarks a_t_text : Nat)  (p0 : Int32) (x_t_thrown : Int32) (x_t_places : Int32) (x_t_persons : Int32) (x_t_many : Int32) (x_t_size : Int32) (x_t_at : Int32) (x_t_sought : Int32) (x_t_found : Int32) (x_t_text : Nat → Int32) (r : Int32) (h : f_Md_byteAt p0 x_t_thrown x_t_places x_t_persons x_t_many x_t_size x_t_at x_t_sought x_t_found x_t_text = some r)  : cN l y_Md_byteAt w_Md_byteAt { frames := 0, cells := 0, slots := 0, locals := 0 } G sz [.ref a_t, .int p0] (ws_Md_byteAt G a_t a_t_truth a_t_entries a_t_marked a_t_present a_t_helped a_t_counted a_t_told a_t_runs a_t_whose a_t_where a_t_what a_t_before a_t_behind a_t_isOn a_t_tryEntries a_t_tryMarks a_t_text x_t_thrown x_t_places x_t_persons x_t_many x_t_size x_t_at x_t_sought x_t_found x_t_text) (some (.int r)) (wB G (ws_Md_byteAt G a_t a_t_truth a_t_entries a_t_marked a_t_present a_t_helped a_t_counted a_t_told a_t_runs a_t_whose a_t_where a_t_what a_t_before a_t_behind a_t_isOn a_t_tryEntries a_t_tryMarks a_t_text x_t_thrown x_t_places x_t_persons x_t_many x_t_size x_t_at x_t_sought x_t_found x_t_text)) 0 0 := by
  refine cN_ofW (cc := prog_8_method_31_code) (maxL := 2) (ret := (some .int)) (by decide) rfl (Nat.le_of_ble_eq_true rfl) ?_
  intro p e s m args below meth c A H locs ls hx hb hr hts hown hlocks hin hml hK hN hP hD hA hS hl
  replace hl : lv_has ls 2 [(0, .ref a_t), (1, .int p0)] := hl
  replace hown : s.vm.findClass "PlayStatesModel" = some m.cls := hown
  unfold f_Md_byteAt at h
  refine lv_iload_n hx hb d_Md_byteAt_0 rfl (lv_at hl 1 rfl) ?_
  refine lv_aload_n hx hb d_Md_byteAt_1 rfl (lv_at hl 0 rfl) ?_
  refine va_get (D := G.1) (ci := 6) (v := .int x_t_size) (C := "PlayStatesModel") (T := TMd) (N := 25) hx hb hts iw_6 hown hK hP 0 rfl rfl 20 (by decide) (hts _ gw_399) (fun _ h9 => h9) rfl d_Md_byteAt_2 ?_
  refine lv_icmp_ge (tgt := 17) hx hb d_Md_byteAt_5 (by decide) (fun c1 => ?_) (fun c1 => ?_)
  · replace h := (if_pos c1).symm.trans h
    refine lv_iconst (v := (-1 : Int32)) hx hb d_Md_byteAt_17 (by decide) ?_
    cases h
    exact q_iretW hx hb hr hlocks hP hD hS d_Md_byteAt_18
  · replace h := (if_neg c1).symm.trans h
    refine lv_aload_n hx hb d_Md_byteAt_8 rfl (lv_at hl 0 rfl) ?_
    refine va_get (D := G.1) (ci := 6) (v := .ref a_t_text) (C := "PlayStatesModel") (T := TMd) (N := 25) hx hb hts iw_6 hown hK hP 0 rfl rfl 21 (by decide) (hts _ gw_400) (fun _ h9 => h9) rfl d_Md_byteAt_9 ?_
    refine lv_iload_n hx hb d_Md_byteAt_12 rfl (lv_at hl 1 rfl) ?_
    obtain ⟨i2, h⟩ := o_if h
    refine va_iald (n := 1000) (f := x_t_text) hx hb hK hP 1 0 rfl rfl i2 d_Md_byteAt_13 ?_
    refine lv_goto (tgt := 18) hx hb d_Md_byteAt_14 (by decide) ?_
    cases h
    exact q_iretW hx hb hr hlocks hP hD hS d_Md_byteAt_18

theorem gw_543 : (.code ⟨"PlayStatesModel", "byteAt", "(I)I"⟩ prog_8_method_31_code 2 (some .int) : Cond) ∈ GW := gT 621 (by decide +kernel) (by decide +kernel)
theorem gw_541 : (.methodLink "PlayStatesModel" 131 ⟨"PlayStatesModel", "byteAt", "(I)I"⟩ : Cond) ∈ GW := gT 618 (by decide +kernel) (by decide +kernel)
theorem gw_542 : (.instanceMethod ⟨"PlayStatesModel", "byteAt", "(I)I"⟩ : Cond) ∈ GW := gT 620 (by decide +kernel) (by decide +kernel)
theorem gw_29 : (.selects "PlayStatesModel" ⟨"PlayStatesModel", "byteAt", "(I)I"⟩ ⟨"PlayStatesModel", "byteAt", "(I)I"⟩ : Cond) ∈ GW := gP 29 (by decide +kernel) (by decide +kernel)
theorem d_Md_digitAt_0 : decode prog_8_method_32_code 0 = .ok (.aload_n 0, 1) := by decide +kernel
theorem d_Md_digitAt_1 : decode prog_8_method_32_code 1 = .ok (.iload_n 1, 1) := by decide +kernel
theorem d_Md_digitAt_2 : decode prog_8_method_32_code 2 = .ok (.invokevirtual 131, 3) := by decide +kernel
theorem d_Md_digitAt_5 : decode prog_8_method_32_code 5 = .ok (.bipush 49, 2) := by decide +kernel
theorem d_Md_digitAt_7 : decode prog_8_method_32_code 7 = .ok (.if_icmp .lt 24, 3) := by decide +kernel
theorem d_Md_digitAt_10 : decode prog_8_method_32_code 10 = .ok (.aload_n 0, 1) := by decide +kernel
theorem d_Md_digitAt_11 : decode prog_8_method_32_code 11 = .ok (.iload_n 1, 1) := by decide +kernel
theorem d_Md_digitAt_12 : decode prog_8_method_32_code 12 = .ok (.invokevirtual 131, 3) := by decide +kernel
theorem d_Md_digitAt_15 : decode prog_8_method_32_code 15 = .ok (.bipush 57, 2) := by decide +kernel
theorem d_Md_digitAt_17 : decode prog_8_method_32_code 17 = .ok (.if_icmp .gt 14, 3) := by decide +kernel
theorem d_Md_digitAt_20 : decode prog_8_method_32_code 20 = .ok (.aload_n 0, 1) := by decide +kernel
theorem d_Md_digitAt_21 : decode prog_8_method_32_code 21 = .ok (.iload_n 1, 1) := by decide +kernel
theorem d_Md_digitAt_22 : decode prog_8_method_32_code 22 = .ok (.invokevirtual 131, 3) := by decide +kernel
theorem d_Md_digitAt_25 : decode prog_8_method_32_code 25 = .ok (.bipush 48, 2) := by decide +kernel
theorem d_Md_digitAt_27 : decode prog_8_method_32_code 27 = .ok (.isub, 1) := by decide +kernel
theorem d_Md_digitAt_28 : decode prog_8_method_32_code 28 = .ok (.goto 4, 3) := by decide +kernel
theorem d_Md_digitAt_31 : decode prog_8_method_32_code 31 = .ok (.iconst 0, 1) := by decide +kernel
theorem d_Md_digitAt_32 : decode prog_8_method_32_code 32 = .ok (.ireturn, 1) := by decide +kernel
-- PlayStatesModel.digitAt(I)I 
def ws_Md_digitAt (G : gG) (a_t a_t_truth a_t_entries a_t_marked a_t_present a_t_helped a_t_counted a_t_told a_t_runs a_t_whose a_t_where a_t_what a_t_before a_t_behind a_t_isOn a_t_tryEntries a_t_tryMarks a_t_text : Nat)  (x_t_thrown : Int32) (x_t_places : Int32) (x_t_persons : Int32) (x_t_many : Int32) (x_t_size : Int32) (x_t_at : Int32) (x_t_sought : Int32) (x_t_found : Int32) (x_t_text : Nat → Int32) : va_W := [(a_t, .inr (6, [.int x_t_thrown, .int x_t_places, .int x_t_persons, .ref a_t_truth, .ref a_t_entries, .ref a_t_marked, .ref a_t_present, .ref a_t_helped, .ref a_t_counted, .ref a_t_told, .ref a_t_runs, .int x_t_many, .ref a_t_whose, .ref a_t_where, .ref a_t_what, .ref a_t_before, .ref a_t_behind, .ref a_t_isOn, .ref a_t_tryEntries, .ref a_t_tryMarks, .int x_t_size, .ref a_t_text, .int x_t_at, .int x_t_sought, .int x_t_found])), (a_t_text, .inl (G.2 0, 1000, .inl x_t_text))]
def f_Md_digitAt  (p0 : Int32) (x_t_thrown : Int32) (x_t_places : Int32) (x_t_persons : Int32) (x_t_many : Int32) (x_t_size : Int32) (x_t_at : Int32) (x_t_sought : Int32) (x_t_found : Int32) (x_t_text : Nat → Int32) : Option (Int32) :=
  ((f_Md_byteAt p0 x_t_thrown x_t_places x_t_persons x_t_many x_t_size x_t_at x_t_sought x_t_found x_t_text).bind fun y1 => (if y1 < (49 : Int32) then some (0 : Int32) else ((f_Md_byteAt p0 x_t_thrown x_t_places x_t_persons x_t_many x_t_size x_t_at x_t_sought x_t_found x_t_text).bind fun y3 => (if (57 : Int32) < y3 then some (0 : Int32) else ((f_Md_byteAt p0 x_t_thrown x_t_places x_t_persons x_t_many x_t_size x_t_at x_t_sought x_t_found x_t_text).bind fun y5 => some (y5 - (48 : Int32)))))))
set_option maxHeartbeats 4000000 in
set_option maxRecDepth 100000 in
theorem c_Md_digitAt (l : Launch) (G : gG) (sz : Nat) (a_t a_t_truth a_t_entries a_t_marked a_t_present a_t_helped a_t_counted a_t_told a_t_runs a_t_whose a_t_where a_t_what a_t_before a_t_behind a_t_isOn a_t_tryEntries a_t_tryMarks a_t_text : Nat)  (p0 : Int32) (x_t_thrown : Int32) (x_t_places : Int32) (x_t_persons : Int32) (x_t_many : Int32) (x_t_size : Int32) (x_t_at : Int32) (x_t_sought : Int32) (x_t_found : Int32) (x_t_text : Nat → Int32) (r : Int32) (h : f_Md_digitAt p0 x_t_thrown x_t_places x_t_persons x_t_many x_t_size x_t_at x_t_sought x_t_found x_t_text = some r)  : cN l y_Md_digitAt w_Md_digitAt { frames := 1, cells := 0, slots := 0, locals := 21 } G sz [.ref a_t, .int p0] (ws_Md_digitAt G a_t a_t_truth a_t_entries a_t_marked a_t_present a_t_helped a_t_counted a_t_told a_t_runs a_t_whose a_t_where a_t_what a_t_before a_t_behind a_t_isOn a_t_tryEntries a_t_tryMarks a_t_text x_t_thrown x_t_places x_t_persons x_t_many x_t_size x_t_at x_t_sought x_t_found x_t_text) (some (.int r)) (wB G (ws_Md_digitAt G a_t a_t_truth a_t_entries a_t_marked a_t_present a_t_helped a_t_counted a_t_told a_t_runs a_t_whose a_t_where a_t_what a_t_before a_t_behind a_t_isOn a_t_tryEntries a_t_tryMarks a_t_text x_t_thrown x_t_places x_t_persons x_t_many x_t_size x_t_at x_t_sought x_t_found x_t_text)) 0 0 := by
  refine cN_ofW (cc := prog_8_method_32_code) (maxL := 2) (ret := (some .int)) (by decide) rfl (Nat.le_of_ble_eq_true rfl) ?_
  intro p e s m args below meth c A H locs ls hx hb hr hts hown hlocks hin hml hK hN hP hD hA hS hl
  replace hl : lv_has ls 2 [(0, .ref a_t), (1, .int p0)] := hl
  replace hown : s.vm.findClass "PlayStatesModel" = some m.cls := hown
  unfold f_Md_digitAt at h
  refine lv_aload_n hx hb d_Md_digitAt_0 rfl (lv_at hl 0 rfl) ?_
  refine lv_iload_n hx hb d_Md_digitAt_1 rfl (lv_at hl 1 rfl) ?_
  obtain ⟨y1, hy1, h⟩ := o_bind h
  have hPc := hP.sub (ws' := (ws_Md_byteAt G a_t a_t_truth a_t_entries a_t_marked a_t_present a_t_helped a_t_counted a_t_told a_t_runs a_t_whose a_t_where a_t_what a_t_before a_t_behind a_t_isOn a_t_tryEntries a_t_tryMarks a_t_text x_t_thrown x_t_places x_t_persons x_t_many x_t_size x_t_at x_t_sought x_t_found x_t_text)) [0, 1] rfl
  have hDc := hD.sub (ws' := (ws_Md_byteAt G a_t a_t_truth a_t_entries a_t_marked a_t_present a_t_helped a_t_counted a_t_told a_t_runs a_t_whose a_t_where a_t_what a_t_before a_t_behind a_t_isOn a_t_tryEntries a_t_tryMarks a_t_text x_t_thrown x_t_places x_t_persons x_t_many x_t_size x_t_at x_t_sought x_t_found x_t_text)) [0, 1] (by decide) rfl
  have hFc := va_free (wc := (ws_Md_byteAt G a_t a_t_truth a_t_entries a_t_marked a_t_present a_t_helped a_t_counted a_t_told a_t_runs a_t_whose a_t_where a_t_what a_t_before a_t_behind a_t_isOn a_t_tryEntries a_t_tryMarks a_t_text x_t_thrown x_t_places x_t_persons x_t_many x_t_size x_t_at x_t_sought x_t_found x_t_text)) hD hS hA [0, 1] rfl
  refine q_call1 (va_runV (As := [.int p0]) (rest := []) ⟨hx, hb, hml, hown, hts⟩ (c_Md_byteAt l G H.size a_t a_t_truth a_t_entries a_t_marked a_t_present a_t_helped a_t_counted a_t_told a_t_runs a_t_whose a_t_where a_t_what a_t_before a_t_behind a_t_isOn a_t_tryEntries a_t_tryMarks a_t_text p0 x_t_thrown x_t_places x_t_persons x_t_many x_t_size x_t_at x_t_sought x_t_found x_t_text _ hy1) (cwV 1 hts (gV gw_541 gw_542 gw_29 gw_36 gw_543) rfl rfl rfl (by decide +kernel) ⟨Nat.le_of_ble_eq_true rfl, Nat.le_of_ble_eq_true rfl⟩) (pV hK hN hPc hDc (ci := 6) (q0 := 0) rfl rfl) rfl rfl hl.1 rfl (lv_room (Nat.le_of_ble_eq_true rfl)) d_Md_digitAt_2 ⟨Nat.le_of_ble_eq_true rfl, Nat.le_of_ble_eq_true rfl⟩) hS (fun q _ h => hFc q h) hFc (fun H1 locs hB hz hk hS => ?_)
  obtain ⟨hP, hD⟩ := q_joinA hFc hB.1 hB.2
  generalize H1 = H at hP hS ⊢
  replace hP : va_P G.1 vwCl (ws_Md_digitAt G a_t a_t_truth a_t_entries a_t_marked a_t_present a_t_helped a_t_counted a_t_told a_t_runs a_t_whose a_t_where a_t_what a_t_before a_t_behind a_t_isOn a_t_tryEntries a_t_tryMarks a_t_text x_t_thrown x_t_places x_t_persons x_t_many x_t_size x_t_at x_t_sought x_t_found x_t_text) H := hP
  replace hD : va_D A (ws_Md_digitAt G a_t a_t_truth a_t_entries a_t_marked a_t_present a_t_helped a_t_counted a_t_told a_t_runs a_t_whose a_t_where a_t_what a_t_before a_t_behind a_t_isOn a_t_tryEntries a_t_tryMarks a_t_text x_t_thrown x_t_places x_t_persons x_t_many x_t_size x_t_at x_t_sought x_t_found x_t_text) := hD
  refine lv_bipush (v := (49 : Int32)) hx hb d_Md_digitAt_5 (by decide) ?_
  refine lv_icmp_lt (tgt := 31) hx hb d_Md_digitAt_7 (by decide) (fun c2 => ?_) (fun c2 => ?_)
  · replace h := (if_pos c2).symm.trans h
    refine lv_iconst (v := (0 : Int32)) hx hb d_Md_digitAt_31 (by decide) ?_
    cases h
    exact q_iretW hx hb hr hlocks hP hD hS d_Md_digitAt_32
  · replace h := (if_neg c2).symm.trans h
    refine lv_aload_n hx hb d_Md_digitAt_10 rfl (lv_at hl 0 rfl) ?_
    refine lv_iload_n hx hb d_Md_digitAt_11 rfl (lv_at hl 1 rfl) ?_
    obtain ⟨y3, hy3, h⟩ := o_bind h
    have hPc := hP.sub (ws' := (ws_Md_byteAt G a_t a_t_truth a_t_entries a_t_marked a_t_present a_t_helped a_t_counted a_t_told a_t_runs a_t_whose a_t_where a_t_what a_t_before a_t_behind a_t_isOn a_t_tryEntries a_t_tryMarks a_t_text x_t_thrown x_t_places x_t_persons x_t_many x_t_size x_t_at x_t_sought x_t_found x_t_text)) [0, 1] rfl
    have hDc := hD.sub (ws' := (ws_Md_byteAt G a_t a_t_truth a_t_entries a_t_marked a_t_present a_t_helped a_t_counted a_t_told a_t_runs a_t_whose a_t_where a_t_what a_t_before a_t_behind a_t_isOn a_t_tryEntries a_t_tryMarks a_t_text x_t_thrown x_t_places x_t_persons x_t_many x_t_size x_t_at x_t_sought x_t_found x_t_text)) [0, 1] (by decide) rfl
    have hFc := va_free (wc := (ws_Md_byteAt G a_t a_t_truth a_t_entries a_t_marked a_t_present a_t_helped a_t_counted a_t_told a_t_runs a_t_whose a_t_where a_t_what a_t_before a_t_behind a_t_isOn a_t_tryEntries a_t_tryMarks a_t_text x_t_thrown x_t_places x_t_persons x_t_many x_t_size x_t_at x_t_sought x_t_found x_t_text)) hD hS hA [0, 1] rfl
    refine q_call1 (va_runV (As := [.int p0]) (rest := []) ⟨hx, hb, hml, hown, hts⟩ (c_Md_byteAt l G H.size a_t a_t_truth a_t_entries a_t_marked a_t_present a_t_helped a_t_counted a_t_told a_t_runs a_t_whose a_t_where a_t_what a_t_before a_t_behind a_t_isOn a_t_tryEntries a_t_tryMarks a_t_text p0 x_t_thrown x_t_places x_t_persons x_t_many x_t_size x_t_at x_t_sought x_t_found x_t_text _ hy3) (cwV 1 hts (gV gw_541 gw_542 gw_29 gw_36 gw_543) rfl rfl rfl (by decide +kernel) ⟨Nat.le_of_ble_eq_true rfl, Nat.le_of_ble_eq_true rfl⟩) (pV hK hN hPc hDc (ci := 6) (q0 := 0) rfl rfl) rfl rfl hl.1 rfl (lv_room (Nat.le_of_ble_eq_true rfl)) d_Md_digitAt_12 ⟨Nat.le_of_ble_eq_true rfl, Nat.le_of_ble_eq_true rfl⟩) hS (fun q _ h => hFc q h) hFc (fun H1 locs hB hz hk hS => ?_)
    obtain ⟨hP, hD⟩ := q_joinA hFc hB.1 hB.2
    generalize H1 = H at hP hS ⊢
    replace hP : va_P G.1 vwCl (ws_Md_digitAt G a_t a_t_truth a_t_entries a_t_marked a_t_present a_t_helped a_t_counted a_t_told a_t_runs a_t_whose a_t_where a_t_what a_t_before a_t_behind a_t_isOn a_t_tryEntries a_t_tryMarks a_t_text x_t_thrown x_t_places x_t_persons x_t_many x_t_size x_t_at x_t_sought x_t_found x_t_text) H := hP
    replace hD : va_D A (ws_Md_digitAt G a_t a_t_truth a_t_entries a_t_marked a_t_present a_t_helped a_t_counted a_t_told a_t_runs a_t_whose a_t_where a_t_what a_t_before a_t_behind a_t_isOn a_t_tryEntries a_t_tryMarks a_t_text x_t_thrown x_t_places x_t_persons x_t_many x_t_size x_t_at x_t_sought x_t_found x_t_text) := hD
    refine lv_bipush (v := (57 : Int32)) hx hb d_Md_digitAt_15 (by decide) ?_
    refine lv_icmp_gt (tgt := 31) hx hb d_Md_digitAt_17 (by decide) (fun c4 => ?_) (fun c4 => ?_)
    · replace h := (if_pos c4).symm.trans h
      refine lv_iconst (v := (0 : Int32)) hx hb d_Md_digitAt_31 (by decide) ?_
      cases h
      exact q_iretW hx hb hr hlocks hP hD hS d_Md_digitAt_32
    · replace h := (if_neg c4).symm.trans h
      refine lv_aload_n hx hb d_Md_digitAt_20 rfl (lv_at hl 0 rfl) ?_
      refine lv_iload_n hx hb d_Md_digitAt_21 rfl (lv_at hl 1 rfl) ?_
      obtain ⟨y5, hy5, h⟩ := o_bind h
      have hPc := hP.sub (ws' := (ws_Md_byteAt G a_t a_t_truth a_t_entries a_t_marked a_t_present a_t_helped a_t_counted a_t_told a_t_runs a_t_whose a_t_where a_t_what a_t_before a_t_behind a_t_isOn a_t_tryEntries a_t_tryMarks a_t_text x_t_thrown x_t_places x_t_persons x_t_many x_t_size x_t_at x_t_sought x_t_found x_t_text)) [0, 1] rfl
      have hDc := hD.sub (ws' := (ws_Md_byteAt G a_t a_t_truth a_t_entries a_t_marked a_t_present a_t_helped a_t_counted a_t_told a_t_runs a_t_whose a_t_where a_t_what a_t_before a_t_behind a_t_isOn a_t_tryEntries a_t_tryMarks a_t_text x_t_thrown x_t_places x_t_persons x_t_many x_t_size x_t_at x_t_sought x_t_found x_t_text)) [0, 1] (by decide) rfl
      have hFc := va_free (wc := (ws_Md_byteAt G a_t a_t_truth a_t_entries a_t_marked a_t_present a_t_helped a_t_counted a_t_told a_t_runs a_t_whose a_t_where a_t_what a_t_before a_t_behind a_t_isOn a_t_tryEntries a_t_tryMarks a_t_text x_t_thrown x_t_places x_t_persons x_t_many x_t_size x_t_at x_t_sought x_t_found x_t_text)) hD hS hA [0, 1] rfl
      refine q_call1 (va_runV (As := [.int p0]) (rest := []) ⟨hx, hb, hml, hown, hts⟩ (c_Md_byteAt l G H.size a_t a_t_truth a_t_entries a_t_marked a_t_present a_t_helped a_t_counted a_t_told a_t_runs a_t_whose a_t_where a_t_what a_t_before a_t_behind a_t_isOn a_t_tryEntries a_t_tryMarks a_t_text p0 x_t_thrown x_t_places x_t_persons x_t_many x_t_size x_t_at x_t_sought x_t_found x_t_text _ hy5) (cwV 1 hts (gV gw_541 gw_542 gw_29 gw_36 gw_543) rfl rfl rfl (by decide +kernel) ⟨Nat.le_of_ble_eq_true rfl, Nat.le_of_ble_eq_true rfl⟩) (pV hK hN hPc hDc (ci := 6) (q0 := 0) rfl rfl) rfl rfl hl.1 rfl (lv_room (Nat.le_of_ble_eq_true rfl)) d_Md_digitAt_22 ⟨Nat.le_of_ble_eq_true rfl, Nat.le_of_ble_eq_true rfl⟩) hS (fun q _ h => hFc q h) hFc (fun H1 locs hB hz hk hS => ?_)
      obtain ⟨hP, hD⟩ := q_joinA hFc hB.1 hB.2
      generalize H1 = H at hP hS ⊢
      replace hP : va_P G.1 vwCl (ws_Md_digitAt G a_t a_t_truth a_t_entries a_t_marked a_t_present a_t_helped a_t_counted a_t_told a_t_runs a_t_whose a_t_where a_t_what a_t_before a_t_behind a_t_isOn a_t_tryEntries a_t_tryMarks a_t_text x_t_thrown x_t_places x_t_persons x_t_many x_t_size x_t_at x_t_sought x_t_found x_t_text) H := hP
      replace hD : va_D A (ws_Md_digitAt G a_t a_t_truth a_t_entries a_t_marked a_t_present a_t_helped a_t_counted a_t_told a_t_runs a_t_whose a_t_where a_t_what a_t_before a_t_behind a_t_isOn a_t_tryEntries a_t_tryMarks a_t_text x_t_thrown x_t_places x_t_persons x_t_many x_t_size x_t_at x_t_sought x_t_found x_t_text) := hD
      refine lv_bipush (v := (48 : Int32)) hx hb d_Md_digitAt_25 (by decide) ?_
      refine lv_isub hx hb d_Md_digitAt_27 ?_
      refine lv_goto (tgt := 32) hx hb d_Md_digitAt_28 (by decide) ?_
      cases h
      exact q_iretW hx hb hr hlocks hP hD hS d_Md_digitAt_32
