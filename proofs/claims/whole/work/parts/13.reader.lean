theorem gw_90 : (.fieldLink "PlayStates$StateReader" 9 "PlayStates$StateReader" "board" "LPlayStates$Board;" : Cond) ∈ GW := gT 77 (by decide +kernel) (by decide +kernel)
theorem gw_291 : (.code ⟨"PlayStates$Board", "clear", "()V"⟩ prog_2_method_2_code 1 none : Cond) ∈ GW := gT 320 (by decide +kernel) (by decide +kernel)
theorem gw_335 : (.methodLink "PlayStates$StateReader" 19 ⟨"PlayStates$Board", "clear", "()V"⟩ : Cond) ∈ GW := gT 367 (by decide +kernel) (by decide +kernel)
theorem gw_289 : (.instanceMethod ⟨"PlayStates$Board", "clear", "()V"⟩ : Cond) ∈ GW := gT 318 (by decide +kernel) (by decide +kernel)
theorem gw_290 : (.selects "PlayStates$Board" ⟨"PlayStates$Board", "clear", "()V"⟩ ⟨"PlayStates$Board", "clear", "()V"⟩ : Cond) ∈ GW := gT 319 (by decide +kernel) (by decide +kernel)
theorem gw_92 : (.fieldLink "PlayStates$StateReader" 24 "PlayStates$StateReader" "placesRead" "I" : Cond) ∈ GW := gT 79 (by decide +kernel) (by decide +kernel)
theorem gw_93 : (.fieldLink "PlayStates$StateReader" 27 "PlayStates$StateReader" "mayOpen" "Z" : Cond) ∈ GW := gT 80 (by decide +kernel) (by decide +kernel)
theorem gw_94 : (.fieldLink "PlayStates$StateReader" 31 "PlayStates$StateReader" "open" "Z" : Cond) ∈ GW := gT 81 (by decide +kernel) (by decide +kernel)
theorem d_Sr_begin_0 : decode prog_6_method_2_code 0 = .ok (.aload_n 0, 1) := by decide +kernel
theorem d_Sr_begin_1 : decode prog_6_method_2_code 1 = .ok (.getfield 9, 3) := by decide +kernel
theorem d_Sr_begin_4 : decode prog_6_method_2_code 4 = .ok (.invokevirtual 19, 3) := by decide +kernel
theorem d_Sr_begin_7 : decode prog_6_method_2_code 7 = .ok (.aload_n 0, 1) := by decide +kernel
theorem d_Sr_begin_8 : decode prog_6_method_2_code 8 = .ok (.iconst 0, 1) := by decide +kernel
theorem d_Sr_begin_9 : decode prog_6_method_2_code 9 = .ok (.putfield 24, 3) := by decide +kernel
theorem d_Sr_begin_12 : decode prog_6_method_2_code 12 = .ok (.aload_n 0, 1) := by decide +kernel
theorem d_Sr_begin_13 : decode prog_6_method_2_code 13 = .ok (.iconst 0, 1) := by decide +kernel
theorem d_Sr_begin_14 : decode prog_6_method_2_code 14 = .ok (.putfield 27, 3) := by decide +kernel
theorem d_Sr_begin_17 : decode prog_6_method_2_code 17 = .ok (.aload_n 0, 1) := by decide +kernel
theorem d_Sr_begin_18 : decode prog_6_method_2_code 18 = .ok (.iconst 0, 1) := by decide +kernel
theorem d_Sr_begin_19 : decode prog_6_method_2_code 19 = .ok (.putfield 31, 3) := by decide +kernel
theorem d_Sr_begin_22 : decode prog_6_method_2_code 22 = .ok (.return_, 1) := by decide +kernel
-- PlayStates$StateReader.begin()V 
def ws_Sr_begin (G : gG) (a_t a_t_board a_t_board_entries a_t_board_markBits : Nat) (n : Nat) (x_t_placeCount : Int32) (x_t_placesRead : Int32) (x_t_mayOpen : Int32) (x_t_open : Int32) (x_t_lastMark : Int32) (x_t_board_entries : Nat → Int32) (x_t_board_markBits : Nat → Int32) : va_W := [(a_t, .inr (4, [.ref a_t_board, .int x_t_placeCount, .int x_t_placesRead, .int x_t_mayOpen, .int x_t_open, .int x_t_lastMark])), (a_t_board, .inr (0, [.ref a_t_board_entries, .ref a_t_board_markBits])), (a_t_board_entries, .inl (G.2 0, n, .inl x_t_board_entries)), (a_t_board_markBits, .inl (G.2 0, n, .inl x_t_board_markBits))]
def f_Sr_begin (fu : Nat) (n : Nat)  (x_t_placeCount : Int32) (x_t_placesRead : Int32) (x_t_mayOpen : Int32) (x_t_open : Int32) (x_t_lastMark : Int32) (x_t_board_entries : Nat → Int32) (x_t_board_markBits : Nat → Int32) : Option (Int32 × Int32 × Int32 × (Nat → Int32) × (Nat → Int32)) :=
  ((f_Bd_clear fu n x_t_board_entries x_t_board_markBits).bind fun y1 => some ((0 : Int32), (0 : Int32), (0 : Int32), y1.1, y1.2))
set_option maxHeartbeats 4000000 in
set_option maxRecDepth 100000 in
theorem c_Sr_begin (l : Launch) (G : gG) (sz : Nat) (a_t a_t_board a_t_board_entries a_t_board_markBits : Nat) (fu : Nat) (n : Nat)  (x_t_placeCount : Int32) (x_t_placesRead : Int32) (x_t_mayOpen : Int32) (x_t_open : Int32) (x_t_lastMark : Int32) (x_t_board_entries : Nat → Int32) (x_t_board_markBits : Nat → Int32) (x_t_placesRead' : Int32) (x_t_mayOpen' : Int32) (x_t_open' : Int32) (x_t_board_entries' : Nat → Int32) (x_t_board_markBits' : Nat → Int32) (h : f_Sr_begin fu n x_t_placeCount x_t_placesRead x_t_mayOpen x_t_open x_t_lastMark x_t_board_entries x_t_board_markBits = some (x_t_placesRead', x_t_mayOpen', x_t_open', x_t_board_entries', x_t_board_markBits'))  : cN l y_Sr_begin w_Sr_begin { frames := 2, cells := 0, slots := 0, locals := 43 } G sz [.ref a_t] (ws_Sr_begin G a_t a_t_board a_t_board_entries a_t_board_markBits n x_t_placeCount x_t_placesRead x_t_mayOpen x_t_open x_t_lastMark x_t_board_entries x_t_board_markBits) none (wB G (ws_Sr_begin G a_t a_t_board a_t_board_entries a_t_board_markBits n x_t_placeCount x_t_placesRead' x_t_mayOpen' x_t_open' x_t_lastMark x_t_board_entries' x_t_board_markBits')) 0 0 := by
  refine cN_ofW (cc := prog_6_method_2_code) (maxL := 1) (ret := none) (by decide) rfl (Nat.le_of_ble_eq_true rfl) ?_
  intro p e s m args below meth c A H locs ls hx hb hr hts hown hlocks hin hml hK hN hP hD hA hS hl
  replace hl : lv_has ls 1 [(0, .ref a_t)] := hl
  replace hown : s.vm.findClass "PlayStates$StateReader" = some m.cls := hown
  unfold f_Sr_begin at h
  refine lv_aload_n hx hb d_Sr_begin_0 rfl (lv_at hl 0 rfl) ?_
  refine va_get (D := G.1) (ci := 4) (v := .ref a_t_board) (C := "PlayStates$StateReader") (T := TSr) (N := 6) hx hb hts iw_4 hown hK hP 0 rfl rfl 0 (by decide) (hts _ gw_90) (fun _ h9 => h9) rfl d_Sr_begin_1 ?_
  obtain ⟨y1, hy1, h⟩ := o_bind h
  have hPc := hP.sub (ws' := (ws_Bd_clear G a_t_board a_t_board_entries a_t_board_markBits n x_t_board_entries x_t_board_markBits)) [1, 2, 3] rfl
  have hDc := hD.sub (ws' := (ws_Bd_clear G a_t_board a_t_board_entries a_t_board_markBits n x_t_board_entries x_t_board_markBits)) [1, 2, 3] (by decide) rfl
  have hFc := va_free (wc := (ws_Bd_clear G a_t_board a_t_board_entries a_t_board_markBits n x_t_board_entries x_t_board_markBits)) hD hS hA [1, 2, 3] rfl
  refine q_call0 (va_runV (As := []) (rest := []) ⟨hx, hb, hml, hown, hts⟩ (c_Bd_clear l G H.size a_t_board a_t_board_entries a_t_board_markBits fu n x_t_board_entries x_t_board_markBits _ _ hy1) (cwV 0 hts (gV gw_335 gw_289 gw_290 gw_34 gw_291) rfl rfl rfl (by decide +kernel) ⟨Nat.le_of_ble_eq_true rfl, Nat.le_of_ble_eq_true rfl⟩) (pV hK hN hPc hDc (ci := 0) (q0 := 0) rfl rfl) rfl rfl hl.1 rfl (lv_room (Nat.le_of_ble_eq_true rfl)) d_Sr_begin_4 ⟨Nat.le_of_ble_eq_true rfl, Nat.le_of_ble_eq_true rfl⟩) hS (fun q _ h => hFc q h) hFc (fun H1 locs hB hz hk hS => ?_)
  obtain ⟨hP, hD⟩ := q_join (wr := [(a_t, .inr (4, [.ref a_t_board, .int x_t_placeCount, .int x_t_placesRead, .int x_t_mayOpen, .int x_t_open, .int x_t_lastMark]))]) (wn := (ws_Sr_begin G a_t a_t_board a_t_board_entries a_t_board_markBits n x_t_placeCount x_t_placesRead x_t_mayOpen x_t_open x_t_lastMark y1.1 y1.2)) hP hD [1, 2, 3] [0] [0, 1, 2, 3] rfl rfl (by decide) (by decide) rfl (by decide) hk hFc hB.1 hB.2
  generalize H1 = H at hP hS ⊢
  replace hP : va_P G.1 vwCl (ws_Sr_begin G a_t a_t_board a_t_board_entries a_t_board_markBits n x_t_placeCount x_t_placesRead x_t_mayOpen x_t_open x_t_lastMark y1.1 y1.2) H := hP
  replace hD : va_D A (ws_Sr_begin G a_t a_t_board a_t_board_entries a_t_board_markBits n x_t_placeCount x_t_placesRead x_t_mayOpen x_t_open x_t_lastMark y1.1 y1.2) := hD
  refine lv_aload_n hx hb d_Sr_begin_7 rfl (lv_at hl 0 rfl) ?_
  refine lv_iconst (v := (0 : Int32)) hx hb d_Sr_begin_8 (by decide) ?_
  refine va_put (D := G.1) (ci := 4) (v := .int (0 : Int32)) (ty := .int) (C := "PlayStates$StateReader") (T := TSr) (N := 6) hx hb hts iw_4 tySr tySr_ok nmSr hown hK hP hD hS 0 rfl rfl 2 (by decide) (hts _ gw_92) (fun _ h9 => h9) rfl (by decide +kernel) (by rfl) (by rfl) (Nat.le_of_ble_eq_true rfl) d_Sr_begin_9 (fun H locs hP hD hS => ?_)
  replace hP : va_P G.1 vwCl (ws_Sr_begin G a_t a_t_board a_t_board_entries a_t_board_markBits n x_t_placeCount (0 : Int32) x_t_mayOpen x_t_open x_t_lastMark y1.1 y1.2) H := hP
  replace hD : va_D A (ws_Sr_begin G a_t a_t_board a_t_board_entries a_t_board_markBits n x_t_placeCount (0 : Int32) x_t_mayOpen x_t_open x_t_lastMark y1.1 y1.2) := hD
  refine lv_aload_n hx hb d_Sr_begin_12 rfl (lv_at hl 0 rfl) ?_
  refine lv_iconst (v := (0 : Int32)) hx hb d_Sr_begin_13 (by decide) ?_
  refine va_put (D := G.1) (ci := 4) (v := .int (0 : Int32)) (ty := .boolean) (C := "PlayStates$StateReader") (T := TSr) (N := 6) hx hb hts iw_4 tySr tySr_ok nmSr hown hK hP hD hS 0 rfl rfl 3 (by decide) (hts _ gw_93) (fun _ h9 => h9) rfl (by decide +kernel) (by decide) (by decide) (Nat.le_of_ble_eq_true rfl) d_Sr_begin_14 (fun H locs hP hD hS => ?_)
  replace hP : va_P G.1 vwCl (ws_Sr_begin G a_t a_t_board a_t_board_entries a_t_board_markBits n x_t_placeCount (0 : Int32) (0 : Int32) x_t_open x_t_lastMark y1.1 y1.2) H := hP
  replace hD : va_D A (ws_Sr_begin G a_t a_t_board a_t_board_entries a_t_board_markBits n x_t_placeCount (0 : Int32) (0 : Int32) x_t_open x_t_lastMark y1.1 y1.2) := hD
  refine lv_aload_n hx hb d_Sr_begin_17 rfl (lv_at hl 0 rfl) ?_
  refine lv_iconst (v := (0 : Int32)) hx hb d_Sr_begin_18 (by decide) ?_
  refine va_put (D := G.1) (ci := 4) (v := .int (0 : Int32)) (ty := .boolean) (C := "PlayStates$StateReader") (T := TSr) (N := 6) hx hb hts iw_4 tySr tySr_ok nmSr hown hK hP hD hS 0 rfl rfl 4 (by decide) (hts _ gw_94) (fun _ h9 => h9) rfl (by decide +kernel) (by decide) (by decide) (Nat.le_of_ble_eq_true rfl) d_Sr_begin_19 (fun H locs hP hD hS => ?_)
  replace hP : va_P G.1 vwCl (ws_Sr_begin G a_t a_t_board a_t_board_entries a_t_board_markBits n x_t_placeCount (0 : Int32) (0 : Int32) (0 : Int32) x_t_lastMark y1.1 y1.2) H := hP
  replace hD : va_D A (ws_Sr_begin G a_t a_t_board a_t_board_entries a_t_board_markBits n x_t_placeCount (0 : Int32) (0 : Int32) (0 : Int32) x_t_lastMark y1.1 y1.2) := hD
  cases h
  exact q_vretW hx hb hr hlocks hP hD hS d_Sr_begin_22

theorem gw_91 : (.fieldLink "PlayStates$StateReader" 15 "PlayStates$StateReader" "placeCount" "I" : Cond) ∈ GW := gT 78 (by decide +kernel) (by decide +kernel)
theorem d_Sr_isWhole_0 : decode prog_6_method_4_code 0 = .ok (.aload_n 0, 1) := by decide +kernel
theorem d_Sr_isWhole_1 : decode prog_6_method_4_code 1 = .ok (.getfield 24, 3) := by decide +kernel
theorem d_Sr_isWhole_4 : decode prog_6_method_4_code 4 = .ok (.aload_n 0, 1) := by decide +kernel
theorem d_Sr_isWhole_5 : decode prog_6_method_4_code 5 = .ok (.getfield 15, 3) := by decide +kernel
theorem d_Sr_isWhole_8 : decode prog_6_method_4_code 8 = .ok (.if_icmp .ne 14, 3) := by decide +kernel
theorem d_Sr_isWhole_11 : decode prog_6_method_4_code 11 = .ok (.aload_n 0, 1) := by decide +kernel
theorem d_Sr_isWhole_12 : decode prog_6_method_4_code 12 = .ok (.getfield 31, 3) := by decide +kernel
theorem d_Sr_isWhole_15 : decode prog_6_method_4_code 15 = .ok (.ifCond .ne 7, 3) := by decide +kernel
theorem d_Sr_isWhole_18 : decode prog_6_method_4_code 18 = .ok (.iconst 1, 1) := by decide +kernel
theorem d_Sr_isWhole_19 : decode prog_6_method_4_code 19 = .ok (.goto 4, 3) := by decide +kernel
theorem d_Sr_isWhole_22 : decode prog_6_method_4_code 22 = .ok (.iconst 0, 1) := by decide +kernel
theorem d_Sr_isWhole_23 : decode prog_6_method_4_code 23 = .ok (.ireturn, 1) := by decide +kernel
-- PlayStates$StateReader.isWhole()Z 
def ws_Sr_isWhole (G : gG) (a_t a_t_board : Nat)  (x_t_placeCount : Int32) (x_t_placesRead : Int32) (x_t_mayOpen : Int32) (x_t_open : Int32) (x_t_lastMark : Int32) : va_W := [(a_t, .inr (4, [.ref a_t_board, .int x_t_placeCount, .int x_t_placesRead, .int x_t_mayOpen, .int x_t_open, .int x_t_lastMark]))]
def f_Sr_isWhole   (x_t_placeCount : Int32) (x_t_placesRead : Int32) (x_t_mayOpen : Int32) (x_t_open : Int32) (x_t_lastMark : Int32) : Option (Int32) :=
  (if x_t_placesRead = x_t_placeCount then (if x_t_open = 0 then some (1 : Int32) else some (0 : Int32)) else some (0 : Int32))
set_option maxHeartbeats 4000000 in
set_option maxRecDepth 100000 in
theorem c_Sr_isWhole (l : Launch) (G : gG) (sz : Nat) (a_t a_t_board : Nat)   (x_t_placeCount : Int32) (x_t_placesRead : Int32) (x_t_mayOpen : Int32) (x_t_open : Int32) (x_t_lastMark : Int32) (r : Int32) (h : f_Sr_isWhole x_t_placeCount x_t_placesRead x_t_mayOpen x_t_open x_t_lastMark = some r)  : cN l y_Sr_isWhole w_Sr_isWhole { frames := 0, cells := 0, slots := 0, locals := 0 } G sz [.ref a_t] (ws_Sr_isWhole G a_t a_t_board x_t_placeCount x_t_placesRead x_t_mayOpen x_t_open x_t_lastMark) (some (.int r)) (wB G (ws_Sr_isWhole G a_t a_t_board x_t_placeCount x_t_placesRead x_t_mayOpen x_t_open x_t_lastMark)) 0 0 := by
  refine cN_ofW (cc := prog_6_method_4_code) (maxL := 1) (ret := (some .boolean)) (by decide) rfl (Nat.le_of_ble_eq_true rfl) ?_
  intro p e s m args below meth c A H locs ls hx hb hr hts hown hlocks hin hml hK hN hP hD hA hS hl
  replace hl : lv_has ls 1 [(0, .ref a_t)] := hl
  replace hown : s.vm.findClass "PlayStates$StateReader" = some m.cls := hown
  unfold f_Sr_isWhole at h
  refine lv_aload_n hx hb d_Sr_isWhole_0 rfl (lv_at hl 0 rfl) ?_
  refine va_get (D := G.1) (ci := 4) (v := .int x_t_placesRead) (C := "PlayStates$StateReader") (T := TSr) (N := 6) hx hb hts iw_4 hown hK hP 0 rfl rfl 2 (by decide) (hts _ gw_92) (fun _ h9 => h9) rfl d_Sr_isWhole_1 ?_
  refine lv_aload_n hx hb d_Sr_isWhole_4 rfl (lv_at hl 0 rfl) ?_
  refine va_get (D := G.1) (ci := 4) (v := .int x_t_placeCount) (C := "PlayStates$StateReader") (T := TSr) (N := 6) hx hb hts iw_4 hown hK hP 0 rfl rfl 1 (by decide) (hts _ gw_91) (fun _ h9 => h9) rfl d_Sr_isWhole_5 ?_
  refine lv_icmp_ne (tgt := 22) hx hb d_Sr_isWhole_8 (by decide) (fun c1 => ?_) (fun c1 => ?_)
  · replace h := (if_neg c1).symm.trans h
    refine lv_iconst (v := (0 : Int32)) hx hb d_Sr_isWhole_22 (by decide) ?_
    cases h
    exact q_zretW hx hb hr hlocks (by decide) hP hD hS d_Sr_isWhole_23
  · replace h := (if_pos c1).symm.trans h
    refine lv_aload_n hx hb d_Sr_isWhole_11 rfl (lv_at hl 0 rfl) ?_
    refine va_get (D := G.1) (ci := 4) (v := .int x_t_open) (C := "PlayStates$StateReader") (T := TSr) (N := 6) hx hb hts iw_4 hown hK hP 0 rfl rfl 4 (by decide) (hts _ gw_94) (fun _ h9 => h9) rfl d_Sr_isWhole_12 ?_
    refine lv_if_ne (tgt := 22) hx hb d_Sr_isWhole_15 (by decide) (fun c2 => ?_) (fun c2 => ?_)
    · replace h := (if_neg c2).symm.trans h
      refine lv_iconst (v := (0 : Int32)) hx hb d_Sr_isWhole_22 (by decide) ?_
      cases h
      exact q_zretW hx hb hr hlocks (by decide) hP hD hS d_Sr_isWhole_23
    · replace h := (if_pos c2).symm.trans h
      refine lv_iconst (v := (1 : Int32)) hx hb d_Sr_isWhole_18 (by decide) ?_
      refine lv_goto (tgt := 23) hx hb d_Sr_isWhole_19 (by decide) ?_
      cases h
      exact q_zretW hx hb hr hlocks (by decide) hP hD hS d_Sr_isWhole_23

theorem gw_95 : (.fieldLink "PlayStates$StateReader" 48 "PlayStates$StateReader" "lastMark" "I" : Cond) ∈ GW := gT 82 (by decide +kernel) (by decide +kernel)
theorem d_Sr_acceptsOpening_0 : decode prog_6_method_5_code 0 = .ok (.aload_n 0, 1) := by decide +kernel
theorem d_Sr_acceptsOpening_1 : decode prog_6_method_5_code 1 = .ok (.getfield 27, 3) := by decide +kernel
theorem d_Sr_acceptsOpening_4 : decode prog_6_method_5_code 4 = .ok (.ifCond .ne 5, 3) := by decide +kernel
theorem d_Sr_acceptsOpening_7 : decode prog_6_method_5_code 7 = .ok (.iconst 0, 1) := by decide +kernel
theorem d_Sr_acceptsOpening_8 : decode prog_6_method_5_code 8 = .ok (.ireturn, 1) := by decide +kernel
theorem d_Sr_acceptsOpening_9 : decode prog_6_method_5_code 9 = .ok (.aload_n 0, 1) := by decide +kernel
theorem d_Sr_acceptsOpening_10 : decode prog_6_method_5_code 10 = .ok (.iconst 0, 1) := by decide +kernel
theorem d_Sr_acceptsOpening_11 : decode prog_6_method_5_code 11 = .ok (.putfield 27, 3) := by decide +kernel
theorem d_Sr_acceptsOpening_14 : decode prog_6_method_5_code 14 = .ok (.aload_n 0, 1) := by decide +kernel
theorem d_Sr_acceptsOpening_15 : decode prog_6_method_5_code 15 = .ok (.iconst 1, 1) := by decide +kernel
theorem d_Sr_acceptsOpening_16 : decode prog_6_method_5_code 16 = .ok (.putfield 31, 3) := by decide +kernel
theorem d_Sr_acceptsOpening_19 : decode prog_6_method_5_code 19 = .ok (.aload_n 0, 1) := by decide +kernel
theorem d_Sr_acceptsOpening_20 : decode prog_6_method_5_code 20 = .ok (.iconst 0, 1) := by decide +kernel
theorem d_Sr_acceptsOpening_21 : decode prog_6_method_5_code 21 = .ok (.putfield 48, 3) := by decide +kernel
theorem d_Sr_acceptsOpening_24 : decode prog_6_method_5_code 24 = .ok (.iconst 1, 1) := by decide +kernel
theorem d_Sr_acceptsOpening_25 : decode prog_6_method_5_code 25 = .ok (.ireturn, 1) := by decide +kernel
-- PlayStates$StateReader.acceptsOpening()Z 
def ws_Sr_acceptsOpening (G : gG) (a_t a_t_board : Nat)  (x_t_placeCount : Int32) (x_t_placesRead : Int32) (x_t_mayOpen : Int32) (x_t_open : Int32) (x_t_lastMark : Int32) : va_W := [(a_t, .inr (4, [.ref a_t_board, .int x_t_placeCount, .int x_t_placesRead, .int x_t_mayOpen, .int x_t_open, .int x_t_lastMark]))]
def f_Sr_acceptsOpening   (x_t_placeCount : Int32) (x_t_placesRead : Int32) (x_t_mayOpen : Int32) (x_t_open : Int32) (x_t_lastMark : Int32) : Option (Int32 × Int32 × Int32 × Int32) :=
  (if x_t_mayOpen = 0 then some ((0 : Int32), x_t_mayOpen, x_t_open, x_t_lastMark) else some ((1 : Int32), (0 : Int32), (1 : Int32), (0 : Int32)))
set_option maxHeartbeats 4000000 in
set_option maxRecDepth 100000 in
theorem c_Sr_acceptsOpening (l : Launch) (G : gG) (sz : Nat) (a_t a_t_board : Nat)   (x_t_placeCount : Int32) (x_t_placesRead : Int32) (x_t_mayOpen : Int32) (x_t_open : Int32) (x_t_lastMark : Int32) (r : Int32) (x_t_mayOpen' : Int32) (x_t_open' : Int32) (x_t_lastMark' : Int32) (h : f_Sr_acceptsOpening x_t_placeCount x_t_placesRead x_t_mayOpen x_t_open x_t_lastMark = some (r, x_t_mayOpen', x_t_open', x_t_lastMark'))  : cN l y_Sr_acceptsOpening w_Sr_acceptsOpening { frames := 0, cells := 0, slots := 0, locals := 0 } G sz [.ref a_t] (ws_Sr_acceptsOpening G a_t a_t_board x_t_placeCount x_t_placesRead x_t_mayOpen x_t_open x_t_lastMark) (some (.int r)) (wB G (ws_Sr_acceptsOpening G a_t a_t_board x_t_placeCount x_t_placesRead x_t_mayOpen' x_t_open' x_t_lastMark')) 0 0 := by
  refine cN_ofW (cc := prog_6_method_5_code) (maxL := 1) (ret := (some .boolean)) (by decide) rfl (Nat.le_of_ble_eq_true rfl) ?_
  intro p e s m args below meth c A H locs ls hx hb hr hts hown hlocks hin hml hK hN hP hD hA hS hl
  replace hl : lv_has ls 1 [(0, .ref a_t)] := hl
  replace hown : s.vm.findClass "PlayStates$StateReader" = some m.cls := hown
  unfold f_Sr_acceptsOpening at h
  refine lv_aload_n hx hb d_Sr_acceptsOpening_0 rfl (lv_at hl 0 rfl) ?_
  refine va_get (D := G.1) (ci := 4) (v := .int x_t_mayOpen) (C := "PlayStates$StateReader") (T := TSr) (N := 6) hx hb hts iw_4 hown hK hP 0 rfl rfl 3 (by decide) (hts _ gw_93) (fun _ h9 => h9) rfl d_Sr_acceptsOpening_1 ?_
  refine lv_if_ne (tgt := 9) hx hb d_Sr_acceptsOpening_4 (by decide) (fun c1 => ?_) (fun c1 => ?_)
  · replace h := (if_neg c1).symm.trans h
    refine lv_aload_n hx hb d_Sr_acceptsOpening_9 rfl (lv_at hl 0 rfl) ?_
    refine lv_iconst (v := (0 : Int32)) hx hb d_Sr_acceptsOpening_10 (by decide) ?_
    refine va_put (D := G.1) (ci := 4) (v := .int (0 : Int32)) (ty := .boolean) (C := "PlayStates$StateReader") (T := TSr) (N := 6) hx hb hts iw_4 tySr tySr_ok nmSr hown hK hP hD hS 0 rfl rfl 3 (by decide) (hts _ gw_93) (fun _ h9 => h9) rfl (by decide +kernel) (by decide) (by decide) (Nat.le_of_ble_eq_true rfl) d_Sr_acceptsOpening_11 (fun H locs hP hD hS => ?_)
    replace hP : va_P G.1 vwCl (ws_Sr_acceptsOpening G a_t a_t_board x_t_placeCount x_t_placesRead (0 : Int32) x_t_open x_t_lastMark) H := hP
    replace hD : va_D A (ws_Sr_acceptsOpening G a_t a_t_board x_t_placeCount x_t_placesRead (0 : Int32) x_t_open x_t_lastMark) := hD
    refine lv_aload_n hx hb d_Sr_acceptsOpening_14 rfl (lv_at hl 0 rfl) ?_
    refine lv_iconst (v := (1 : Int32)) hx hb d_Sr_acceptsOpening_15 (by decide) ?_
    refine va_put (D := G.1) (ci := 4) (v := .int (1 : Int32)) (ty := .boolean) (C := "PlayStates$StateReader") (T := TSr) (N := 6) hx hb hts iw_4 tySr tySr_ok nmSr hown hK hP hD hS 0 rfl rfl 4 (by decide) (hts _ gw_94) (fun _ h9 => h9) rfl (by decide +kernel) (by decide) (by decide) (Nat.le_of_ble_eq_true rfl) d_Sr_acceptsOpening_16 (fun H locs hP hD hS => ?_)
    replace hP : va_P G.1 vwCl (ws_Sr_acceptsOpening G a_t a_t_board x_t_placeCount x_t_placesRead (0 : Int32) (1 : Int32) x_t_lastMark) H := hP
    replace hD : va_D A (ws_Sr_acceptsOpening G a_t a_t_board x_t_placeCount x_t_placesRead (0 : Int32) (1 : Int32) x_t_lastMark) := hD
    refine lv_aload_n hx hb d_Sr_acceptsOpening_19 rfl (lv_at hl 0 rfl) ?_
    refine lv_iconst (v := (0 : Int32)) hx hb d_Sr_acceptsOpening_20 (by decide) ?_
    refine va_put (D := G.1) (ci := 4) (v := .int (0 : Int32)) (ty := .int) (C := "PlayStates$StateReader") (T := TSr) (N := 6) hx hb hts iw_4 tySr tySr_ok nmSr hown hK hP hD hS 0 rfl rfl 5 (by decide) (hts _ gw_95) (fun _ h9 => h9) rfl (by decide +kernel) (by rfl) (by rfl) (Nat.le_of_ble_eq_true rfl) d_Sr_acceptsOpening_21 (fun H locs hP hD hS => ?_)
    replace hP : va_P G.1 vwCl (ws_Sr_acceptsOpening G a_t a_t_board x_t_placeCount x_t_placesRead (0 : Int32) (1 : Int32) (0 : Int32)) H := hP
    replace hD : va_D A (ws_Sr_acceptsOpening G a_t a_t_board x_t_placeCount x_t_placesRead (0 : Int32) (1 : Int32) (0 : Int32)) := hD
    refine lv_iconst (v := (1 : Int32)) hx hb d_Sr_acceptsOpening_24 (by decide) ?_
    cases h
    exact q_zretW hx hb hr hlocks (by decide) hP hD hS d_Sr_acceptsOpening_25
  · replace h := (if_pos c1).symm.trans h
    refine lv_iconst (v := (0 : Int32)) hx hb d_Sr_acceptsOpening_7 (by decide) ?_
    cases h
    exact q_zretW hx hb hr hlocks (by decide) hP hD hS d_Sr_acceptsOpening_8

theorem d_Sr_acceptsClosing_0 : decode prog_6_method_6_code 0 = .ok (.aload_n 0, 1) := by decide +kernel
theorem d_Sr_acceptsClosing_1 : decode prog_6_method_6_code 1 = .ok (.getfield 48, 3) := by decide +kernel
theorem d_Sr_acceptsClosing_4 : decode prog_6_method_6_code 4 = .ok (.ifCond .ne 5, 3) := by decide +kernel
theorem d_Sr_acceptsClosing_7 : decode prog_6_method_6_code 7 = .ok (.iconst 0, 1) := by decide +kernel
theorem d_Sr_acceptsClosing_8 : decode prog_6_method_6_code 8 = .ok (.ireturn, 1) := by decide +kernel
theorem d_Sr_acceptsClosing_9 : decode prog_6_method_6_code 9 = .ok (.aload_n 0, 1) := by decide +kernel
theorem d_Sr_acceptsClosing_10 : decode prog_6_method_6_code 10 = .ok (.iconst 0, 1) := by decide +kernel
theorem d_Sr_acceptsClosing_11 : decode prog_6_method_6_code 11 = .ok (.putfield 31, 3) := by decide +kernel
theorem d_Sr_acceptsClosing_14 : decode prog_6_method_6_code 14 = .ok (.iconst 1, 1) := by decide +kernel
theorem d_Sr_acceptsClosing_15 : decode prog_6_method_6_code 15 = .ok (.ireturn, 1) := by decide +kernel
-- PlayStates$StateReader.acceptsClosing()Z 
def ws_Sr_acceptsClosing (G : gG) (a_t a_t_board : Nat)  (x_t_placeCount : Int32) (x_t_placesRead : Int32) (x_t_mayOpen : Int32) (x_t_open : Int32) (x_t_lastMark : Int32) : va_W := [(a_t, .inr (4, [.ref a_t_board, .int x_t_placeCount, .int x_t_placesRead, .int x_t_mayOpen, .int x_t_open, .int x_t_lastMark]))]
def f_Sr_acceptsClosing   (x_t_placeCount : Int32) (x_t_placesRead : Int32) (x_t_mayOpen : Int32) (x_t_open : Int32) (x_t_lastMark : Int32) : Option (Int32 × Int32) :=
  (if x_t_lastMark = 0 then some ((0 : Int32), x_t_open) else some ((1 : Int32), (0 : Int32)))
set_option maxHeartbeats 4000000 in
set_option maxRecDepth 100000 in
theorem c_Sr_acceptsClosing (l : Launch) (G : gG) (sz : Nat) (a_t a_t_board : Nat)   (x_t_placeCount : Int32) (x_t_placesRead : Int32) (x_t_mayOpen : Int32) (x_t_open : Int32) (x_t_lastMark : Int32) (r : Int32) (x_t_open' : Int32) (h : f_Sr_acceptsClosing x_t_placeCount x_t_placesRead x_t_mayOpen x_t_open x_t_lastMark = some (r, x_t_open'))  : cN l y_Sr_acceptsClosing w_Sr_acceptsClosing { frames := 0, cells := 0, slots := 0, locals := 0 } G sz [.ref a_t] (ws_Sr_acceptsClosing G a_t a_t_board x_t_placeCount x_t_placesRead x_t_mayOpen x_t_open x_t_lastMark) (some (.int r)) (wB G (ws_Sr_acceptsClosing G a_t a_t_board x_t_placeCount x_t_placesRead x_t_mayOpen x_t_open' x_t_lastMark)) 0 0 := by
  refine cN_ofW (cc := prog_6_method_6_code) (maxL := 1) (ret := (some .boolean)) (by decide) rfl (Nat.le_of_ble_eq_true rfl) ?_
  intro p e s m args below meth c A H locs ls hx hb hr hts hown hlocks hin hml hK hN hP hD hA hS hl
  replace hl : lv_has ls 1 [(0, .ref a_t)] := hl
  replace hown : s.vm.findClass "PlayStates$StateReader" = some m.cls := hown
  unfold f_Sr_acceptsClosing at h
  refine lv_aload_n hx hb d_Sr_acceptsClosing_0 rfl (lv_at hl 0 rfl) ?_
  refine va_get (D := G.1) (ci := 4) (v := .int x_t_lastMark) (C := "PlayStates$StateReader") (T := TSr) (N := 6) hx hb hts iw_4 hown hK hP 0 rfl rfl 5 (by decide) (hts _ gw_95) (fun _ h9 => h9) rfl d_Sr_acceptsClosing_1 ?_
  refine lv_if_ne (tgt := 9) hx hb d_Sr_acceptsClosing_4 (by decide) (fun c1 => ?_) (fun c1 => ?_)
  · replace h := (if_neg c1).symm.trans h
    refine lv_aload_n hx hb d_Sr_acceptsClosing_9 rfl (lv_at hl 0 rfl) ?_
    refine lv_iconst (v := (0 : Int32)) hx hb d_Sr_acceptsClosing_10 (by decide) ?_
    refine va_put (D := G.1) (ci := 4) (v := .int (0 : Int32)) (ty := .boolean) (C := "PlayStates$StateReader") (T := TSr) (N := 6) hx hb hts iw_4 tySr tySr_ok nmSr hown hK hP hD hS 0 rfl rfl 4 (by decide) (hts _ gw_94) (fun _ h9 => h9) rfl (by decide +kernel) (by decide) (by decide) (Nat.le_of_ble_eq_true rfl) d_Sr_acceptsClosing_11 (fun H locs hP hD hS => ?_)
    replace hP : va_P G.1 vwCl (ws_Sr_acceptsClosing G a_t a_t_board x_t_placeCount x_t_placesRead x_t_mayOpen (0 : Int32) x_t_lastMark) H := hP
    replace hD : va_D A (ws_Sr_acceptsClosing G a_t a_t_board x_t_placeCount x_t_placesRead x_t_mayOpen (0 : Int32) x_t_lastMark) := hD
    refine lv_iconst (v := (1 : Int32)) hx hb d_Sr_acceptsClosing_14 (by decide) ?_
    cases h
    exact q_zretW hx hb hr hlocks (by decide) hP hD hS d_Sr_acceptsClosing_15
  · replace h := (if_pos c1).symm.trans h
    refine lv_iconst (v := (0 : Int32)) hx hb d_Sr_acceptsClosing_7 (by decide) ?_
    cases h
    exact q_zretW hx hb hr hlocks (by decide) hP hD hS d_Sr_acceptsClosing_8

theorem gw_31 : (.initialized "PlayStates" : Cond) ∈ GW := gT 1 (by decide +kernel) (by decide +kernel)
theorem gw_201 : (.code ⟨"PlayStates", "isOneToNine", "(I)Z"⟩ prog_1_method_22_code 1 (some .boolean) : Cond) ∈ GW := gT 227 (by decide +kernel) (by decide +kernel)
theorem gw_200 : (.static ⟨"PlayStates", "isOneToNine", "(I)Z"⟩ : Cond) ∈ GW := gT 226 (by decide +kernel) (by decide +kernel)
theorem gw_194 : (.code ⟨"PlayStates$Board", "put", "(II)V"⟩ prog_2_method_5_code 3 none : Cond) ∈ GW := gT 220 (by decide +kernel) (by decide +kernel)
theorem gw_346 : (.methodLink "PlayStates$StateReader" 54 ⟨"PlayStates$Board", "put", "(II)V"⟩ : Cond) ∈ GW := gT 381 (by decide +kernel) (by decide +kernel)
theorem gw_192 : (.instanceMethod ⟨"PlayStates$Board", "put", "(II)V"⟩ : Cond) ∈ GW := gT 218 (by decide +kernel) (by decide +kernel)
theorem gw_193 : (.selects "PlayStates$Board" ⟨"PlayStates$Board", "put", "(II)V"⟩ ⟨"PlayStates$Board", "put", "(II)V"⟩ : Cond) ∈ GW := gT 219 (by decide +kernel) (by decide +kernel)
theorem d_Sr_acceptsMark_0 : decode prog_6_method_7_code 0 = .ok (.iload_n 1, 1) := by decide +kernel
theorem d_Sr_acceptsMark_1 : decode prog_6_method_7_code 1 = .ok (.invokestatic 51, 3) := by decide +kernel
theorem d_Sr_acceptsMark_4 : decode prog_6_method_7_code 4 = .ok (.ifCond .eq 11, 3) := by decide +kernel
theorem d_Sr_acceptsMark_7 : decode prog_6_method_7_code 7 = .ok (.iload_n 1, 1) := by decide +kernel
theorem d_Sr_acceptsMark_8 : decode prog_6_method_7_code 8 = .ok (.aload_n 0, 1) := by decide +kernel
theorem d_Sr_acceptsMark_9 : decode prog_6_method_7_code 9 = .ok (.getfield 48, 3) := by decide +kernel
theorem d_Sr_acceptsMark_12 : decode prog_6_method_7_code 12 = .ok (.if_icmp .gt 5, 3) := by decide +kernel
theorem d_Sr_acceptsMark_15 : decode prog_6_method_7_code 15 = .ok (.iconst 0, 1) := by decide +kernel
theorem d_Sr_acceptsMark_16 : decode prog_6_method_7_code 16 = .ok (.ireturn, 1) := by decide +kernel
theorem d_Sr_acceptsMark_17 : decode prog_6_method_7_code 17 = .ok (.aload_n 0, 1) := by decide +kernel
theorem d_Sr_acceptsMark_18 : decode prog_6_method_7_code 18 = .ok (.getfield 9, 3) := by decide +kernel
theorem d_Sr_acceptsMark_21 : decode prog_6_method_7_code 21 = .ok (.aload_n 0, 1) := by decide +kernel
theorem d_Sr_acceptsMark_22 : decode prog_6_method_7_code 22 = .ok (.getfield 24, 3) := by decide +kernel
theorem d_Sr_acceptsMark_25 : decode prog_6_method_7_code 25 = .ok (.iconst 1, 1) := by decide +kernel
theorem d_Sr_acceptsMark_26 : decode prog_6_method_7_code 26 = .ok (.isub, 1) := by decide +kernel
theorem d_Sr_acceptsMark_27 : decode prog_6_method_7_code 27 = .ok (.bipush 10, 2) := by decide +kernel
theorem d_Sr_acceptsMark_29 : decode prog_6_method_7_code 29 = .ok (.iload_n 1, 1) := by decide +kernel
theorem d_Sr_acceptsMark_30 : decode prog_6_method_7_code 30 = .ok (.iadd, 1) := by decide +kernel
theorem d_Sr_acceptsMark_31 : decode prog_6_method_7_code 31 = .ok (.invokevirtual 54, 3) := by decide +kernel
theorem d_Sr_acceptsMark_34 : decode prog_6_method_7_code 34 = .ok (.aload_n 0, 1) := by decide +kernel
theorem d_Sr_acceptsMark_35 : decode prog_6_method_7_code 35 = .ok (.iload_n 1, 1) := by decide +kernel
theorem d_Sr_acceptsMark_36 : decode prog_6_method_7_code 36 = .ok (.putfield 48, 3) := by decide +kernel
theorem d_Sr_acceptsMark_39 : decode prog_6_method_7_code 39 = .ok (.iconst 1, 1) := by decide +kernel
theorem d_Sr_acceptsMark_40 : decode prog_6_method_7_code 40 = .ok (.ireturn, 1) := by decide +kernel
-- PlayStates$StateReader.acceptsMark(I)Z 
def ws_Sr_acceptsMark (G : gG) (a_t a_t_board a_t_board_entries a_t_board_markBits : Nat) (n : Nat) (x_t_placeCount : Int32) (x_t_placesRead : Int32) (x_t_mayOpen : Int32) (x_t_open : Int32) (x_t_lastMark : Int32) (x_t_board_entries : Nat → Int32) (x_t_board_markBits : Nat → Int32) : va_W := [(a_t, .inr (4, [.ref a_t_board, .int x_t_placeCount, .int x_t_placesRead, .int x_t_mayOpen, .int x_t_open, .int x_t_lastMark])), (a_t_board, .inr (0, [.ref a_t_board_entries, .ref a_t_board_markBits])), (a_t_board_entries, .inl (G.2 0, n, .inl x_t_board_entries)), (a_t_board_markBits, .inl (G.2 0, n, .inl x_t_board_markBits))]
def f_Sr_acceptsMark (n : Nat) (p0 : Int32) (x_t_placeCount : Int32) (x_t_placesRead : Int32) (x_t_mayOpen : Int32) (x_t_open : Int32) (x_t_lastMark : Int32) (x_t_board_entries : Nat → Int32) (x_t_board_markBits : Nat → Int32) : Option (Int32 × Int32 × (Nat → Int32) × (Nat → Int32)) :=
  ((f_PS_isOneToNine p0).bind fun y1 => (if y1 = 0 then some ((0 : Int32), x_t_lastMark, x_t_board_entries, x_t_board_markBits) else (if x_t_lastMark < p0 then ((f_Bd_put n (x_t_placesRead - (1 : Int32)) ((10 : Int32) + p0) x_t_board_entries x_t_board_markBits).bind fun y4 => some ((1 : Int32), p0, y4.1, y4.2)) else some ((0 : Int32), x_t_lastMark, x_t_board_entries, x_t_board_markBits))))
set_option maxHeartbeats 4000000 in
set_option maxRecDepth 100000 in
theorem c_Sr_acceptsMark (l : Launch) (G : gG) (sz : Nat) (a_t a_t_board a_t_board_entries a_t_board_markBits : Nat) (n : Nat) (p0 : Int32) (x_t_placeCount : Int32) (x_t_placesRead : Int32) (x_t_mayOpen : Int32) (x_t_open : Int32) (x_t_lastMark : Int32) (x_t_board_entries : Nat → Int32) (x_t_board_markBits : Nat → Int32) (r : Int32) (x_t_lastMark' : Int32) (x_t_board_entries' : Nat → Int32) (x_t_board_markBits' : Nat → Int32) (h : f_Sr_acceptsMark n p0 x_t_placeCount x_t_placesRead x_t_mayOpen x_t_open x_t_lastMark x_t_board_entries x_t_board_markBits = some (r, x_t_lastMark', x_t_board_entries', x_t_board_markBits'))  : cN l y_Sr_acceptsMark w_Sr_acceptsMark { frames := 1, cells := 0, slots := 0, locals := 22 } G sz [.ref a_t, .int p0] (ws_Sr_acceptsMark G a_t a_t_board a_t_board_entries a_t_board_markBits n x_t_placeCount x_t_placesRead x_t_mayOpen x_t_open x_t_lastMark x_t_board_entries x_t_board_markBits) (some (.int r)) (wB G (ws_Sr_acceptsMark G a_t a_t_board a_t_board_entries a_t_board_markBits n x_t_placeCount x_t_placesRead x_t_mayOpen x_t_open x_t_lastMark' x_t_board_entries' x_t_board_markBits')) 0 0 := by
  refine cN_ofW (cc := prog_6_method_7_code) (maxL := 2) (ret := (some .boolean)) (by decide) rfl (Nat.le_of_ble_eq_true rfl) ?_
  intro p e s m args below meth c A H locs ls hx hb hr hts hown hlocks hin hml hK hN hP hD hA hS hl
  replace hl : lv_has ls 2 [(0, .ref a_t), (1, .int p0)] := hl
  replace hown : s.vm.findClass "PlayStates$StateReader" = some m.cls := hown
  unfold f_Sr_acceptsMark at h
  refine lv_iload_n hx hb d_Sr_acceptsMark_0 rfl (lv_at hl 1 rfl) ?_
  obtain ⟨y1, hy1, h⟩ := o_bind h
  have hPc := hP.sub (ws' := (ws_PS_isOneToNine G)) [] rfl
  have hDc := hD.sub (ws' := (ws_PS_isOneToNine G)) [] (by decide) rfl
  have hFc := va_free (wc := (ws_PS_isOneToNine G)) hD hS hA [] rfl
  refine q_call1 (va_runSN (As := [.int p0]) (rest := []) ⟨hx, hb, hml, hown, hts⟩ (c_PS_isOneToNine l G H.size p0 _ hy1) ⟨va_cnB 1 hts (gC gw_201) rfl rfl rfl (hN.2.1 ("PlayStates$StateReader", 51, y_PS_isOneToNine, "PlayStates") (by decide +kernel)) (hts _ gw_31) (by decide +kernel) ⟨Nat.le_of_ble_eq_true rfl, Nat.le_of_ble_eq_true rfl⟩, hts _ gw_200, trivial⟩ (pS hK hN hPc hDc) rfl rfl hl.1 rfl (lv_room (Nat.le_of_ble_eq_true rfl)) d_Sr_acceptsMark_1 ⟨Nat.le_of_ble_eq_true rfl, Nat.le_of_ble_eq_true rfl⟩) hS (fun q _ h => hFc q h) hFc (fun H1 locs hB hz hk hS => ?_)
  obtain ⟨hP, hD⟩ := q_join (wr := [(a_t, .inr (4, [.ref a_t_board, .int x_t_placeCount, .int x_t_placesRead, .int x_t_mayOpen, .int x_t_open, .int x_t_lastMark])), (a_t_board, .inr (0, [.ref a_t_board_entries, .ref a_t_board_markBits])), (a_t_board_entries, .inl (G.2 0, n, .inl x_t_board_entries)), (a_t_board_markBits, .inl (G.2 0, n, .inl x_t_board_markBits))]) (wn := (ws_Sr_acceptsMark G a_t a_t_board a_t_board_entries a_t_board_markBits n x_t_placeCount x_t_placesRead x_t_mayOpen x_t_open x_t_lastMark x_t_board_entries x_t_board_markBits)) hP hD [] [0, 1, 2, 3] [0, 1, 2, 3] rfl rfl (by decide) (by decide) rfl (by decide) hk hFc hB.1 hB.2
  generalize H1 = H at hP hS ⊢
  replace hP : va_P G.1 vwCl (ws_Sr_acceptsMark G a_t a_t_board a_t_board_entries a_t_board_markBits n x_t_placeCount x_t_placesRead x_t_mayOpen x_t_open x_t_lastMark x_t_board_entries x_t_board_markBits) H := hP
  replace hD : va_D A (ws_Sr_acceptsMark G a_t a_t_board a_t_board_entries a_t_board_markBits n x_t_placeCount x_t_placesRead x_t_mayOpen x_t_open x_t_lastMark x_t_board_entries x_t_board_markBits) := hD
  refine lv_if_eq (tgt := 15) hx hb d_Sr_acceptsMark_4 (by decide) (fun c2 => ?_) (fun c2 => ?_)
  · replace h := (if_pos c2).symm.trans h
    refine lv_iconst (v := (0 : Int32)) hx hb d_Sr_acceptsMark_15 (by decide) ?_
    cases h
    exact q_zretW hx hb hr hlocks (by decide) hP hD hS d_Sr_acceptsMark_16
  · replace h := (if_neg c2).symm.trans h
    refine lv_iload_n hx hb d_Sr_acceptsMark_7 rfl (lv_at hl 1 rfl) ?_
    refine lv_aload_n hx hb d_Sr_acceptsMark_8 rfl (lv_at hl 0 rfl) ?_
    refine va_get (D := G.1) (ci := 4) (v := .int x_t_lastMark) (C := "PlayStates$StateReader") (T := TSr) (N := 6) hx hb hts iw_4 hown hK hP 0 rfl rfl 5 (by decide) (hts _ gw_95) (fun _ h9 => h9) rfl d_Sr_acceptsMark_9 ?_
    refine lv_icmp_gt (tgt := 17) hx hb d_Sr_acceptsMark_12 (by decide) (fun c3 => ?_) (fun c3 => ?_)
    · replace h := (if_pos c3).symm.trans h
      refine lv_aload_n hx hb d_Sr_acceptsMark_17 rfl (lv_at hl 0 rfl) ?_
      refine va_get (D := G.1) (ci := 4) (v := .ref a_t_board) (C := "PlayStates$StateReader") (T := TSr) (N := 6) hx hb hts iw_4 hown hK hP 0 rfl rfl 0 (by decide) (hts _ gw_90) (fun _ h9 => h9) rfl d_Sr_acceptsMark_18 ?_
      refine lv_aload_n hx hb d_Sr_acceptsMark_21 rfl (lv_at hl 0 rfl) ?_
      refine va_get (D := G.1) (ci := 4) (v := .int x_t_placesRead) (C := "PlayStates$StateReader") (T := TSr) (N := 6) hx hb hts iw_4 hown hK hP 0 rfl rfl 2 (by decide) (hts _ gw_92) (fun _ h9 => h9) rfl d_Sr_acceptsMark_22 ?_
      refine lv_iconst (v := (1 : Int32)) hx hb d_Sr_acceptsMark_25 (by decide) ?_
      refine lv_isub hx hb d_Sr_acceptsMark_26 ?_
      refine lv_bipush (v := (10 : Int32)) hx hb d_Sr_acceptsMark_27 (by decide) ?_
      refine lv_iload_n hx hb d_Sr_acceptsMark_29 rfl (lv_at hl 1 rfl) ?_
      refine lv_iadd hx hb d_Sr_acceptsMark_30 ?_
      obtain ⟨y4, hy4, h⟩ := o_bind h
      have hPc := hP.sub (ws' := (ws_Bd_put G a_t_board a_t_board_entries a_t_board_markBits n x_t_board_entries x_t_board_markBits)) [1, 2, 3] rfl
      have hDc := hD.sub (ws' := (ws_Bd_put G a_t_board a_t_board_entries a_t_board_markBits n x_t_board_entries x_t_board_markBits)) [1, 2, 3] (by decide) rfl
      have hFc := va_free (wc := (ws_Bd_put G a_t_board a_t_board_entries a_t_board_markBits n x_t_board_entries x_t_board_markBits)) hD hS hA [1, 2, 3] rfl
      refine q_call0 (va_runV (As := [.int (x_t_placesRead - (1 : Int32)), .int ((10 : Int32) + p0)]) (rest := []) ⟨hx, hb, hml, hown, hts⟩ (c_Bd_put l G H.size a_t_board a_t_board_entries a_t_board_markBits n (x_t_placesRead - (1 : Int32)) ((10 : Int32) + p0) x_t_board_entries x_t_board_markBits _ _ hy4) (cwV 2 hts (gV gw_346 gw_192 gw_193 gw_34 gw_194) rfl rfl rfl (by decide +kernel) ⟨Nat.le_of_ble_eq_true rfl, Nat.le_of_ble_eq_true rfl⟩) (pV hK hN hPc hDc (ci := 0) (q0 := 0) rfl rfl) rfl rfl hl.1 rfl (lv_room (Nat.le_of_ble_eq_true rfl)) d_Sr_acceptsMark_31 ⟨Nat.le_of_ble_eq_true rfl, Nat.le_of_ble_eq_true rfl⟩) hS (fun q _ h => hFc q h) hFc (fun H1 locs hB hz hk hS => ?_)
      obtain ⟨hP, hD⟩ := q_join (wr := [(a_t, .inr (4, [.ref a_t_board, .int x_t_placeCount, .int x_t_placesRead, .int x_t_mayOpen, .int x_t_open, .int x_t_lastMark]))]) (wn := (ws_Sr_acceptsMark G a_t a_t_board a_t_board_entries a_t_board_markBits n x_t_placeCount x_t_placesRead x_t_mayOpen x_t_open x_t_lastMark y4.1 y4.2)) hP hD [1, 2, 3] [0] [0, 1, 2, 3] rfl rfl (by decide) (by decide) rfl (by decide) hk hFc hB.1 hB.2
      generalize H1 = H at hP hS ⊢
      replace hP : va_P G.1 vwCl (ws_Sr_acceptsMark G a_t a_t_board a_t_board_entries a_t_board_markBits n x_t_placeCount x_t_placesRead x_t_mayOpen x_t_open x_t_lastMark y4.1 y4.2) H := hP
      replace hD : va_D A (ws_Sr_acceptsMark G a_t a_t_board a_t_board_entries a_t_board_markBits n x_t_placeCount x_t_placesRead x_t_mayOpen x_t_open x_t_lastMark y4.1 y4.2) := hD
      refine lv_aload_n hx hb d_Sr_acceptsMark_34 rfl (lv_at hl 0 rfl) ?_
      refine lv_iload_n hx hb d_Sr_acceptsMark_35 rfl (lv_at hl 1 rfl) ?_
      refine va_put (D := G.1) (ci := 4) (v := .int p0) (ty := .int) (C := "PlayStates$StateReader") (T := TSr) (N := 6) hx hb hts iw_4 tySr tySr_ok nmSr hown hK hP hD hS 0 rfl rfl 5 (by decide) (hts _ gw_95) (fun _ h9 => h9) rfl (by decide +kernel) (by rfl) (by rfl) (Nat.le_of_ble_eq_true rfl) d_Sr_acceptsMark_36 (fun H locs hP hD hS => ?_)
      replace hP : va_P G.1 vwCl (ws_Sr_acceptsMark G a_t a_t_board a_t_board_entries a_t_board_markBits n x_t_placeCount x_t_placesRead x_t_mayOpen x_t_open p0 y4.1 y4.2) H := hP
      replace hD : va_D A (ws_Sr_acceptsMark G a_t a_t_board a_t_board_entries a_t_board_markBits n x_t_placeCount x_t_placesRead x_t_mayOpen x_t_open p0 y4.1 y4.2) := hD
      refine lv_iconst (v := (1 : Int32)) hx hb d_Sr_acceptsMark_39 (by decide) ?_
      cases h
      exact q_zretW hx hb hr hlocks (by decide) hP hD hS d_Sr_acceptsMark_40
    · replace h := (if_neg c3).symm.trans h
      refine lv_iconst (v := (0 : Int32)) hx hb d_Sr_acceptsMark_15 (by decide) ?_
      cases h
      exact q_zretW hx hb hr hlocks (by decide) hP hD hS d_Sr_acceptsMark_16

theorem d_Sr_acceptsEntry_0 : decode prog_6_method_8_code 0 = .ok (.iload_n 1, 1) := by decide +kernel
theorem d_Sr_acceptsEntry_1 : decode prog_6_method_8_code 1 = .ok (.bipush 46, 2) := by decide +kernel
theorem d_Sr_acceptsEntry_3 : decode prog_6_method_8_code 3 = .ok (.if_icmp .ne 7, 3) := by decide +kernel
theorem d_Sr_acceptsEntry_6 : decode prog_6_method_8_code 6 = .ok (.iconst 0, 1) := by decide +kernel
theorem d_Sr_acceptsEntry_7 : decode prog_6_method_8_code 7 = .ok (.goto 7, 3) := by decide +kernel
theorem d_Sr_acceptsEntry_10 : decode prog_6_method_8_code 10 = .ok (.iload_n 1, 1) := by decide +kernel
theorem d_Sr_acceptsEntry_11 : decode prog_6_method_8_code 11 = .ok (.bipush 48, 2) := by decide +kernel
theorem d_Sr_acceptsEntry_13 : decode prog_6_method_8_code 13 = .ok (.isub, 1) := by decide +kernel
theorem d_Sr_acceptsEntry_14 : decode prog_6_method_8_code 14 = .ok (.istore_n 2, 1) := by decide +kernel
theorem d_Sr_acceptsEntry_15 : decode prog_6_method_8_code 15 = .ok (.aload_n 0, 1) := by decide +kernel
theorem d_Sr_acceptsEntry_16 : decode prog_6_method_8_code 16 = .ok (.getfield 24, 3) := by decide +kernel
theorem d_Sr_acceptsEntry_19 : decode prog_6_method_8_code 19 = .ok (.aload_n 0, 1) := by decide +kernel
theorem d_Sr_acceptsEntry_20 : decode prog_6_method_8_code 20 = .ok (.getfield 15, 3) := by decide +kernel
theorem d_Sr_acceptsEntry_23 : decode prog_6_method_8_code 23 = .ok (.if_icmp .ge 16, 3) := by decide +kernel
theorem d_Sr_acceptsEntry_26 : decode prog_6_method_8_code 26 = .ok (.iload_n 1, 1) := by decide +kernel
theorem d_Sr_acceptsEntry_27 : decode prog_6_method_8_code 27 = .ok (.bipush 46, 2) := by decide +kernel
theorem d_Sr_acceptsEntry_29 : decode prog_6_method_8_code 29 = .ok (.if_icmp .eq 12, 3) := by decide +kernel
theorem d_Sr_acceptsEntry_32 : decode prog_6_method_8_code 32 = .ok (.iload_n 2, 1) := by decide +kernel
theorem d_Sr_acceptsEntry_33 : decode prog_6_method_8_code 33 = .ok (.invokestatic 51, 3) := by decide +kernel
theorem d_Sr_acceptsEntry_36 : decode prog_6_method_8_code 36 = .ok (.ifCond .ne 5, 3) := by decide +kernel
theorem d_Sr_acceptsEntry_39 : decode prog_6_method_8_code 39 = .ok (.iconst 0, 1) := by decide +kernel
theorem d_Sr_acceptsEntry_40 : decode prog_6_method_8_code 40 = .ok (.ireturn, 1) := by decide +kernel
theorem d_Sr_acceptsEntry_41 : decode prog_6_method_8_code 41 = .ok (.aload_n 0, 1) := by decide +kernel
theorem d_Sr_acceptsEntry_42 : decode prog_6_method_8_code 42 = .ok (.getfield 9, 3) := by decide +kernel
theorem d_Sr_acceptsEntry_45 : decode prog_6_method_8_code 45 = .ok (.aload_n 0, 1) := by decide +kernel
theorem d_Sr_acceptsEntry_46 : decode prog_6_method_8_code 46 = .ok (.getfield 24, 3) := by decide +kernel
theorem d_Sr_acceptsEntry_49 : decode prog_6_method_8_code 49 = .ok (.iload_n 2, 1) := by decide +kernel
theorem d_Sr_acceptsEntry_50 : decode prog_6_method_8_code 50 = .ok (.invokevirtual 54, 3) := by decide +kernel
theorem d_Sr_acceptsEntry_53 : decode prog_6_method_8_code 53 = .ok (.aload_n 0, 1) := by decide +kernel
theorem d_Sr_acceptsEntry_54 : decode prog_6_method_8_code 54 = .ok (.dup, 1) := by decide +kernel
theorem d_Sr_acceptsEntry_55 : decode prog_6_method_8_code 55 = .ok (.getfield 24, 3) := by decide +kernel
theorem d_Sr_acceptsEntry_58 : decode prog_6_method_8_code 58 = .ok (.iconst 1, 1) := by decide +kernel
theorem d_Sr_acceptsEntry_59 : decode prog_6_method_8_code 59 = .ok (.iadd, 1) := by decide +kernel
theorem d_Sr_acceptsEntry_60 : decode prog_6_method_8_code 60 = .ok (.putfield 24, 3) := by decide +kernel
theorem d_Sr_acceptsEntry_63 : decode prog_6_method_8_code 63 = .ok (.aload_n 0, 1) := by decide +kernel
theorem d_Sr_acceptsEntry_64 : decode prog_6_method_8_code 64 = .ok (.iconst 1, 1) := by decide +kernel
theorem d_Sr_acceptsEntry_65 : decode prog_6_method_8_code 65 = .ok (.putfield 27, 3) := by decide +kernel
theorem d_Sr_acceptsEntry_68 : decode prog_6_method_8_code 68 = .ok (.iconst 1, 1) := by decide +kernel
theorem d_Sr_acceptsEntry_69 : decode prog_6_method_8_code 69 = .ok (.ireturn, 1) := by decide +kernel
-- PlayStates$StateReader.acceptsEntry(I)Z 
def ws_Sr_acceptsEntry (G : gG) (a_t a_t_board a_t_board_entries a_t_board_markBits : Nat) (n : Nat) (x_t_placeCount : Int32) (x_t_placesRead : Int32) (x_t_mayOpen : Int32) (x_t_open : Int32) (x_t_lastMark : Int32) (x_t_board_entries : Nat → Int32) (x_t_board_markBits : Nat → Int32) : va_W := [(a_t, .inr (4, [.ref a_t_board, .int x_t_placeCount, .int x_t_placesRead, .int x_t_mayOpen, .int x_t_open, .int x_t_lastMark])), (a_t_board, .inr (0, [.ref a_t_board_entries, .ref a_t_board_markBits])), (a_t_board_entries, .inl (G.2 0, n, .inl x_t_board_entries)), (a_t_board_markBits, .inl (G.2 0, n, .inl x_t_board_markBits))]
def f_Sr_acceptsEntry (n : Nat) (p0 : Int32) (x_t_placeCount : Int32) (x_t_placesRead : Int32) (x_t_mayOpen : Int32) (x_t_open : Int32) (x_t_lastMark : Int32) (x_t_board_entries : Nat → Int32) (x_t_board_markBits : Nat → Int32) : Option (Int32 × Int32 × Int32 × (Nat → Int32) × (Nat → Int32)) :=
  (if p0 = (46 : Int32) then (if x_t_placeCount ≤ x_t_placesRead then some ((0 : Int32), x_t_placesRead, x_t_mayOpen, x_t_board_entries, x_t_board_markBits) else (if p0 = (46 : Int32) then ((f_Bd_put n x_t_placesRead (0 : Int32) x_t_board_entries x_t_board_markBits).bind fun y10 => some ((1 : Int32), (x_t_placesRead + (1 : Int32)), (1 : Int32), y10.1, y10.2)) else ((f_PS_isOneToNine (0 : Int32)).bind fun y11 => (if y11 = 0 then some ((0 : Int32), x_t_placesRead, x_t_mayOpen, x_t_board_entries, x_t_board_markBits) else ((f_Bd_put n x_t_placesRead (0 : Int32) x_t_board_entries x_t_board_markBits).bind fun y13 => some ((1 : Int32), (x_t_placesRead + (1 : Int32)), (1 : Int32), y13.1, y13.2)))))) else (if x_t_placeCount ≤ x_t_placesRead then some ((0 : Int32), x_t_placesRead, x_t_mayOpen, x_t_board_entries, x_t_board_markBits) else (if p0 = (46 : Int32) then ((f_Bd_put n x_t_placesRead (p0 - (48 : Int32)) x_t_board_entries x_t_board_markBits).bind fun y4 => some ((1 : Int32), (x_t_placesRead + (1 : Int32)), (1 : Int32), y4.1, y4.2)) else ((f_PS_isOneToNine (p0 - (48 : Int32))).bind fun y5 => (if y5 = 0 then some ((0 : Int32), x_t_placesRead, x_t_mayOpen, x_t_board_entries, x_t_board_markBits) else ((f_Bd_put n x_t_placesRead (p0 - (48 : Int32)) x_t_board_entries x_t_board_markBits).bind fun y7 => some ((1 : Int32), (x_t_placesRead + (1 : Int32)), (1 : Int32), y7.1, y7.2)))))))
set_option maxHeartbeats 4000000 in
set_option maxRecDepth 100000 in
theorem c_Sr_acceptsEntry (l : Launch) (G : gG) (sz : Nat) (a_t a_t_board a_t_board_entries a_t_board_markBits : Nat) (n : Nat) (p0 : Int32) (x_t_placeCount : Int32) (x_t_placesRead : Int32) (x_t_mayOpen : Int32) (x_t_open : Int32) (x_t_lastMark : Int32) (x_t_board_entries : Nat → Int32) (x_t_board_markBits : Nat → Int32) (r : Int32) (x_t_placesRead' : Int32) (x_t_mayOpen' : Int32) (x_t_board_entries' : Nat → Int32) (x_t_board_markBits' : Nat → Int32) (h : f_Sr_acceptsEntry n p0 x_t_placeCount x_t_placesRead x_t_mayOpen x_t_open x_t_lastMark x_t_board_entries x_t_board_markBits = some (r, x_t_placesRead', x_t_mayOpen', x_t_board_entries', x_t_board_markBits'))  : cN l y_Sr_acceptsEntry w_Sr_acceptsEntry { frames := 1, cells := 0, slots := 0, locals := 22 } G sz [.ref a_t, .int p0] (ws_Sr_acceptsEntry G a_t a_t_board a_t_board_entries a_t_board_markBits n x_t_placeCount x_t_placesRead x_t_mayOpen x_t_open x_t_lastMark x_t_board_entries x_t_board_markBits) (some (.int r)) (wB G (ws_Sr_acceptsEntry G a_t a_t_board a_t_board_entries a_t_board_markBits n x_t_placeCount x_t_placesRead' x_t_mayOpen' x_t_open x_t_lastMark x_t_board_entries' x_t_board_markBits')) 0 0 := by
  refine cN_ofW (cc := prog_6_method_8_code) (maxL := 3) (ret := (some .boolean)) (by decide) rfl (Nat.le_of_ble_eq_true rfl) ?_
  intro p e s m args below meth c A H locs ls hx hb hr hts hown hlocks hin hml hK hN hP hD hA hS hl
  replace hl : lv_has ls 3 [(0, .ref a_t), (1, .int p0)] := hl
  replace hown : s.vm.findClass "PlayStates$StateReader" = some m.cls := hown
  unfold f_Sr_acceptsEntry at h
  refine lv_iload_n hx hb d_Sr_acceptsEntry_0 rfl (lv_at hl 1 rfl) ?_
  refine lv_bipush (v := (46 : Int32)) hx hb d_Sr_acceptsEntry_1 (by decide) ?_
  refine lv_icmp_ne (tgt := 10) hx hb d_Sr_acceptsEntry_3 (by decide) (fun c1 => ?_) (fun c1 => ?_)
  · replace h := (if_neg c1).symm.trans h
    refine lv_iload_n hx hb d_Sr_acceptsEntry_10 rfl (lv_at hl 1 rfl) ?_
    refine lv_bipush (v := (48 : Int32)) hx hb d_Sr_acceptsEntry_11 (by decide) ?_
    refine lv_isub hx hb d_Sr_acceptsEntry_13 ?_
    refine lv_istore_n (lv' := [(2, .int (p0 - (48 : Int32))), (0, .ref a_t), (1, .int p0)]) hx hb d_Sr_acceptsEntry_14 rfl hl (by decide) rfl (fun ls hl => ?_)
    refine lv_aload_n hx hb d_Sr_acceptsEntry_15 rfl (lv_at hl 1 rfl) ?_
    refine va_get (D := G.1) (ci := 4) (v := .int x_t_placesRead) (C := "PlayStates$StateReader") (T := TSr) (N := 6) hx hb hts iw_4 hown hK hP 0 rfl rfl 2 (by decide) (hts _ gw_92) (fun _ h9 => h9) rfl d_Sr_acceptsEntry_16 ?_
    refine lv_aload_n hx hb d_Sr_acceptsEntry_19 rfl (lv_at hl 1 rfl) ?_
    refine va_get (D := G.1) (ci := 4) (v := .int x_t_placeCount) (C := "PlayStates$StateReader") (T := TSr) (N := 6) hx hb hts iw_4 hown hK hP 0 rfl rfl 1 (by decide) (hts _ gw_91) (fun _ h9 => h9) rfl d_Sr_acceptsEntry_20 ?_
    refine lv_icmp_ge (tgt := 39) hx hb d_Sr_acceptsEntry_23 (by decide) (fun c2 => ?_) (fun c2 => ?_)
    · replace h := (if_pos c2).symm.trans h
      refine lv_iconst (v := (0 : Int32)) hx hb d_Sr_acceptsEntry_39 (by decide) ?_
      cases h
      exact q_zretW hx hb hr hlocks (by decide) hP hD hS d_Sr_acceptsEntry_40
    · replace h := (if_neg c2).symm.trans h
      refine lv_iload_n hx hb d_Sr_acceptsEntry_26 rfl (lv_at hl 2 rfl) ?_
      refine lv_bipush (v := (46 : Int32)) hx hb d_Sr_acceptsEntry_27 (by decide) ?_
      refine lv_icmp_eq (tgt := 41) hx hb d_Sr_acceptsEntry_29 (by decide) (fun c3 => ?_) (fun c3 => ?_)
      · replace h := (if_pos c3).symm.trans h
        refine lv_aload_n hx hb d_Sr_acceptsEntry_41 rfl (lv_at hl 1 rfl) ?_
        refine va_get (D := G.1) (ci := 4) (v := .ref a_t_board) (C := "PlayStates$StateReader") (T := TSr) (N := 6) hx hb hts iw_4 hown hK hP 0 rfl rfl 0 (by decide) (hts _ gw_90) (fun _ h9 => h9) rfl d_Sr_acceptsEntry_42 ?_
        refine lv_aload_n hx hb d_Sr_acceptsEntry_45 rfl (lv_at hl 1 rfl) ?_
        refine va_get (D := G.1) (ci := 4) (v := .int x_t_placesRead) (C := "PlayStates$StateReader") (T := TSr) (N := 6) hx hb hts iw_4 hown hK hP 0 rfl rfl 2 (by decide) (hts _ gw_92) (fun _ h9 => h9) rfl d_Sr_acceptsEntry_46 ?_
        refine lv_iload_n hx hb d_Sr_acceptsEntry_49 rfl (lv_at hl 0 rfl) ?_
        obtain ⟨y4, hy4, h⟩ := o_bind h
        have hPc := hP.sub (ws' := (ws_Bd_put G a_t_board a_t_board_entries a_t_board_markBits n x_t_board_entries x_t_board_markBits)) [1, 2, 3] rfl
        have hDc := hD.sub (ws' := (ws_Bd_put G a_t_board a_t_board_entries a_t_board_markBits n x_t_board_entries x_t_board_markBits)) [1, 2, 3] (by decide) rfl
        have hFc := va_free (wc := (ws_Bd_put G a_t_board a_t_board_entries a_t_board_markBits n x_t_board_entries x_t_board_markBits)) hD hS hA [1, 2, 3] rfl
        refine q_call0 (va_runV (As := [.int x_t_placesRead, .int (p0 - (48 : Int32))]) (rest := []) ⟨hx, hb, hml, hown, hts⟩ (c_Bd_put l G H.size a_t_board a_t_board_entries a_t_board_markBits n x_t_placesRead (p0 - (48 : Int32)) x_t_board_entries x_t_board_markBits _ _ hy4) (cwV 2 hts (gV gw_346 gw_192 gw_193 gw_34 gw_194) rfl rfl rfl (by decide +kernel) ⟨Nat.le_of_ble_eq_true rfl, Nat.le_of_ble_eq_true rfl⟩) (pV hK hN hPc hDc (ci := 0) (q0 := 0) rfl rfl) rfl rfl hl.1 rfl (lv_room (Nat.le_of_ble_eq_true rfl)) d_Sr_acceptsEntry_50 ⟨Nat.le_of_ble_eq_true rfl, Nat.le_of_ble_eq_true rfl⟩) hS (fun q _ h => hFc q h) hFc (fun H1 locs hB hz hk hS => ?_)
        obtain ⟨hP, hD⟩ := q_join (wr := [(a_t, .inr (4, [.ref a_t_board, .int x_t_placeCount, .int x_t_placesRead, .int x_t_mayOpen, .int x_t_open, .int x_t_lastMark]))]) (wn := (ws_Sr_acceptsEntry G a_t a_t_board a_t_board_entries a_t_board_markBits n x_t_placeCount x_t_placesRead x_t_mayOpen x_t_open x_t_lastMark y4.1 y4.2)) hP hD [1, 2, 3] [0] [0, 1, 2, 3] rfl rfl (by decide) (by decide) rfl (by decide) hk hFc hB.1 hB.2
        generalize H1 = H at hP hS ⊢
        replace hP : va_P G.1 vwCl (ws_Sr_acceptsEntry G a_t a_t_board a_t_board_entries a_t_board_markBits n x_t_placeCount x_t_placesRead x_t_mayOpen x_t_open x_t_lastMark y4.1 y4.2) H := hP
        replace hD : va_D A (ws_Sr_acceptsEntry G a_t a_t_board a_t_board_entries a_t_board_markBits n x_t_placeCount x_t_placesRead x_t_mayOpen x_t_open x_t_lastMark y4.1 y4.2) := hD
        refine lv_aload_n hx hb d_Sr_acceptsEntry_53 rfl (lv_at hl 1 rfl) ?_
        refine lv_dup hx hb d_Sr_acceptsEntry_54 rfl ?_
        refine va_get (D := G.1) (ci := 4) (v := .int x_t_placesRead) (C := "PlayStates$StateReader") (T := TSr) (N := 6) hx hb hts iw_4 hown hK hP 0 rfl rfl 2 (by decide) (hts _ gw_92) (fun _ h9 => h9) rfl d_Sr_acceptsEntry_55 ?_
        refine lv_iconst (v := (1 : Int32)) hx hb d_Sr_acceptsEntry_58 (by decide) ?_
        refine lv_iadd hx hb d_Sr_acceptsEntry_59 ?_
        refine va_put (D := G.1) (ci := 4) (v := .int (x_t_placesRead + (1 : Int32))) (ty := .int) (C := "PlayStates$StateReader") (T := TSr) (N := 6) hx hb hts iw_4 tySr tySr_ok nmSr hown hK hP hD hS 0 rfl rfl 2 (by decide) (hts _ gw_92) (fun _ h9 => h9) rfl (by decide +kernel) (by rfl) (by rfl) (Nat.le_of_ble_eq_true rfl) d_Sr_acceptsEntry_60 (fun H locs hP hD hS => ?_)
        replace hP : va_P G.1 vwCl (ws_Sr_acceptsEntry G a_t a_t_board a_t_board_entries a_t_board_markBits n x_t_placeCount (x_t_placesRead + (1 : Int32)) x_t_mayOpen x_t_open x_t_lastMark y4.1 y4.2) H := hP
        replace hD : va_D A (ws_Sr_acceptsEntry G a_t a_t_board a_t_board_entries a_t_board_markBits n x_t_placeCount (x_t_placesRead + (1 : Int32)) x_t_mayOpen x_t_open x_t_lastMark y4.1 y4.2) := hD
        refine lv_aload_n hx hb d_Sr_acceptsEntry_63 rfl (lv_at hl 1 rfl) ?_
        refine lv_iconst (v := (1 : Int32)) hx hb d_Sr_acceptsEntry_64 (by decide) ?_
        refine va_put (D := G.1) (ci := 4) (v := .int (1 : Int32)) (ty := .boolean) (C := "PlayStates$StateReader") (T := TSr) (N := 6) hx hb hts iw_4 tySr tySr_ok nmSr hown hK hP hD hS 0 rfl rfl 3 (by decide) (hts _ gw_93) (fun _ h9 => h9) rfl (by decide +kernel) (by decide) (by decide) (Nat.le_of_ble_eq_true rfl) d_Sr_acceptsEntry_65 (fun H locs hP hD hS => ?_)
        replace hP : va_P G.1 vwCl (ws_Sr_acceptsEntry G a_t a_t_board a_t_board_entries a_t_board_markBits n x_t_placeCount (x_t_placesRead + (1 : Int32)) (1 : Int32) x_t_open x_t_lastMark y4.1 y4.2) H := hP
        replace hD : va_D A (ws_Sr_acceptsEntry G a_t a_t_board a_t_board_entries a_t_board_markBits n x_t_placeCount (x_t_placesRead + (1 : Int32)) (1 : Int32) x_t_open x_t_lastMark y4.1 y4.2) := hD
        refine lv_iconst (v := (1 : Int32)) hx hb d_Sr_acceptsEntry_68 (by decide) ?_
        cases h
        exact q_zretW hx hb hr hlocks (by decide) hP hD hS d_Sr_acceptsEntry_69
      · replace h := (if_neg c3).symm.trans h
        refine lv_iload_n hx hb d_Sr_acceptsEntry_32 rfl (lv_at hl 0 rfl) ?_
        obtain ⟨y5, hy5, h⟩ := o_bind h
        have hPc := hP.sub (ws' := (ws_PS_isOneToNine G)) [] rfl
        have hDc := hD.sub (ws' := (ws_PS_isOneToNine G)) [] (by decide) rfl
        have hFc := va_free (wc := (ws_PS_isOneToNine G)) hD hS hA [] rfl
        refine q_call1 (va_runSN (As := [.int (p0 - (48 : Int32))]) (rest := []) ⟨hx, hb, hml, hown, hts⟩ (c_PS_isOneToNine l G H.size (p0 - (48 : Int32)) _ hy5) ⟨va_cnB 1 hts (gC gw_201) rfl rfl rfl (hN.2.1 ("PlayStates$StateReader", 51, y_PS_isOneToNine, "PlayStates") (by decide +kernel)) (hts _ gw_31) (by decide +kernel) ⟨Nat.le_of_ble_eq_true rfl, Nat.le_of_ble_eq_true rfl⟩, hts _ gw_200, trivial⟩ (pS hK hN hPc hDc) rfl rfl hl.1 rfl (lv_room (Nat.le_of_ble_eq_true rfl)) d_Sr_acceptsEntry_33 ⟨Nat.le_of_ble_eq_true rfl, Nat.le_of_ble_eq_true rfl⟩) hS (fun q _ h => hFc q h) hFc (fun H1 locs hB hz hk hS => ?_)
        obtain ⟨hP, hD⟩ := q_join (wr := [(a_t, .inr (4, [.ref a_t_board, .int x_t_placeCount, .int x_t_placesRead, .int x_t_mayOpen, .int x_t_open, .int x_t_lastMark])), (a_t_board, .inr (0, [.ref a_t_board_entries, .ref a_t_board_markBits])), (a_t_board_entries, .inl (G.2 0, n, .inl x_t_board_entries)), (a_t_board_markBits, .inl (G.2 0, n, .inl x_t_board_markBits))]) (wn := (ws_Sr_acceptsEntry G a_t a_t_board a_t_board_entries a_t_board_markBits n x_t_placeCount x_t_placesRead x_t_mayOpen x_t_open x_t_lastMark x_t_board_entries x_t_board_markBits)) hP hD [] [0, 1, 2, 3] [0, 1, 2, 3] rfl rfl (by decide) (by decide) rfl (by decide) hk hFc hB.1 hB.2
        generalize H1 = H at hP hS ⊢
        replace hP : va_P G.1 vwCl (ws_Sr_acceptsEntry G a_t a_t_board a_t_board_entries a_t_board_markBits n x_t_placeCount x_t_placesRead x_t_mayOpen x_t_open x_t_lastMark x_t_board_entries x_t_board_markBits) H := hP
        replace hD : va_D A (ws_Sr_acceptsEntry G a_t a_t_board a_t_board_entries a_t_board_markBits n x_t_placeCount x_t_placesRead x_t_mayOpen x_t_open x_t_lastMark x_t_board_entries x_t_board_markBits) := hD
        refine lv_if_ne (tgt := 41) hx hb d_Sr_acceptsEntry_36 (by decide) (fun c6 => ?_) (fun c6 => ?_)
        · replace h := (if_neg c6).symm.trans h
          refine lv_aload_n hx hb d_Sr_acceptsEntry_41 rfl (lv_at hl 1 rfl) ?_
          refine va_get (D := G.1) (ci := 4) (v := .ref a_t_board) (C := "PlayStates$StateReader") (T := TSr) (N := 6) hx hb hts iw_4 hown hK hP 0 rfl rfl 0 (by decide) (hts _ gw_90) (fun _ h9 => h9) rfl d_Sr_acceptsEntry_42 ?_
          refine lv_aload_n hx hb d_Sr_acceptsEntry_45 rfl (lv_at hl 1 rfl) ?_
          refine va_get (D := G.1) (ci := 4) (v := .int x_t_placesRead) (C := "PlayStates$StateReader") (T := TSr) (N := 6) hx hb hts iw_4 hown hK hP 0 rfl rfl 2 (by decide) (hts _ gw_92) (fun _ h9 => h9) rfl d_Sr_acceptsEntry_46 ?_
          refine lv_iload_n hx hb d_Sr_acceptsEntry_49 rfl (lv_at hl 0 rfl) ?_
          obtain ⟨y7, hy7, h⟩ := o_bind h
          have hPc := hP.sub (ws' := (ws_Bd_put G a_t_board a_t_board_entries a_t_board_markBits n x_t_board_entries x_t_board_markBits)) [1, 2, 3] rfl
          have hDc := hD.sub (ws' := (ws_Bd_put G a_t_board a_t_board_entries a_t_board_markBits n x_t_board_entries x_t_board_markBits)) [1, 2, 3] (by decide) rfl
          have hFc := va_free (wc := (ws_Bd_put G a_t_board a_t_board_entries a_t_board_markBits n x_t_board_entries x_t_board_markBits)) hD hS hA [1, 2, 3] rfl
          refine q_call0 (va_runV (As := [.int x_t_placesRead, .int (p0 - (48 : Int32))]) (rest := []) ⟨hx, hb, hml, hown, hts⟩ (c_Bd_put l G H.size a_t_board a_t_board_entries a_t_board_markBits n x_t_placesRead (p0 - (48 : Int32)) x_t_board_entries x_t_board_markBits _ _ hy7) (cwV 2 hts (gV gw_346 gw_192 gw_193 gw_34 gw_194) rfl rfl rfl (by decide +kernel) ⟨Nat.le_of_ble_eq_true rfl, Nat.le_of_ble_eq_true rfl⟩) (pV hK hN hPc hDc (ci := 0) (q0 := 0) rfl rfl) rfl rfl hl.1 rfl (lv_room (Nat.le_of_ble_eq_true rfl)) d_Sr_acceptsEntry_50 ⟨Nat.le_of_ble_eq_true rfl, Nat.le_of_ble_eq_true rfl⟩) hS (fun q _ h => hFc q h) hFc (fun H1 locs hB hz hk hS => ?_)
          obtain ⟨hP, hD⟩ := q_join (wr := [(a_t, .inr (4, [.ref a_t_board, .int x_t_placeCount, .int x_t_placesRead, .int x_t_mayOpen, .int x_t_open, .int x_t_lastMark]))]) (wn := (ws_Sr_acceptsEntry G a_t a_t_board a_t_board_entries a_t_board_markBits n x_t_placeCount x_t_placesRead x_t_mayOpen x_t_open x_t_lastMark y7.1 y7.2)) hP hD [1, 2, 3] [0] [0, 1, 2, 3] rfl rfl (by decide) (by decide) rfl (by decide) hk hFc hB.1 hB.2
          generalize H1 = H at hP hS ⊢
          replace hP : va_P G.1 vwCl (ws_Sr_acceptsEntry G a_t a_t_board a_t_board_entries a_t_board_markBits n x_t_placeCount x_t_placesRead x_t_mayOpen x_t_open x_t_lastMark y7.1 y7.2) H := hP
          replace hD : va_D A (ws_Sr_acceptsEntry G a_t a_t_board a_t_board_entries a_t_board_markBits n x_t_placeCount x_t_placesRead x_t_mayOpen x_t_open x_t_lastMark y7.1 y7.2) := hD
          refine lv_aload_n hx hb d_Sr_acceptsEntry_53 rfl (lv_at hl 1 rfl) ?_
          refine lv_dup hx hb d_Sr_acceptsEntry_54 rfl ?_
          refine va_get (D := G.1) (ci := 4) (v := .int x_t_placesRead) (C := "PlayStates$StateReader") (T := TSr) (N := 6) hx hb hts iw_4 hown hK hP 0 rfl rfl 2 (by decide) (hts _ gw_92) (fun _ h9 => h9) rfl d_Sr_acceptsEntry_55 ?_
          refine lv_iconst (v := (1 : Int32)) hx hb d_Sr_acceptsEntry_58 (by decide) ?_
          refine lv_iadd hx hb d_Sr_acceptsEntry_59 ?_
          refine va_put (D := G.1) (ci := 4) (v := .int (x_t_placesRead + (1 : Int32))) (ty := .int) (C := "PlayStates$StateReader") (T := TSr) (N := 6) hx hb hts iw_4 tySr tySr_ok nmSr hown hK hP hD hS 0 rfl rfl 2 (by decide) (hts _ gw_92) (fun _ h9 => h9) rfl (by decide +kernel) (by rfl) (by rfl) (Nat.le_of_ble_eq_true rfl) d_Sr_acceptsEntry_60 (fun H locs hP hD hS => ?_)
          replace hP : va_P G.1 vwCl (ws_Sr_acceptsEntry G a_t a_t_board a_t_board_entries a_t_board_markBits n x_t_placeCount (x_t_placesRead + (1 : Int32)) x_t_mayOpen x_t_open x_t_lastMark y7.1 y7.2) H := hP
          replace hD : va_D A (ws_Sr_acceptsEntry G a_t a_t_board a_t_board_entries a_t_board_markBits n x_t_placeCount (x_t_placesRead + (1 : Int32)) x_t_mayOpen x_t_open x_t_lastMark y7.1 y7.2) := hD
          refine lv_aload_n hx hb d_Sr_acceptsEntry_63 rfl (lv_at hl 1 rfl) ?_
          refine lv_iconst (v := (1 : Int32)) hx hb d_Sr_acceptsEntry_64 (by decide) ?_
          refine va_put (D := G.1) (ci := 4) (v := .int (1 : Int32)) (ty := .boolean) (C := "PlayStates$StateReader") (T := TSr) (N := 6) hx hb hts iw_4 tySr tySr_ok nmSr hown hK hP hD hS 0 rfl rfl 3 (by decide) (hts _ gw_93) (fun _ h9 => h9) rfl (by decide +kernel) (by decide) (by decide) (Nat.le_of_ble_eq_true rfl) d_Sr_acceptsEntry_65 (fun H locs hP hD hS => ?_)
          replace hP : va_P G.1 vwCl (ws_Sr_acceptsEntry G a_t a_t_board a_t_board_entries a_t_board_markBits n x_t_placeCount (x_t_placesRead + (1 : Int32)) (1 : Int32) x_t_open x_t_lastMark y7.1 y7.2) H := hP
          replace hD : va_D A (ws_Sr_acceptsEntry G a_t a_t_board a_t_board_entries a_t_board_markBits n x_t_placeCount (x_t_placesRead + (1 : Int32)) (1 : Int32) x_t_open x_t_lastMark y7.1 y7.2) := hD
          refine lv_iconst (v := (1 : Int32)) hx hb d_Sr_acceptsEntry_68 (by decide) ?_
          cases h
          exact q_zretW hx hb hr hlocks (by decide) hP hD hS d_Sr_acceptsEntry_69
        · replace h := (if_pos c6).symm.trans h
          refine lv_iconst (v := (0 : Int32)) hx hb d_Sr_acceptsEntry_39 (by decide) ?_
          cases h
          exact q_zretW hx hb hr hlocks (by decide) hP hD hS d_Sr_acceptsEntry_40
  · replace h := (if_pos c1).symm.trans h
    refine lv_iconst (v := (0 : Int32)) hx hb d_Sr_acceptsEntry_6 (by decide) ?_
    refine lv_goto (tgt := 14) hx hb d_Sr_acceptsEntry_7 (by decide) ?_
    refine lv_istore_n (lv' := [(2, .int (0 : Int32)), (0, .ref a_t), (1, .int p0)]) hx hb d_Sr_acceptsEntry_14 rfl hl (by decide) rfl (fun ls hl => ?_)
    refine lv_aload_n hx hb d_Sr_acceptsEntry_15 rfl (lv_at hl 1 rfl) ?_
    refine va_get (D := G.1) (ci := 4) (v := .int x_t_placesRead) (C := "PlayStates$StateReader") (T := TSr) (N := 6) hx hb hts iw_4 hown hK hP 0 rfl rfl 2 (by decide) (hts _ gw_92) (fun _ h9 => h9) rfl d_Sr_acceptsEntry_16 ?_
    refine lv_aload_n hx hb d_Sr_acceptsEntry_19 rfl (lv_at hl 1 rfl) ?_
    refine va_get (D := G.1) (ci := 4) (v := .int x_t_placeCount) (C := "PlayStates$StateReader") (T := TSr) (N := 6) hx hb hts iw_4 hown hK hP 0 rfl rfl 1 (by decide) (hts _ gw_91) (fun _ h9 => h9) rfl d_Sr_acceptsEntry_20 ?_
    refine lv_icmp_ge (tgt := 39) hx hb d_Sr_acceptsEntry_23 (by decide) (fun c8 => ?_) (fun c8 => ?_)
    · replace h := (if_pos c8).symm.trans h
      refine lv_iconst (v := (0 : Int32)) hx hb d_Sr_acceptsEntry_39 (by decide) ?_
      cases h
      exact q_zretW hx hb hr hlocks (by decide) hP hD hS d_Sr_acceptsEntry_40
    · replace h := (if_neg c8).symm.trans h
      refine lv_iload_n hx hb d_Sr_acceptsEntry_26 rfl (lv_at hl 2 rfl) ?_
      refine lv_bipush (v := (46 : Int32)) hx hb d_Sr_acceptsEntry_27 (by decide) ?_
      refine lv_icmp_eq (tgt := 41) hx hb d_Sr_acceptsEntry_29 (by decide) (fun c9 => ?_) (fun c9 => ?_)
      · replace h := (if_pos c9).symm.trans h
        refine lv_aload_n hx hb d_Sr_acceptsEntry_41 rfl (lv_at hl 1 rfl) ?_
        refine va_get (D := G.1) (ci := 4) (v := .ref a_t_board) (C := "PlayStates$StateReader") (T := TSr) (N := 6) hx hb hts iw_4 hown hK hP 0 rfl rfl 0 (by decide) (hts _ gw_90) (fun _ h9 => h9) rfl d_Sr_acceptsEntry_42 ?_
        refine lv_aload_n hx hb d_Sr_acceptsEntry_45 rfl (lv_at hl 1 rfl) ?_
        refine va_get (D := G.1) (ci := 4) (v := .int x_t_placesRead) (C := "PlayStates$StateReader") (T := TSr) (N := 6) hx hb hts iw_4 hown hK hP 0 rfl rfl 2 (by decide) (hts _ gw_92) (fun _ h9 => h9) rfl d_Sr_acceptsEntry_46 ?_
        refine lv_iload_n hx hb d_Sr_acceptsEntry_49 rfl (lv_at hl 0 rfl) ?_
        obtain ⟨y10, hy10, h⟩ := o_bind h
        have hPc := hP.sub (ws' := (ws_Bd_put G a_t_board a_t_board_entries a_t_board_markBits n x_t_board_entries x_t_board_markBits)) [1, 2, 3] rfl
        have hDc := hD.sub (ws' := (ws_Bd_put G a_t_board a_t_board_entries a_t_board_markBits n x_t_board_entries x_t_board_markBits)) [1, 2, 3] (by decide) rfl
        have hFc := va_free (wc := (ws_Bd_put G a_t_board a_t_board_entries a_t_board_markBits n x_t_board_entries x_t_board_markBits)) hD hS hA [1, 2, 3] rfl
        refine q_call0 (va_runV (As := [.int x_t_placesRead, .int (0 : Int32)]) (rest := []) ⟨hx, hb, hml, hown, hts⟩ (c_Bd_put l G H.size a_t_board a_t_board_entries a_t_board_markBits n x_t_placesRead (0 : Int32) x_t_board_entries x_t_board_markBits _ _ hy10) (cwV 2 hts (gV gw_346 gw_192 gw_193 gw_34 gw_194) rfl rfl rfl (by decide +kernel) ⟨Nat.le_of_ble_eq_true rfl, Nat.le_of_ble_eq_true rfl⟩) (pV hK hN hPc hDc (ci := 0) (q0 := 0) rfl rfl) rfl rfl hl.1 rfl (lv_room (Nat.le_of_ble_eq_true rfl)) d_Sr_acceptsEntry_50 ⟨Nat.le_of_ble_eq_true rfl, Nat.le_of_ble_eq_true rfl⟩) hS (fun q _ h => hFc q h) hFc (fun H1 locs hB hz hk hS => ?_)
        obtain ⟨hP, hD⟩ := q_join (wr := [(a_t, .inr (4, [.ref a_t_board, .int x_t_placeCount, .int x_t_placesRead, .int x_t_mayOpen, .int x_t_open, .int x_t_lastMark]))]) (wn := (ws_Sr_acceptsEntry G a_t a_t_board a_t_board_entries a_t_board_markBits n x_t_placeCount x_t_placesRead x_t_mayOpen x_t_open x_t_lastMark y10.1 y10.2)) hP hD [1, 2, 3] [0] [0, 1, 2, 3] rfl rfl (by decide) (by decide) rfl (by decide) hk hFc hB.1 hB.2
        generalize H1 = H at hP hS ⊢
        replace hP : va_P G.1 vwCl (ws_Sr_acceptsEntry G a_t a_t_board a_t_board_entries a_t_board_markBits n x_t_placeCount x_t_placesRead x_t_mayOpen x_t_open x_t_lastMark y10.1 y10.2) H := hP
        replace hD : va_D A (ws_Sr_acceptsEntry G a_t a_t_board a_t_board_entries a_t_board_markBits n x_t_placeCount x_t_placesRead x_t_mayOpen x_t_open x_t_lastMark y10.1 y10.2) := hD
        refine lv_aload_n hx hb d_Sr_acceptsEntry_53 rfl (lv_at hl 1 rfl) ?_
        refine lv_dup hx hb d_Sr_acceptsEntry_54 rfl ?_
        refine va_get (D := G.1) (ci := 4) (v := .int x_t_placesRead) (C := "PlayStates$StateReader") (T := TSr) (N := 6) hx hb hts iw_4 hown hK hP 0 rfl rfl 2 (by decide) (hts _ gw_92) (fun _ h9 => h9) rfl d_Sr_acceptsEntry_55 ?_
        refine lv_iconst (v := (1 : Int32)) hx hb d_Sr_acceptsEntry_58 (by decide) ?_
        refine lv_iadd hx hb d_Sr_acceptsEntry_59 ?_
        refine va_put (D := G.1) (ci := 4) (v := .int (x_t_placesRead + (1 : Int32))) (ty := .int) (C := "PlayStates$StateReader") (T := TSr) (N := 6) hx hb hts iw_4 tySr tySr_ok nmSr hown hK hP hD hS 0 rfl rfl 2 (by decide) (hts _ gw_92) (fun _ h9 => h9) rfl (by decide +kernel) (by rfl) (by rfl) (Nat.le_of_ble_eq_true rfl) d_Sr_acceptsEntry_60 (fun H locs hP hD hS => ?_)
        replace hP : va_P G.1 vwCl (ws_Sr_acceptsEntry G a_t a_t_board a_t_board_entries a_t_board_markBits n x_t_placeCount (x_t_placesRead + (1 : Int32)) x_t_mayOpen x_t_open x_t_lastMark y10.1 y10.2) H := hP
        replace hD : va_D A (ws_Sr_acceptsEntry G a_t a_t_board a_t_board_entries a_t_board_markBits n x_t_placeCount (x_t_placesRead + (1 : Int32)) x_t_mayOpen x_t_open x_t_lastMark y10.1 y10.2) := hD
        refine lv_aload_n hx hb d_Sr_acceptsEntry_63 rfl (lv_at hl 1 rfl) ?_
        refine lv_iconst (v := (1 : Int32)) hx hb d_Sr_acceptsEntry_64 (by decide) ?_
        refine va_put (D := G.1) (ci := 4) (v := .int (1 : Int32)) (ty := .boolean) (C := "PlayStates$StateReader") (T := TSr) (N := 6) hx hb hts iw_4 tySr tySr_ok nmSr hown hK hP hD hS 0 rfl rfl 3 (by decide) (hts _ gw_93) (fun _ h9 => h9) rfl (by decide +kernel) (by decide) (by decide) (Nat.le_of_ble_eq_true rfl) d_Sr_acceptsEntry_65 (fun H locs hP hD hS => ?_)
        replace hP : va_P G.1 vwCl (ws_Sr_acceptsEntry G a_t a_t_board a_t_board_entries a_t_board_markBits n x_t_placeCount (x_t_placesRead + (1 : Int32)) (1 : Int32) x_t_open x_t_lastMark y10.1 y10.2) H := hP
        replace hD : va_D A (ws_Sr_acceptsEntry G a_t a_t_board a_t_board_entries a_t_board_markBits n x_t_placeCount (x_t_placesRead + (1 : Int32)) (1 : Int32) x_t_open x_t_lastMark y10.1 y10.2) := hD
        refine lv_iconst (v := (1 : Int32)) hx hb d_Sr_acceptsEntry_68 (by decide) ?_
        cases h
        exact q_zretW hx hb hr hlocks (by decide) hP hD hS d_Sr_acceptsEntry_69
      · replace h := (if_neg c9).symm.trans h
        refine lv_iload_n hx hb d_Sr_acceptsEntry_32 rfl (lv_at hl 0 rfl) ?_
        obtain ⟨y11, hy11, h⟩ := o_bind h
        have hPc := hP.sub (ws' := (ws_PS_isOneToNine G)) [] rfl
        have hDc := hD.sub (ws' := (ws_PS_isOneToNine G)) [] (by decide) rfl
        have hFc := va_free (wc := (ws_PS_isOneToNine G)) hD hS hA [] rfl
        refine q_call1 (va_runSN (As := [.int (0 : Int32)]) (rest := []) ⟨hx, hb, hml, hown, hts⟩ (c_PS_isOneToNine l G H.size (0 : Int32) _ hy11) ⟨va_cnB 1 hts (gC gw_201) rfl rfl rfl (hN.2.1 ("PlayStates$StateReader", 51, y_PS_isOneToNine, "PlayStates") (by decide +kernel)) (hts _ gw_31) (by decide +kernel) ⟨Nat.le_of_ble_eq_true rfl, Nat.le_of_ble_eq_true rfl⟩, hts _ gw_200, trivial⟩ (pS hK hN hPc hDc) rfl rfl hl.1 rfl (lv_room (Nat.le_of_ble_eq_true rfl)) d_Sr_acceptsEntry_33 ⟨Nat.le_of_ble_eq_true rfl, Nat.le_of_ble_eq_true rfl⟩) hS (fun q _ h => hFc q h) hFc (fun H1 locs hB hz hk hS => ?_)
        obtain ⟨hP, hD⟩ := q_join (wr := [(a_t, .inr (4, [.ref a_t_board, .int x_t_placeCount, .int x_t_placesRead, .int x_t_mayOpen, .int x_t_open, .int x_t_lastMark])), (a_t_board, .inr (0, [.ref a_t_board_entries, .ref a_t_board_markBits])), (a_t_board_entries, .inl (G.2 0, n, .inl x_t_board_entries)), (a_t_board_markBits, .inl (G.2 0, n, .inl x_t_board_markBits))]) (wn := (ws_Sr_acceptsEntry G a_t a_t_board a_t_board_entries a_t_board_markBits n x_t_placeCount x_t_placesRead x_t_mayOpen x_t_open x_t_lastMark x_t_board_entries x_t_board_markBits)) hP hD [] [0, 1, 2, 3] [0, 1, 2, 3] rfl rfl (by decide) (by decide) rfl (by decide) hk hFc hB.1 hB.2
        generalize H1 = H at hP hS ⊢
        replace hP : va_P G.1 vwCl (ws_Sr_acceptsEntry G a_t a_t_board a_t_board_entries a_t_board_markBits n x_t_placeCount x_t_placesRead x_t_mayOpen x_t_open x_t_lastMark x_t_board_entries x_t_board_markBits) H := hP
        replace hD : va_D A (ws_Sr_acceptsEntry G a_t a_t_board a_t_board_entries a_t_board_markBits n x_t_placeCount x_t_placesRead x_t_mayOpen x_t_open x_t_lastMark x_t_board_entries x_t_board_markBits) := hD
        refine lv_if_ne (tgt := 41) hx hb d_Sr_acceptsEntry_36 (by decide) (fun c12 => ?_) (fun c12 => ?_)
        · replace h := (if_neg c12).symm.trans h
          refine lv_aload_n hx hb d_Sr_acceptsEntry_41 rfl (lv_at hl 1 rfl) ?_
          refine va_get (D := G.1) (ci := 4) (v := .ref a_t_board) (C := "PlayStates$StateReader") (T := TSr) (N := 6) hx hb hts iw_4 hown hK hP 0 rfl rfl 0 (by decide) (hts _ gw_90) (fun _ h9 => h9) rfl d_Sr_acceptsEntry_42 ?_
          refine lv_aload_n hx hb d_Sr_acceptsEntry_45 rfl (lv_at hl 1 rfl) ?_
          refine va_get (D := G.1) (ci := 4) (v := .int x_t_placesRead) (C := "PlayStates$StateReader") (T := TSr) (N := 6) hx hb hts iw_4 hown hK hP 0 rfl rfl 2 (by decide) (hts _ gw_92) (fun _ h9 => h9) rfl d_Sr_acceptsEntry_46 ?_
          refine lv_iload_n hx hb d_Sr_acceptsEntry_49 rfl (lv_at hl 0 rfl) ?_
          obtain ⟨y13, hy13, h⟩ := o_bind h
          have hPc := hP.sub (ws' := (ws_Bd_put G a_t_board a_t_board_entries a_t_board_markBits n x_t_board_entries x_t_board_markBits)) [1, 2, 3] rfl
          have hDc := hD.sub (ws' := (ws_Bd_put G a_t_board a_t_board_entries a_t_board_markBits n x_t_board_entries x_t_board_markBits)) [1, 2, 3] (by decide) rfl
          have hFc := va_free (wc := (ws_Bd_put G a_t_board a_t_board_entries a_t_board_markBits n x_t_board_entries x_t_board_markBits)) hD hS hA [1, 2, 3] rfl
          refine q_call0 (va_runV (As := [.int x_t_placesRead, .int (0 : Int32)]) (rest := []) ⟨hx, hb, hml, hown, hts⟩ (c_Bd_put l G H.size a_t_board a_t_board_entries a_t_board_markBits n x_t_placesRead (0 : Int32) x_t_board_entries x_t_board_markBits _ _ hy13) (cwV 2 hts (gV gw_346 gw_192 gw_193 gw_34 gw_194) rfl rfl rfl (by decide +kernel) ⟨Nat.le_of_ble_eq_true rfl, Nat.le_of_ble_eq_true rfl⟩) (pV hK hN hPc hDc (ci := 0) (q0 := 0) rfl rfl) rfl rfl hl.1 rfl (lv_room (Nat.le_of_ble_eq_true rfl)) d_Sr_acceptsEntry_50 ⟨Nat.le_of_ble_eq_true rfl, Nat.le_of_ble_eq_true rfl⟩) hS (fun q _ h => hFc q h) hFc (fun H1 locs hB hz hk hS => ?_)
          obtain ⟨hP, hD⟩ := q_join (wr := [(a_t, .inr (4, [.ref a_t_board, .int x_t_placeCount, .int x_t_placesRead, .int x_t_mayOpen, .int x_t_open, .int x_t_lastMark]))]) (wn := (ws_Sr_acceptsEntry G a_t a_t_board a_t_board_entries a_t_board_markBits n x_t_placeCount x_t_placesRead x_t_mayOpen x_t_open x_t_lastMark y13.1 y13.2)) hP hD [1, 2, 3] [0] [0, 1, 2, 3] rfl rfl (by decide) (by decide) rfl (by decide) hk hFc hB.1 hB.2
          generalize H1 = H at hP hS ⊢
          replace hP : va_P G.1 vwCl (ws_Sr_acceptsEntry G a_t a_t_board a_t_board_entries a_t_board_markBits n x_t_placeCount x_t_placesRead x_t_mayOpen x_t_open x_t_lastMark y13.1 y13.2) H := hP
          replace hD : va_D A (ws_Sr_acceptsEntry G a_t a_t_board a_t_board_entries a_t_board_markBits n x_t_placeCount x_t_placesRead x_t_mayOpen x_t_open x_t_lastMark y13.1 y13.2) := hD
          refine lv_aload_n hx hb d_Sr_acceptsEntry_53 rfl (lv_at hl 1 rfl) ?_
          refine lv_dup hx hb d_Sr_acceptsEntry_54 rfl ?_
          refine va_get (D := G.1) (ci := 4) (v := .int x_t_placesRead) (C := "PlayStates$StateReader") (T := TSr) (N := 6) hx hb hts iw_4 hown hK hP 0 rfl rfl 2 (by decide) (hts _ gw_92) (fun _ h9 => h9) rfl d_Sr_acceptsEntry_55 ?_
          refine lv_iconst (v := (1 : Int32)) hx hb d_Sr_acceptsEntry_58 (by decide) ?_
          refine lv_iadd hx hb d_Sr_acceptsEntry_59 ?_
          refine va_put (D := G.1) (ci := 4) (v := .int (x_t_placesRead + (1 : Int32))) (ty := .int) (C := "PlayStates$StateReader") (T := TSr) (N := 6) hx hb hts iw_4 tySr tySr_ok nmSr hown hK hP hD hS 0 rfl rfl 2 (by decide) (hts _ gw_92) (fun _ h9 => h9) rfl (by decide +kernel) (by rfl) (by rfl) (Nat.le_of_ble_eq_true rfl) d_Sr_acceptsEntry_60 (fun H locs hP hD hS => ?_)
          replace hP : va_P G.1 vwCl (ws_Sr_acceptsEntry G a_t a_t_board a_t_board_entries a_t_board_markBits n x_t_placeCount (x_t_placesRead + (1 : Int32)) x_t_mayOpen x_t_open x_t_lastMark y13.1 y13.2) H := hP
          replace hD : va_D A (ws_Sr_acceptsEntry G a_t a_t_board a_t_board_entries a_t_board_markBits n x_t_placeCount (x_t_placesRead + (1 : Int32)) x_t_mayOpen x_t_open x_t_lastMark y13.1 y13.2) := hD
          refine lv_aload_n hx hb d_Sr_acceptsEntry_63 rfl (lv_at hl 1 rfl) ?_
          refine lv_iconst (v := (1 : Int32)) hx hb d_Sr_acceptsEntry_64 (by decide) ?_
          refine va_put (D := G.1) (ci := 4) (v := .int (1 : Int32)) (ty := .boolean) (C := "PlayStates$StateReader") (T := TSr) (N := 6) hx hb hts iw_4 tySr tySr_ok nmSr hown hK hP hD hS 0 rfl rfl 3 (by decide) (hts _ gw_93) (fun _ h9 => h9) rfl (by decide +kernel) (by decide) (by decide) (Nat.le_of_ble_eq_true rfl) d_Sr_acceptsEntry_65 (fun H locs hP hD hS => ?_)
          replace hP : va_P G.1 vwCl (ws_Sr_acceptsEntry G a_t a_t_board a_t_board_entries a_t_board_markBits n x_t_placeCount (x_t_placesRead + (1 : Int32)) (1 : Int32) x_t_open x_t_lastMark y13.1 y13.2) H := hP
          replace hD : va_D A (ws_Sr_acceptsEntry G a_t a_t_board a_t_board_entries a_t_board_markBits n x_t_placeCount (x_t_placesRead + (1 : Int32)) (1 : Int32) x_t_open x_t_lastMark y13.1 y13.2) := hD
          refine lv_iconst (v := (1 : Int32)) hx hb d_Sr_acceptsEntry_68 (by decide) ?_
          cases h
          exact q_zretW hx hb hr hlocks (by decide) hP hD hS d_Sr_acceptsEntry_69
        · replace h := (if_pos c12).symm.trans h
          refine lv_iconst (v := (0 : Int32)) hx hb d_Sr_acceptsEntry_39 (by decide) ?_
          cases h
          exact q_zretW hx hb hr hlocks (by decide) hP hD hS d_Sr_acceptsEntry_40

theorem gw_352 : (.code ⟨"PlayStates$StateReader", "acceptsEntry", "(I)Z"⟩ prog_6_method_8_code 3 (some .boolean) : Cond) ∈ GW := gT 389 (by decide +kernel) (by decide +kernel)
theorem gw_350 : (.methodLink "PlayStates$StateReader" 45 ⟨"PlayStates$StateReader", "acceptsEntry", "(I)Z"⟩ : Cond) ∈ GW := gT 386 (by decide +kernel) (by decide +kernel)
theorem gw_35 : (.initialized "PlayStates$StateReader" : Cond) ∈ GW := gT 5 (by decide +kernel) (by decide +kernel)
theorem gw_351 : (.instanceMethod ⟨"PlayStates$StateReader", "acceptsEntry", "(I)Z"⟩ : Cond) ∈ GW := gT 388 (by decide +kernel) (by decide +kernel)
theorem gw_14 : (.selects "PlayStates$StateReader" ⟨"PlayStates$StateReader", "acceptsEntry", "(I)Z"⟩ ⟨"PlayStates$StateReader", "acceptsEntry", "(I)Z"⟩ : Cond) ∈ GW := gP 14 (by decide +kernel) (by decide +kernel)
theorem gw_349 : (.code ⟨"PlayStates$StateReader", "acceptsOpening", "()Z"⟩ prog_6_method_5_code 1 (some .boolean) : Cond) ∈ GW := gT 385 (by decide +kernel) (by decide +kernel)
theorem gw_347 : (.methodLink "PlayStates$StateReader" 42 ⟨"PlayStates$StateReader", "acceptsOpening", "()Z"⟩ : Cond) ∈ GW := gT 382 (by decide +kernel) (by decide +kernel)
theorem gw_348 : (.instanceMethod ⟨"PlayStates$StateReader", "acceptsOpening", "()Z"⟩ : Cond) ∈ GW := gT 384 (by decide +kernel) (by decide +kernel)
theorem gw_13 : (.selects "PlayStates$StateReader" ⟨"PlayStates$StateReader", "acceptsOpening", "()Z"⟩ ⟨"PlayStates$StateReader", "acceptsOpening", "()Z"⟩ : Cond) ∈ GW := gP 13 (by decide +kernel) (by decide +kernel)
theorem gw_345 : (.code ⟨"PlayStates$StateReader", "acceptsMark", "(I)Z"⟩ prog_6_method_7_code 2 (some .boolean) : Cond) ∈ GW := gT 379 (by decide +kernel) (by decide +kernel)
theorem gw_343 : (.methodLink "PlayStates$StateReader" 38 ⟨"PlayStates$StateReader", "acceptsMark", "(I)Z"⟩ : Cond) ∈ GW := gT 376 (by decide +kernel) (by decide +kernel)
theorem gw_344 : (.instanceMethod ⟨"PlayStates$StateReader", "acceptsMark", "(I)Z"⟩ : Cond) ∈ GW := gT 378 (by decide +kernel) (by decide +kernel)
theorem gw_12 : (.selects "PlayStates$StateReader" ⟨"PlayStates$StateReader", "acceptsMark", "(I)Z"⟩ ⟨"PlayStates$StateReader", "acceptsMark", "(I)Z"⟩ : Cond) ∈ GW := gP 12 (by decide +kernel) (by decide +kernel)
theorem gw_342 : (.code ⟨"PlayStates$StateReader", "acceptsClosing", "()Z"⟩ prog_6_method_6_code 1 (some .boolean) : Cond) ∈ GW := gT 375 (by decide +kernel) (by decide +kernel)
theorem gw_340 : (.methodLink "PlayStates$StateReader" 34 ⟨"PlayStates$StateReader", "acceptsClosing", "()Z"⟩ : Cond) ∈ GW := gT 372 (by decide +kernel) (by decide +kernel)
theorem gw_341 : (.instanceMethod ⟨"PlayStates$StateReader", "acceptsClosing", "()Z"⟩ : Cond) ∈ GW := gT 374 (by decide +kernel) (by decide +kernel)
theorem gw_11 : (.selects "PlayStates$StateReader" ⟨"PlayStates$StateReader", "acceptsClosing", "()Z"⟩ ⟨"PlayStates$StateReader", "acceptsClosing", "()Z"⟩ : Cond) ∈ GW := gP 11 (by decide +kernel) (by decide +kernel)
theorem d_Sr_accepts_0 : decode prog_6_method_3_code 0 = .ok (.aload_n 0, 1) := by decide +kernel
theorem d_Sr_accepts_1 : decode prog_6_method_3_code 1 = .ok (.getfield 31, 3) := by decide +kernel
theorem d_Sr_accepts_4 : decode prog_6_method_3_code 4 = .ok (.ifCond .eq 25, 3) := by decide +kernel
theorem d_Sr_accepts_7 : decode prog_6_method_3_code 7 = .ok (.iload_n 1, 1) := by decide +kernel
theorem d_Sr_accepts_8 : decode prog_6_method_3_code 8 = .ok (.bipush 41, 2) := by decide +kernel
theorem d_Sr_accepts_10 : decode prog_6_method_3_code 10 = .ok (.if_icmp .ne 10, 3) := by decide +kernel
theorem d_Sr_accepts_13 : decode prog_6_method_3_code 13 = .ok (.aload_n 0, 1) := by decide +kernel
theorem d_Sr_accepts_14 : decode prog_6_method_3_code 14 = .ok (.invokevirtual 34, 3) := by decide +kernel
theorem d_Sr_accepts_17 : decode prog_6_method_3_code 17 = .ok (.goto 11, 3) := by decide +kernel
theorem d_Sr_accepts_20 : decode prog_6_method_3_code 20 = .ok (.aload_n 0, 1) := by decide +kernel
theorem d_Sr_accepts_21 : decode prog_6_method_3_code 21 = .ok (.iload_n 1, 1) := by decide +kernel
theorem d_Sr_accepts_22 : decode prog_6_method_3_code 22 = .ok (.bipush 48, 2) := by decide +kernel
theorem d_Sr_accepts_24 : decode prog_6_method_3_code 24 = .ok (.isub, 1) := by decide +kernel
theorem d_Sr_accepts_25 : decode prog_6_method_3_code 25 = .ok (.invokevirtual 38, 3) := by decide +kernel
theorem d_Sr_accepts_28 : decode prog_6_method_3_code 28 = .ok (.ireturn, 1) := by decide +kernel
theorem d_Sr_accepts_29 : decode prog_6_method_3_code 29 = .ok (.iload_n 1, 1) := by decide +kernel
theorem d_Sr_accepts_30 : decode prog_6_method_3_code 30 = .ok (.bipush 40, 2) := by decide +kernel
theorem d_Sr_accepts_32 : decode prog_6_method_3_code 32 = .ok (.if_icmp .ne 8, 3) := by decide +kernel
theorem d_Sr_accepts_35 : decode prog_6_method_3_code 35 = .ok (.aload_n 0, 1) := by decide +kernel
theorem d_Sr_accepts_36 : decode prog_6_method_3_code 36 = .ok (.invokevirtual 42, 3) := by decide +kernel
theorem d_Sr_accepts_39 : decode prog_6_method_3_code 39 = .ok (.ireturn, 1) := by decide +kernel
theorem d_Sr_accepts_40 : decode prog_6_method_3_code 40 = .ok (.aload_n 0, 1) := by decide +kernel
theorem d_Sr_accepts_41 : decode prog_6_method_3_code 41 = .ok (.iload_n 1, 1) := by decide +kernel
theorem d_Sr_accepts_42 : decode prog_6_method_3_code 42 = .ok (.invokevirtual 45, 3) := by decide +kernel
theorem d_Sr_accepts_45 : decode prog_6_method_3_code 45 = .ok (.ireturn, 1) := by decide +kernel
-- PlayStates$StateReader.accepts(I)Z 
def ws_Sr_accepts (G : gG) (a_t a_t_board a_t_board_entries a_t_board_markBits : Nat) (n : Nat) (x_t_placeCount : Int32) (x_t_placesRead : Int32) (x_t_mayOpen : Int32) (x_t_open : Int32) (x_t_lastMark : Int32) (x_t_board_entries : Nat → Int32) (x_t_board_markBits : Nat → Int32) : va_W := [(a_t, .inr (4, [.ref a_t_board, .int x_t_placeCount, .int x_t_placesRead, .int x_t_mayOpen, .int x_t_open, .int x_t_lastMark])), (a_t_board, .inr (0, [.ref a_t_board_entries, .ref a_t_board_markBits])), (a_t_board_entries, .inl (G.2 0, n, .inl x_t_board_entries)), (a_t_board_markBits, .inl (G.2 0, n, .inl x_t_board_markBits))]
def f_Sr_accepts (n : Nat) (p0 : Int32) (x_t_placeCount : Int32) (x_t_placesRead : Int32) (x_t_mayOpen : Int32) (x_t_open : Int32) (x_t_lastMark : Int32) (x_t_board_entries : Nat → Int32) (x_t_board_markBits : Nat → Int32) : Option (Int32 × Int32 × Int32 × Int32 × Int32 × (Nat → Int32) × (Nat → Int32)) :=
  (if x_t_open = 0 then (if p0 = (40 : Int32) then ((f_Sr_acceptsOpening x_t_placeCount x_t_placesRead x_t_mayOpen x_t_open x_t_lastMark).bind fun y5 => (if (y5.1 = 0 ∨ y5.1 = 1) then some (y5.1, x_t_placesRead, y5.2.1, y5.2.2.1, y5.2.2.2, x_t_board_entries, x_t_board_markBits) else none)) else ((f_Sr_acceptsEntry n p0 x_t_placeCount x_t_placesRead x_t_mayOpen x_t_open x_t_lastMark x_t_board_entries x_t_board_markBits).bind fun y3 => (if (y3.1 = 0 ∨ y3.1 = 1) then some (y3.1, y3.2.1, y3.2.2.1, x_t_open, x_t_lastMark, y3.2.2.2.1, y3.2.2.2.2) else none))) else (if p0 = (41 : Int32) then ((f_Sr_acceptsClosing x_t_placeCount x_t_placesRead x_t_mayOpen x_t_open x_t_lastMark).bind fun y10 => (if (y10.1 = 0 ∨ y10.1 = 1) then some (y10.1, x_t_placesRead, x_t_mayOpen, y10.2, x_t_lastMark, x_t_board_entries, x_t_board_markBits) else none)) else ((f_Sr_acceptsMark n (p0 - (48 : Int32)) x_t_placeCount x_t_placesRead x_t_mayOpen x_t_open x_t_lastMark x_t_board_entries x_t_board_markBits).bind fun y8 => (if (y8.1 = 0 ∨ y8.1 = 1) then some (y8.1, x_t_placesRead, x_t_mayOpen, x_t_open, y8.2.1, y8.2.2.1, y8.2.2.2) else none))))
set_option maxHeartbeats 4000000 in
set_option maxRecDepth 100000 in
theorem c_Sr_accepts (l : Launch) (G : gG) (sz : Nat) (a_t a_t_board a_t_board_entries a_t_board_markBits : Nat) (n : Nat) (p0 : Int32) (x_t_placeCount : Int32) (x_t_placesRead : Int32) (x_t_mayOpen : Int32) (x_t_open : Int32) (x_t_lastMark : Int32) (x_t_board_entries : Nat → Int32) (x_t_board_markBits : Nat → Int32) (r : Int32) (x_t_placesRead' : Int32) (x_t_mayOpen' : Int32) (x_t_open' : Int32) (x_t_lastMark' : Int32) (x_t_board_entries' : Nat → Int32) (x_t_board_markBits' : Nat → Int32) (h : f_Sr_accepts n p0 x_t_placeCount x_t_placesRead x_t_mayOpen x_t_open x_t_lastMark x_t_board_entries x_t_board_markBits = some (r, x_t_placesRead', x_t_mayOpen', x_t_open', x_t_lastMark', x_t_board_entries', x_t_board_markBits'))  : cN l y_Sr_accepts w_Sr_accepts { frames := 2, cells := 0, slots := 0, locals := 44 } G sz [.ref a_t, .int p0] (ws_Sr_accepts G a_t a_t_board a_t_board_entries a_t_board_markBits n x_t_placeCount x_t_placesRead x_t_mayOpen x_t_open x_t_lastMark x_t_board_entries x_t_board_markBits) (some (.int r)) (wB G (ws_Sr_accepts G a_t a_t_board a_t_board_entries a_t_board_markBits n x_t_placeCount x_t_placesRead' x_t_mayOpen' x_t_open' x_t_lastMark' x_t_board_entries' x_t_board_markBits')) 0 0 := by
  refine cN_ofW (cc := prog_6_method_3_code) (maxL := 2) (ret := (some .boolean)) (by decide) rfl (Nat.le_of_ble_eq_true rfl) ?_
  intro p e s m args below meth c A H locs ls hx hb hr hts hown hlocks hin hml hK hN hP hD hA hS hl
  replace hl : lv_has ls 2 [(0, .ref a_t), (1, .int p0)] := hl
  replace hown : s.vm.findClass "PlayStates$StateReader" = some m.cls := hown
  unfold f_Sr_accepts at h
  refine lv_aload_n hx hb d_Sr_accepts_0 rfl (lv_at hl 0 rfl) ?_
  refine va_get (D := G.1) (ci := 4) (v := .int x_t_open) (C := "PlayStates$StateReader") (T := TSr) (N := 6) hx hb hts iw_4 hown hK hP 0 rfl rfl 4 (by decide) (hts _ gw_94) (fun _ h9 => h9) rfl d_Sr_accepts_1 ?_
  refine lv_if_eq (tgt := 29) hx hb d_Sr_accepts_4 (by decide) (fun c1 => ?_) (fun c1 => ?_)
  · replace h := (if_pos c1).symm.trans h
    refine lv_iload_n hx hb d_Sr_accepts_29 rfl (lv_at hl 1 rfl) ?_
    refine lv_bipush (v := (40 : Int32)) hx hb d_Sr_accepts_30 (by decide) ?_
    refine lv_icmp_ne (tgt := 40) hx hb d_Sr_accepts_32 (by decide) (fun c2 => ?_) (fun c2 => ?_)
    · replace h := (if_neg c2).symm.trans h
      refine lv_aload_n hx hb d_Sr_accepts_40 rfl (lv_at hl 0 rfl) ?_
      refine lv_iload_n hx hb d_Sr_accepts_41 rfl (lv_at hl 1 rfl) ?_
      obtain ⟨y3, hy3, h⟩ := o_bind h
      have hPc := hP.sub (ws' := (ws_Sr_acceptsEntry G a_t a_t_board a_t_board_entries a_t_board_markBits n x_t_placeCount x_t_placesRead x_t_mayOpen x_t_open x_t_lastMark x_t_board_entries x_t_board_markBits)) [0, 1, 2, 3] rfl
      have hDc := hD.sub (ws' := (ws_Sr_acceptsEntry G a_t a_t_board a_t_board_entries a_t_board_markBits n x_t_placeCount x_t_placesRead x_t_mayOpen x_t_open x_t_lastMark x_t_board_entries x_t_board_markBits)) [0, 1, 2, 3] (by decide) rfl
      have hFc := va_free (wc := (ws_Sr_acceptsEntry G a_t a_t_board a_t_board_entries a_t_board_markBits n x_t_placeCount x_t_placesRead x_t_mayOpen x_t_open x_t_lastMark x_t_board_entries x_t_board_markBits)) hD hS hA [0, 1, 2, 3] rfl
      refine q_call1 (va_runV (As := [.int p0]) (rest := []) ⟨hx, hb, hml, hown, hts⟩ (c_Sr_acceptsEntry l G H.size a_t a_t_board a_t_board_entries a_t_board_markBits n p0 x_t_placeCount x_t_placesRead x_t_mayOpen x_t_open x_t_lastMark x_t_board_entries x_t_board_markBits _ _ _ _ _ hy3) (cwV 1 hts (gV gw_350 gw_351 gw_14 gw_35 gw_352) rfl rfl rfl (by decide +kernel) ⟨Nat.le_of_ble_eq_true rfl, Nat.le_of_ble_eq_true rfl⟩) (pV hK hN hPc hDc (ci := 4) (q0 := 0) rfl rfl) rfl rfl hl.1 rfl (lv_room (Nat.le_of_ble_eq_true rfl)) d_Sr_accepts_42 ⟨Nat.le_of_ble_eq_true rfl, Nat.le_of_ble_eq_true rfl⟩) hS (fun q _ h => hFc q h) hFc (fun H1 locs hB hz hk hS => ?_)
      obtain ⟨hP, hD⟩ := q_joinA hFc hB.1 hB.2
      generalize H1 = H at hP hS ⊢
      replace hP : va_P G.1 vwCl (ws_Sr_accepts G a_t a_t_board a_t_board_entries a_t_board_markBits n x_t_placeCount y3.2.1 y3.2.2.1 x_t_open x_t_lastMark y3.2.2.2.1 y3.2.2.2.2) H := hP
      replace hD : va_D A (ws_Sr_accepts G a_t a_t_board a_t_board_entries a_t_board_markBits n x_t_placeCount y3.2.1 y3.2.2.1 x_t_open x_t_lastMark y3.2.2.2.1 y3.2.2.2.2) := hD
      obtain ⟨b4, h⟩ := o_if h
      cases h
      exact q_zretW hx hb hr hlocks (bool01 b4).1 hP hD hS d_Sr_accepts_45
    · replace h := (if_pos c2).symm.trans h
      refine lv_aload_n hx hb d_Sr_accepts_35 rfl (lv_at hl 0 rfl) ?_
      obtain ⟨y5, hy5, h⟩ := o_bind h
      have hPc := hP.sub (ws' := (ws_Sr_acceptsOpening G a_t a_t_board x_t_placeCount x_t_placesRead x_t_mayOpen x_t_open x_t_lastMark)) [0] rfl
      have hDc := hD.sub (ws' := (ws_Sr_acceptsOpening G a_t a_t_board x_t_placeCount x_t_placesRead x_t_mayOpen x_t_open x_t_lastMark)) [0] (by decide) rfl
      have hFc := va_free (wc := (ws_Sr_acceptsOpening G a_t a_t_board x_t_placeCount x_t_placesRead x_t_mayOpen x_t_open x_t_lastMark)) hD hS hA [0] rfl
      refine q_call1 (va_runV (As := []) (rest := []) ⟨hx, hb, hml, hown, hts⟩ (c_Sr_acceptsOpening l G H.size a_t a_t_board x_t_placeCount x_t_placesRead x_t_mayOpen x_t_open x_t_lastMark _ _ _ _ hy5) (cwV 0 hts (gV gw_347 gw_348 gw_13 gw_35 gw_349) rfl rfl rfl (by decide +kernel) ⟨Nat.le_of_ble_eq_true rfl, Nat.le_of_ble_eq_true rfl⟩) (pV hK hN hPc hDc (ci := 4) (q0 := 0) rfl rfl) rfl rfl hl.1 rfl (lv_room (Nat.le_of_ble_eq_true rfl)) d_Sr_accepts_36 ⟨Nat.le_of_ble_eq_true rfl, Nat.le_of_ble_eq_true rfl⟩) hS (fun q _ h => hFc q h) hFc (fun H1 locs hB hz hk hS => ?_)
      obtain ⟨hP, hD⟩ := q_join (wr := [(a_t_board, .inr (0, [.ref a_t_board_entries, .ref a_t_board_markBits])), (a_t_board_entries, .inl (G.2 0, n, .inl x_t_board_entries)), (a_t_board_markBits, .inl (G.2 0, n, .inl x_t_board_markBits))]) (wn := (ws_Sr_accepts G a_t a_t_board a_t_board_entries a_t_board_markBits n x_t_placeCount x_t_placesRead y5.2.1 y5.2.2.1 y5.2.2.2 x_t_board_entries x_t_board_markBits)) hP hD [0] [1, 2, 3] [3, 0, 1, 2] rfl rfl (by decide) (by decide) rfl (by decide) hk hFc hB.1 hB.2
      generalize H1 = H at hP hS ⊢
      replace hP : va_P G.1 vwCl (ws_Sr_accepts G a_t a_t_board a_t_board_entries a_t_board_markBits n x_t_placeCount x_t_placesRead y5.2.1 y5.2.2.1 y5.2.2.2 x_t_board_entries x_t_board_markBits) H := hP
      replace hD : va_D A (ws_Sr_accepts G a_t a_t_board a_t_board_entries a_t_board_markBits n x_t_placeCount x_t_placesRead y5.2.1 y5.2.2.1 y5.2.2.2 x_t_board_entries x_t_board_markBits) := hD
      obtain ⟨b6, h⟩ := o_if h
      cases h
      exact q_zretW hx hb hr hlocks (bool01 b6).1 hP hD hS d_Sr_accepts_39
  · replace h := (if_neg c1).symm.trans h
    refine lv_iload_n hx hb d_Sr_accepts_7 rfl (lv_at hl 1 rfl) ?_
    refine lv_bipush (v := (41 : Int32)) hx hb d_Sr_accepts_8 (by decide) ?_
    refine lv_icmp_ne (tgt := 20) hx hb d_Sr_accepts_10 (by decide) (fun c7 => ?_) (fun c7 => ?_)
    · replace h := (if_neg c7).symm.trans h
      refine lv_aload_n hx hb d_Sr_accepts_20 rfl (lv_at hl 0 rfl) ?_
      refine lv_iload_n hx hb d_Sr_accepts_21 rfl (lv_at hl 1 rfl) ?_
      refine lv_bipush (v := (48 : Int32)) hx hb d_Sr_accepts_22 (by decide) ?_
      refine lv_isub hx hb d_Sr_accepts_24 ?_
      obtain ⟨y8, hy8, h⟩ := o_bind h
      have hPc := hP.sub (ws' := (ws_Sr_acceptsMark G a_t a_t_board a_t_board_entries a_t_board_markBits n x_t_placeCount x_t_placesRead x_t_mayOpen x_t_open x_t_lastMark x_t_board_entries x_t_board_markBits)) [0, 1, 2, 3] rfl
      have hDc := hD.sub (ws' := (ws_Sr_acceptsMark G a_t a_t_board a_t_board_entries a_t_board_markBits n x_t_placeCount x_t_placesRead x_t_mayOpen x_t_open x_t_lastMark x_t_board_entries x_t_board_markBits)) [0, 1, 2, 3] (by decide) rfl
      have hFc := va_free (wc := (ws_Sr_acceptsMark G a_t a_t_board a_t_board_entries a_t_board_markBits n x_t_placeCount x_t_placesRead x_t_mayOpen x_t_open x_t_lastMark x_t_board_entries x_t_board_markBits)) hD hS hA [0, 1, 2, 3] rfl
      refine q_call1 (va_runV (As := [.int (p0 - (48 : Int32))]) (rest := []) ⟨hx, hb, hml, hown, hts⟩ (c_Sr_acceptsMark l G H.size a_t a_t_board a_t_board_entries a_t_board_markBits n (p0 - (48 : Int32)) x_t_placeCount x_t_placesRead x_t_mayOpen x_t_open x_t_lastMark x_t_board_entries x_t_board_markBits _ _ _ _ hy8) (cwV 1 hts (gV gw_343 gw_344 gw_12 gw_35 gw_345) rfl rfl rfl (by decide +kernel) ⟨Nat.le_of_ble_eq_true rfl, Nat.le_of_ble_eq_true rfl⟩) (pV hK hN hPc hDc (ci := 4) (q0 := 0) rfl rfl) rfl rfl hl.1 rfl (lv_room (Nat.le_of_ble_eq_true rfl)) d_Sr_accepts_25 ⟨Nat.le_of_ble_eq_true rfl, Nat.le_of_ble_eq_true rfl⟩) hS (fun q _ h => hFc q h) hFc (fun H1 locs hB hz hk hS => ?_)
      obtain ⟨hP, hD⟩ := q_joinA hFc hB.1 hB.2
      generalize H1 = H at hP hS ⊢
      replace hP : va_P G.1 vwCl (ws_Sr_accepts G a_t a_t_board a_t_board_entries a_t_board_markBits n x_t_placeCount x_t_placesRead x_t_mayOpen x_t_open y8.2.1 y8.2.2.1 y8.2.2.2) H := hP
      replace hD : va_D A (ws_Sr_accepts G a_t a_t_board a_t_board_entries a_t_board_markBits n x_t_placeCount x_t_placesRead x_t_mayOpen x_t_open y8.2.1 y8.2.2.1 y8.2.2.2) := hD
      obtain ⟨b9, h⟩ := o_if h
      cases h
      exact q_zretW hx hb hr hlocks (bool01 b9).1 hP hD hS d_Sr_accepts_28
    · replace h := (if_pos c7).symm.trans h
      refine lv_aload_n hx hb d_Sr_accepts_13 rfl (lv_at hl 0 rfl) ?_
      obtain ⟨y10, hy10, h⟩ := o_bind h
      have hPc := hP.sub (ws' := (ws_Sr_acceptsClosing G a_t a_t_board x_t_placeCount x_t_placesRead x_t_mayOpen x_t_open x_t_lastMark)) [0] rfl
      have hDc := hD.sub (ws' := (ws_Sr_acceptsClosing G a_t a_t_board x_t_placeCount x_t_placesRead x_t_mayOpen x_t_open x_t_lastMark)) [0] (by decide) rfl
      have hFc := va_free (wc := (ws_Sr_acceptsClosing G a_t a_t_board x_t_placeCount x_t_placesRead x_t_mayOpen x_t_open x_t_lastMark)) hD hS hA [0] rfl
      refine q_call1 (va_runV (As := []) (rest := []) ⟨hx, hb, hml, hown, hts⟩ (c_Sr_acceptsClosing l G H.size a_t a_t_board x_t_placeCount x_t_placesRead x_t_mayOpen x_t_open x_t_lastMark _ _ hy10) (cwV 0 hts (gV gw_340 gw_341 gw_11 gw_35 gw_342) rfl rfl rfl (by decide +kernel) ⟨Nat.le_of_ble_eq_true rfl, Nat.le_of_ble_eq_true rfl⟩) (pV hK hN hPc hDc (ci := 4) (q0 := 0) rfl rfl) rfl rfl hl.1 rfl (lv_room (Nat.le_of_ble_eq_true rfl)) d_Sr_accepts_14 ⟨Nat.le_of_ble_eq_true rfl, Nat.le_of_ble_eq_true rfl⟩) hS (fun q _ h => hFc q h) hFc (fun H1 locs hB hz hk hS => ?_)
      obtain ⟨hP, hD⟩ := q_join (wr := [(a_t_board, .inr (0, [.ref a_t_board_entries, .ref a_t_board_markBits])), (a_t_board_entries, .inl (G.2 0, n, .inl x_t_board_entries)), (a_t_board_markBits, .inl (G.2 0, n, .inl x_t_board_markBits))]) (wn := (ws_Sr_accepts G a_t a_t_board a_t_board_entries a_t_board_markBits n x_t_placeCount x_t_placesRead x_t_mayOpen y10.2 x_t_lastMark x_t_board_entries x_t_board_markBits)) hP hD [0] [1, 2, 3] [3, 0, 1, 2] rfl rfl (by decide) (by decide) rfl (by decide) hk hFc hB.1 hB.2
      generalize H1 = H at hP hS ⊢
      replace hP : va_P G.1 vwCl (ws_Sr_accepts G a_t a_t_board a_t_board_entries a_t_board_markBits n x_t_placeCount x_t_placesRead x_t_mayOpen y10.2 x_t_lastMark x_t_board_entries x_t_board_markBits) H := hP
      replace hD : va_D A (ws_Sr_accepts G a_t a_t_board a_t_board_entries a_t_board_markBits n x_t_placeCount x_t_placesRead x_t_mayOpen y10.2 x_t_lastMark x_t_board_entries x_t_board_markBits) := hD
      refine lv_goto (tgt := 28) hx hb d_Sr_accepts_17 (by decide) ?_
      obtain ⟨b11, h⟩ := o_if h
      cases h
      exact q_zretW hx hb hr hlocks (bool01 b11).1 hP hD hS d_Sr_accepts_28
