theorem gw_244 : (.code ⟨"PlayStates", "isWrong", "(II)Z"⟩ prog_1_method_23_code 2 (some .boolean) : Cond) ∈ GW := gT 270 (by decide +kernel) (by decide +kernel)
theorem gw_242 : (.methodLink "PlayStates" 131 ⟨"PlayStates", "isWrong", "(II)Z"⟩ : Cond) ∈ GW := gT 268 (by decide +kernel) (by decide +kernel)
theorem gw_243 : (.static ⟨"PlayStates", "isWrong", "(II)Z"⟩ : Cond) ∈ GW := gT 269 (by decide +kernel) (by decide +kernel)
theorem d_PS_wrong_0 : decode prog_1_method_11_code 0 = .ok (.aload_n 0, 1) := by decide +kernel
theorem d_PS_wrong_1 : decode prog_1_method_11_code 1 = .ok (.iload_n 1, 1) := by decide +kernel
theorem d_PS_wrong_2 : decode prog_1_method_11_code 2 = .ok (.invokevirtual 75, 3) := by decide +kernel
theorem d_PS_wrong_5 : decode prog_1_method_11_code 5 = .ok (.astore_n 2, 1) := by decide +kernel
theorem d_PS_wrong_6 : decode prog_1_method_11_code 6 = .ok (.aload_n 2, 1) := by decide +kernel
theorem d_PS_wrong_7 : decode prog_1_method_11_code 7 = .ok (.ifnonnull 5, 3) := by decide +kernel
theorem d_PS_wrong_10 : decode prog_1_method_11_code 10 = .ok (.iconst (-1), 1) := by decide +kernel
theorem d_PS_wrong_11 : decode prog_1_method_11_code 11 = .ok (.ireturn, 1) := by decide +kernel
theorem d_PS_wrong_12 : decode prog_1_method_11_code 12 = .ok (.iconst 0, 1) := by decide +kernel
theorem d_PS_wrong_13 : decode prog_1_method_11_code 13 = .ok (.istore_n 3, 1) := by decide +kernel
theorem d_PS_wrong_14 : decode prog_1_method_11_code 14 = .ok (.iconst 0, 1) := by decide +kernel
theorem d_PS_wrong_15 : decode prog_1_method_11_code 15 = .ok (.istore 4, 2) := by decide +kernel
theorem d_PS_wrong_17 : decode prog_1_method_11_code 17 = .ok (.iload 4, 2) := by decide +kernel
theorem d_PS_wrong_19 : decode prog_1_method_11_code 19 = .ok (.aload_n 0, 1) := by decide +kernel
theorem d_PS_wrong_20 : decode prog_1_method_11_code 20 = .ok (.getfield 18, 3) := by decide +kernel
theorem d_PS_wrong_23 : decode prog_1_method_11_code 23 = .ok (.if_icmp .ge 35, 3) := by decide +kernel
theorem d_PS_wrong_26 : decode prog_1_method_11_code 26 = .ok (.aload_n 0, 1) := by decide +kernel
theorem d_PS_wrong_27 : decode prog_1_method_11_code 27 = .ok (.getfield 22, 3) := by decide +kernel
theorem d_PS_wrong_30 : decode prog_1_method_11_code 30 = .ok (.iload 4, 2) := by decide +kernel
theorem d_PS_wrong_32 : decode prog_1_method_11_code 32 = .ok (.iaload, 1) := by decide +kernel
theorem d_PS_wrong_33 : decode prog_1_method_11_code 33 = .ok (.aload_n 2, 1) := by decide +kernel
theorem d_PS_wrong_34 : decode prog_1_method_11_code 34 = .ok (.getfield 99, 3) := by decide +kernel
theorem d_PS_wrong_37 : decode prog_1_method_11_code 37 = .ok (.getfield 125, 3) := by decide +kernel
theorem d_PS_wrong_40 : decode prog_1_method_11_code 40 = .ok (.iload 4, 2) := by decide +kernel
theorem d_PS_wrong_42 : decode prog_1_method_11_code 42 = .ok (.iaload, 1) := by decide +kernel
theorem d_PS_wrong_43 : decode prog_1_method_11_code 43 = .ok (.invokestatic 131, 3) := by decide +kernel
theorem d_PS_wrong_46 : decode prog_1_method_11_code 46 = .ok (.ifCond .eq 6, 3) := by decide +kernel
theorem d_PS_wrong_49 : decode prog_1_method_11_code 49 = .ok (.iinc 3 1, 3) := by decide +kernel
theorem d_PS_wrong_52 : decode prog_1_method_11_code 52 = .ok (.iinc 4 1, 3) := by decide +kernel
theorem d_PS_wrong_55 : decode prog_1_method_11_code 55 = .ok (.goto (-38), 3) := by decide +kernel
theorem d_PS_wrong_58 : decode prog_1_method_11_code 58 = .ok (.iload_n 3, 1) := by decide +kernel
theorem d_PS_wrong_59 : decode prog_1_method_11_code 59 = .ok (.ireturn, 1) := by decide +kernel
-- PlayStates.wrong(I)I 
def ws_PS_wrong (G : gG) (a_t a_t_table a_t_joining a_t_units a_t_draft a_t_reader a_t_right a_t_persons a_w a_w_clock a_w_board a_w_board_markBits a_w_board_entries : Nat) (n : Nat) (x_t_placeCount : Int32) (x_t_personCount : Int32) (x_t_unitCount : Int32) (x_t_right : Nat → Int32) (x_t_persons : Nat → Option Nat) (x_w_number : Int32) (x_w_present : Int32) (x_w_helpCount : Int32) (x_w_board_entries : Nat → Int32) : va_W := [(a_t, .inr (5, [.int x_t_placeCount, .ref a_t_right, .ref a_t_persons, .int x_t_personCount, .ref a_t_table, .ref a_t_joining, .ref a_t_units, .int x_t_unitCount, .ref a_t_draft, .ref a_t_reader])), (a_t_right, .inl (G.2 0, n, .inl x_t_right)), (a_t_persons, .inl (G.2 3, 8, .inr (.inr (.inr (.inr x_t_persons))))), (a_w, .inr (2, [.int x_w_number, .ref a_w_board, .ref a_w_clock, .int x_w_present, .int x_w_helpCount])), (a_w_board, .inr (0, [.ref a_w_board_entries, .ref a_w_board_markBits])), (a_w_board_entries, .inl (G.2 0, n, .inl x_w_board_entries))]
def fb_PS_wrong_L17 (fu : Nat) (n : Nat) (x_t_placeCount : Int32) (x_t_personCount : Int32) (x_t_unitCount : Int32) (x_t_right : Nat → Int32) (x_t_persons : Nat → Option Nat) (x_w_number : Int32) (x_w_present : Int32) (x_w_helpCount : Int32) (x_w_board_entries : Nat → Int32)  (k17 : (Int32 → Int32 → Int32 → Option (Int32))) (l17_1 : Int32) (l17_3 : Int32) (l17_4 : Int32) : Option (Int32) :=
  (if x_t_placeCount ≤ l17_4 then some l17_3 else (if inB l17_4 n then (if inB l17_4 n then ((f_PS_isWrong (x_t_right l17_4.toNatClampNeg) (x_w_board_entries l17_4.toNatClampNeg)).bind fun y4 => (if y4 = 0 then (k17 l17_1 l17_3 (l17_4 + (1 : Int32))) else (k17 l17_1 (l17_3 + (1 : Int32)) (l17_4 + (1 : Int32))))) else none) else none))
def f_PS_wrong_L17 (fu : Nat) (n : Nat) (x_t_placeCount : Int32) (x_t_personCount : Int32) (x_t_unitCount : Int32) (x_t_right : Nat → Int32) (x_t_persons : Nat → Option Nat) (x_w_number : Int32) (x_w_present : Int32) (x_w_helpCount : Int32) (x_w_board_entries : Nat → Int32)  : Nat → Int32 → Int32 → Int32 → Option (Int32)
  | 0 => fun _ _ _ => none
  | k9 + 1 => fb_PS_wrong_L17 fu n x_t_placeCount x_t_personCount x_t_unitCount x_t_right x_t_persons x_w_number x_w_present x_w_helpCount x_w_board_entries (f_PS_wrong_L17 fu n x_t_placeCount x_t_personCount x_t_unitCount x_t_right x_t_persons x_w_number x_w_present x_w_helpCount x_w_board_entries k9)
def f_PS_wrong (fu : Nat) (n : Nat) (p0 : Int32) (x_t_placeCount : Int32) (x_t_personCount : Int32) (x_t_unitCount : Int32) (x_t_right : Nat → Int32) (x_t_persons : Nat → Option Nat) (x_w_number : Int32) (x_w_present : Int32) (x_w_helpCount : Int32) (x_w_board_entries : Nat → Int32) : Option (Int32) :=
  (f_PS_wrong_L17 fu n x_t_placeCount x_t_personCount x_t_unitCount x_t_right x_t_persons x_w_number x_w_present x_w_helpCount x_w_board_entries fu p0 (0 : Int32) (0 : Int32))
set_option maxHeartbeats 4000000 in
set_option maxRecDepth 100000 in
theorem c_PS_wrong (l : Launch) (G : gG) (sz : Nat) (a_t a_t_table a_t_joining a_t_units a_t_draft a_t_reader a_t_right a_t_persons a_w a_w_clock a_w_board a_w_board_markBits a_w_board_entries : Nat) (fu : Nat) (n : Nat) (p0 : Int32) (x_t_placeCount : Int32) (x_t_personCount : Int32) (x_t_unitCount : Int32) (x_t_right : Nat → Int32) (x_t_persons : Nat → Option Nat) (x_w_number : Int32) (x_w_present : Int32) (x_w_helpCount : Int32) (x_w_board_entries : Nat → Int32) (r : Int32) (h : f_PS_wrong fu n p0 x_t_placeCount x_t_personCount x_t_unitCount x_t_right x_t_persons x_w_number x_w_present x_w_helpCount x_w_board_entries = some r)  (hw : f_PS_find p0 x_t_placeCount x_t_personCount x_t_unitCount x_t_persons = some (some a_w)) : cN l y_PS_wrong w_PS_wrong { frames := 1, cells := 0, slots := 0, locals := 21 } G sz [.ref a_t, .int p0] (ws_PS_wrong G a_t a_t_table a_t_joining a_t_units a_t_draft a_t_reader a_t_right a_t_persons a_w a_w_clock a_w_board a_w_board_markBits a_w_board_entries n x_t_placeCount x_t_personCount x_t_unitCount x_t_right x_t_persons x_w_number x_w_present x_w_helpCount x_w_board_entries) (some (.int r)) (wB G (ws_PS_wrong G a_t a_t_table a_t_joining a_t_units a_t_draft a_t_reader a_t_right a_t_persons a_w a_w_clock a_w_board a_w_board_markBits a_w_board_entries n x_t_placeCount x_t_personCount x_t_unitCount x_t_right x_t_persons x_w_number x_w_present x_w_helpCount x_w_board_entries)) 0 0 := by
  refine cN_ofW (cc := prog_1_method_11_code) (maxL := 5) (ret := (some .int)) (by decide) rfl (Nat.le_of_ble_eq_true rfl) ?_
  intro p e s m args below meth c A H locs ls hx hb hr hts hown hlocks hin hml hK hN hP hD hA hS hl
  replace hl : lv_has ls 5 [(0, .ref a_t), (1, .int p0)] := hl
  replace hown : s.vm.findClass "PlayStates" = some m.cls := hown
  unfold f_PS_wrong at h
  refine lv_aload_n hx hb d_PS_wrong_0 rfl (lv_at hl 0 rfl) ?_
  refine lv_iload_n hx hb d_PS_wrong_1 rfl (lv_at hl 1 rfl) ?_
  have hPc := hP.sub (ws' := (ws_PS_find G a_t a_t_right a_t_table a_t_joining a_t_units a_t_draft a_t_reader a_t_persons x_t_placeCount x_t_personCount x_t_unitCount x_t_persons)) [0, 2] rfl
  have hDc := hD.sub (ws' := (ws_PS_find G a_t a_t_right a_t_table a_t_joining a_t_units a_t_draft a_t_reader a_t_persons x_t_placeCount x_t_personCount x_t_unitCount x_t_persons)) [0, 2] (by decide) rfl
  have hFc := va_free (wc := (ws_PS_find G a_t a_t_right a_t_table a_t_joining a_t_units a_t_draft a_t_reader a_t_persons x_t_placeCount x_t_personCount x_t_unitCount x_t_persons)) hD hS hA [0, 2] rfl
  refine q_call1 (va_runV (As := [.int p0]) (rest := []) ⟨hx, hb, hml, hown, hts⟩ (c_PS_find l G H.size a_t a_t_right a_t_table a_t_joining a_t_units a_t_draft a_t_reader a_t_persons p0 x_t_placeCount x_t_personCount x_t_unitCount x_t_persons _ hw) (cwV 1 hts (gV gw_163 gw_164 gw_2 gw_31 gw_165) rfl rfl rfl (by decide +kernel) ⟨Nat.le_of_ble_eq_true rfl, Nat.le_of_ble_eq_true rfl⟩) (pV hK hN hPc hDc (ci := 5) (q0 := 0) rfl rfl) rfl rfl hl.1 rfl (lv_room (Nat.le_of_ble_eq_true rfl)) d_PS_wrong_2 ⟨Nat.le_of_ble_eq_true rfl, Nat.le_of_ble_eq_true rfl⟩) hS (fun q _ h => hFc q h) hFc (fun H1 locs hB hz hk hS => ?_)
  obtain ⟨hP, hD⟩ := q_join (wr := [(a_t_right, .inl (G.2 0, n, .inl x_t_right)), (a_w, .inr (2, [.int x_w_number, .ref a_w_board, .ref a_w_clock, .int x_w_present, .int x_w_helpCount])), (a_w_board, .inr (0, [.ref a_w_board_entries, .ref a_w_board_markBits])), (a_w_board_entries, .inl (G.2 0, n, .inl x_w_board_entries))]) (wn := (ws_PS_wrong G a_t a_t_table a_t_joining a_t_units a_t_draft a_t_reader a_t_right a_t_persons a_w a_w_clock a_w_board a_w_board_markBits a_w_board_entries n x_t_placeCount x_t_personCount x_t_unitCount x_t_right x_t_persons x_w_number x_w_present x_w_helpCount x_w_board_entries)) hP hD [0, 2] [1, 3, 4, 5] [4, 0, 5, 1, 2, 3] rfl rfl (by decide) (by decide) rfl (by decide) hk hFc hB.1 hB.2
  generalize H1 = H at hP hS ⊢
  replace hP : va_P G.1 vwCl (ws_PS_wrong G a_t a_t_table a_t_joining a_t_units a_t_draft a_t_reader a_t_right a_t_persons a_w a_w_clock a_w_board a_w_board_markBits a_w_board_entries n x_t_placeCount x_t_personCount x_t_unitCount x_t_right x_t_persons x_w_number x_w_present x_w_helpCount x_w_board_entries) H := hP
  replace hD : va_D A (ws_PS_wrong G a_t a_t_table a_t_joining a_t_units a_t_draft a_t_reader a_t_right a_t_persons a_w a_w_clock a_w_board a_w_board_markBits a_w_board_entries n x_t_placeCount x_t_personCount x_t_unitCount x_t_right x_t_persons x_w_number x_w_present x_w_helpCount x_w_board_entries) := hD
  refine lv_astore_n (lv' := [(2, .ref a_w), (0, .ref a_t), (1, .int p0)]) hx hb d_PS_wrong_5 rfl hl (by decide) rfl (fun ls hl => ?_)
  refine lv_aload_n hx hb d_PS_wrong_6 rfl (lv_at hl 0 rfl) ?_
  refine lv_ifnonnull (tgt := 12) hx hb d_PS_wrong_7 (by decide) ?_
  refine lv_iconst (v := (0 : Int32)) hx hb d_PS_wrong_12 (by decide) ?_
  refine lv_istore_n (lv' := [(3, .int (0 : Int32)), (2, .ref a_w), (0, .ref a_t), (1, .int p0)]) hx hb d_PS_wrong_13 rfl hl (by decide) rfl (fun ls hl => ?_)
  refine lv_iconst (v := (0 : Int32)) hx hb d_PS_wrong_14 (by decide) ?_
  refine lv_istore (lv' := [(4, .int (0 : Int32)), (3, .int (0 : Int32)), (2, .ref a_w), (0, .ref a_t), (1, .int p0)]) hx hb d_PS_wrong_15 hl (by decide) rfl (fun ls hl => ?_)
  have L17 : ∀ (nf : Nat) (l17_1 : Int32) (l17_3 : Int32) (l17_4 : Int32) (H : Heap) (locs : List Loc) (ls : Array Slot), f_PS_wrong_L17 fu n x_t_placeCount x_t_personCount x_t_unitCount x_t_right x_t_persons x_w_number x_w_present x_w_helpCount x_w_board_entries nf l17_1 l17_3 l17_4 = some r → va_P G.1 vwCl (ws_PS_wrong G a_t a_t_table a_t_joining a_t_units a_t_draft a_t_reader a_t_right a_t_persons a_w a_w_clock a_w_board a_w_board_markBits a_w_board_entries n x_t_placeCount x_t_personCount x_t_unitCount x_t_right x_t_persons x_w_number x_w_present x_w_helpCount x_w_board_entries) H → va_D A (ws_PS_wrong G a_t a_t_table a_t_joining a_t_units a_t_draft a_t_reader a_t_right a_t_persons a_w a_w_clock a_w_board a_w_board_markBits a_w_board_entries n x_t_placeCount x_t_personCount x_t_unitCount x_t_right x_t_persons x_w_number x_w_present x_w_helpCount x_w_board_entries) → va_S A s.heap H locs → lv_has ls 5 [(0, .ref a_t), (1, .int l17_1), (2, .ref a_w), (3, .int l17_3), (4, .int l17_4)] → W p l e { frames := 1, cells := 0, slots := 0, locals := 21 } s m args below meth c H locs 0 0 (MQ below (qQ (some (.int r)) (wB G (ws_PS_wrong G a_t a_t_table a_t_joining a_t_units a_t_draft a_t_reader a_t_right a_t_persons a_w a_w_clock a_w_board a_w_board_markBits a_w_board_entries n x_t_placeCount x_t_personCount x_t_unitCount x_t_right x_t_persons x_w_number x_w_present x_w_helpCount x_w_board_entries) A) A) args s 0 0 A) (F0 m 17 ls []) := by
    clear h hP hD hS hl
    intro n17
    induction n17 with
    | zero => intro _ _ _ H locs ls h; exact nomatch (show none = some _ from h)
    | succ n17 ih17 =>
      intro l17_1 l17_3 l17_4 H locs ls h hP hD hS hl
      replace h : fb_PS_wrong_L17 fu n x_t_placeCount x_t_personCount x_t_unitCount x_t_right x_t_persons x_w_number x_w_present x_w_helpCount x_w_board_entries (f_PS_wrong_L17 fu n x_t_placeCount x_t_personCount x_t_unitCount x_t_right x_t_persons x_w_number x_w_present x_w_helpCount x_w_board_entries n17) l17_1 l17_3 l17_4 = some r := h
      unfold fb_PS_wrong_L17 at h
      refine lv_iload hx hb d_PS_wrong_17 (lv_at hl 4 rfl) ?_
      refine lv_aload_n hx hb d_PS_wrong_19 rfl (lv_at hl 0 rfl) ?_
      refine va_get (D := G.1) (ci := 5) (v := .int x_t_placeCount) (C := "PlayStates") (T := TPS) (N := 10) hx hb hts iw_5 hown hK hP 0 rfl rfl 0 (by decide) (hts _ gw_102) (fun _ h9 => h9) rfl d_PS_wrong_20 ?_
      refine lv_icmp_ge (tgt := 58) hx hb d_PS_wrong_23 (by decide) (fun c1 => ?_) (fun c1 => ?_)
      · replace h := (if_pos c1).symm.trans h
        refine lv_iload_n hx hb d_PS_wrong_58 rfl (lv_at hl 3 rfl) ?_
        cases h
        exact q_iretW hx hb hr hlocks hP hD hS d_PS_wrong_59
      · replace h := (if_neg c1).symm.trans h
        refine lv_aload_n hx hb d_PS_wrong_26 rfl (lv_at hl 0 rfl) ?_
        refine va_get (D := G.1) (ci := 5) (v := .ref a_t_right) (C := "PlayStates") (T := TPS) (N := 10) hx hb hts iw_5 hown hK hP 0 rfl rfl 1 (by decide) (hts _ gw_103) (fun _ h9 => h9) rfl d_PS_wrong_27 ?_
        refine lv_iload hx hb d_PS_wrong_30 (lv_at hl 4 rfl) ?_
        obtain ⟨i2, h⟩ := o_if h
        refine va_iald (n := n) (f := x_t_right) hx hb hK hP 1 0 rfl rfl i2 d_PS_wrong_32 ?_
        refine lv_aload_n hx hb d_PS_wrong_33 rfl (lv_at hl 2 rfl) ?_
        refine va_getN (D := G.1) (ci := 2) (v := .ref a_w_board) (C := "PlayStates$Person") (T := TPn) (N := 5) hx hb hts iw_2 hown hK hP 3 rfl rfl 1 (by decide) (va_Nw.use rfl (hN.1 ("PlayStates", 99, "PlayStates$Person", "board", "LPlayStates$Board;", "PlayStates") (by decide +kernel))) (fun _ h9 => h9) rfl d_PS_wrong_34 ?_
        refine va_getN (D := G.1) (ci := 0) (v := .ref a_w_board_entries) (C := "PlayStates$Board") (T := TBd) (N := 2) hx hb hts iw_0 hown hK hP 4 rfl rfl 0 (by decide) (va_Nw.use rfl (hN.1 ("PlayStates", 125, "PlayStates$Board", "entries", "[I", "PlayStates") (by decide +kernel))) (fun _ h9 => h9) rfl d_PS_wrong_37 ?_
        refine lv_iload hx hb d_PS_wrong_40 (lv_at hl 4 rfl) ?_
        obtain ⟨i3, h⟩ := o_if h
        refine va_iald (n := n) (f := x_w_board_entries) hx hb hK hP 5 0 rfl rfl i3 d_PS_wrong_42 ?_
        obtain ⟨y4, hy4, h⟩ := o_bind h
        have hPc := hP.sub (ws' := (ws_PS_isWrong G)) [] rfl
        have hDc := hD.sub (ws' := (ws_PS_isWrong G)) [] (by decide) rfl
        have hFc := va_free (wc := (ws_PS_isWrong G)) hD hS hA [] rfl
        refine q_call1 (va_runS (As := [.int (x_t_right l17_4.toNatClampNeg), .int (x_w_board_entries l17_4.toNatClampNeg)]) (rest := []) ⟨hx, hb, hml, hown, hts⟩ (c_PS_isWrong l G H.size (x_t_right l17_4.toNatClampNeg) (x_w_board_entries l17_4.toNatClampNeg) _ hy4) ⟨callB_of 2 hts (gC gw_244) rfl rfl rfl (hts _ gw_31) (hts _ gw_242) (by decide +kernel) ⟨Nat.le_of_ble_eq_true rfl, Nat.le_of_ble_eq_true rfl⟩, hts _ gw_243⟩ (pS hK hN hPc hDc) rfl rfl hl.1 rfl (lv_room (Nat.le_of_ble_eq_true rfl)) d_PS_wrong_43 ⟨Nat.le_of_ble_eq_true rfl, Nat.le_of_ble_eq_true rfl⟩) hS (fun q _ h => hFc q h) hFc (fun H1 locs hB hz hk hS => ?_)
        obtain ⟨hP, hD⟩ := q_join (wr := [(a_t, .inr (5, [.int x_t_placeCount, .ref a_t_right, .ref a_t_persons, .int x_t_personCount, .ref a_t_table, .ref a_t_joining, .ref a_t_units, .int x_t_unitCount, .ref a_t_draft, .ref a_t_reader])), (a_t_right, .inl (G.2 0, n, .inl x_t_right)), (a_t_persons, .inl (G.2 3, 8, .inr (.inr (.inr (.inr x_t_persons))))), (a_w, .inr (2, [.int x_w_number, .ref a_w_board, .ref a_w_clock, .int x_w_present, .int x_w_helpCount])), (a_w_board, .inr (0, [.ref a_w_board_entries, .ref a_w_board_markBits])), (a_w_board_entries, .inl (G.2 0, n, .inl x_w_board_entries))]) (wn := (ws_PS_wrong G a_t a_t_table a_t_joining a_t_units a_t_draft a_t_reader a_t_right a_t_persons a_w a_w_clock a_w_board a_w_board_markBits a_w_board_entries n x_t_placeCount x_t_personCount x_t_unitCount x_t_right x_t_persons x_w_number x_w_present x_w_helpCount x_w_board_entries)) hP hD [] [0, 1, 2, 3, 4, 5] [0, 1, 2, 3, 4, 5] rfl rfl (by decide) (by decide) rfl (by decide) hk hFc hB.1 hB.2
        generalize H1 = H at hP hS ⊢
        replace hP : va_P G.1 vwCl (ws_PS_wrong G a_t a_t_table a_t_joining a_t_units a_t_draft a_t_reader a_t_right a_t_persons a_w a_w_clock a_w_board a_w_board_markBits a_w_board_entries n x_t_placeCount x_t_personCount x_t_unitCount x_t_right x_t_persons x_w_number x_w_present x_w_helpCount x_w_board_entries) H := hP
        replace hD : va_D A (ws_PS_wrong G a_t a_t_table a_t_joining a_t_units a_t_draft a_t_reader a_t_right a_t_persons a_w a_w_clock a_w_board a_w_board_markBits a_w_board_entries n x_t_placeCount x_t_personCount x_t_unitCount x_t_right x_t_persons x_w_number x_w_present x_w_helpCount x_w_board_entries) := hD
        refine lv_if_eq (tgt := 52) hx hb d_PS_wrong_46 (by decide) (fun c5 => ?_) (fun c5 => ?_)
        · replace h := (if_pos c5).symm.trans h
          refine lv_iinc (v := (l17_4 + (1 : Int32))) (lv' := [(4, .int (l17_4 + (1 : Int32))), (0, .ref a_t), (1, .int l17_1), (2, .ref a_w), (3, .int l17_3)]) hx hb d_PS_wrong_52 hl (k := 4) rfl rfl (by decide) rfl (fun ls hl => ?_)
          refine lv_goto (tgt := 17) hx hb d_PS_wrong_55 (by decide) ?_
          exact ih17 l17_1 l17_3 (l17_4 + (1 : Int32)) _ _ _ h hP hD hS (lv_sub hl [1, 2, 3, 4, 0] rfl)
        · replace h := (if_neg c5).symm.trans h
          refine lv_iinc (v := (l17_3 + (1 : Int32))) (lv' := [(3, .int (l17_3 + (1 : Int32))), (0, .ref a_t), (1, .int l17_1), (2, .ref a_w), (4, .int l17_4)]) hx hb d_PS_wrong_49 hl (k := 3) rfl rfl (by decide) rfl (fun ls hl => ?_)
          refine lv_iinc (v := (l17_4 + (1 : Int32))) (lv' := [(4, .int (l17_4 + (1 : Int32))), (3, .int (l17_3 + (1 : Int32))), (0, .ref a_t), (1, .int l17_1), (2, .ref a_w)]) hx hb d_PS_wrong_52 hl (k := 4) rfl rfl (by decide) rfl (fun ls hl => ?_)
          refine lv_goto (tgt := 17) hx hb d_PS_wrong_55 (by decide) ?_
          exact ih17 l17_1 (l17_3 + (1 : Int32)) (l17_4 + (1 : Int32)) _ _ _ h hP hD hS (lv_sub hl [2, 3, 4, 1, 0] rfl)
  exact L17 fu p0 (0 : Int32) (0 : Int32) _ _ _ h hP hD hS (lv_sub hl [3, 4, 2, 1, 0] rfl)


-- PlayStates.wrong(I)I 
def ws_PS_wrong_no (G : gG) (a_t a_t_right a_t_table a_t_joining a_t_units a_t_draft a_t_reader a_t_persons : Nat)  (x_t_placeCount : Int32) (x_t_personCount : Int32) (x_t_unitCount : Int32) (x_t_persons : Nat → Option Nat) : va_W := [(a_t, .inr (5, [.int x_t_placeCount, .ref a_t_right, .ref a_t_persons, .int x_t_personCount, .ref a_t_table, .ref a_t_joining, .ref a_t_units, .int x_t_unitCount, .ref a_t_draft, .ref a_t_reader])), (a_t_persons, .inl (G.2 3, 8, .inr (.inr (.inr (.inr x_t_persons)))))]
def f_PS_wrong_no  (p0 : Int32) (x_t_placeCount : Int32) (x_t_personCount : Int32) (x_t_unitCount : Int32) (x_t_persons : Nat → Option Nat) : Option (Int32) :=
  some (-1 : Int32)
set_option maxHeartbeats 4000000 in
set_option maxRecDepth 100000 in
theorem c_PS_wrong_no (l : Launch) (G : gG) (sz : Nat) (a_t a_t_right a_t_table a_t_joining a_t_units a_t_draft a_t_reader a_t_persons : Nat)  (p0 : Int32) (x_t_placeCount : Int32) (x_t_personCount : Int32) (x_t_unitCount : Int32) (x_t_persons : Nat → Option Nat) (r : Int32) (h : f_PS_wrong_no p0 x_t_placeCount x_t_personCount x_t_unitCount x_t_persons = some r)  (hw : f_PS_find p0 x_t_placeCount x_t_personCount x_t_unitCount x_t_persons = some none) : cN l y_PS_wrong w_PS_wrong { frames := 1, cells := 0, slots := 0, locals := 21 } G sz [.ref a_t, .int p0] (ws_PS_wrong_no G a_t a_t_right a_t_table a_t_joining a_t_units a_t_draft a_t_reader a_t_persons x_t_placeCount x_t_personCount x_t_unitCount x_t_persons) (some (.int r)) (wB G (ws_PS_wrong_no G a_t a_t_right a_t_table a_t_joining a_t_units a_t_draft a_t_reader a_t_persons x_t_placeCount x_t_personCount x_t_unitCount x_t_persons)) 0 0 := by
  refine cN_ofW (cc := prog_1_method_11_code) (maxL := 5) (ret := (some .int)) (by decide) rfl (Nat.le_of_ble_eq_true rfl) ?_
  intro p e s m args below meth c A H locs ls hx hb hr hts hown hlocks hin hml hK hN hP hD hA hS hl
  replace hl : lv_has ls 5 [(0, .ref a_t), (1, .int p0)] := hl
  replace hown : s.vm.findClass "PlayStates" = some m.cls := hown
  unfold f_PS_wrong_no at h
  refine lv_aload_n hx hb d_PS_wrong_0 rfl (lv_at hl 0 rfl) ?_
  refine lv_iload_n hx hb d_PS_wrong_1 rfl (lv_at hl 1 rfl) ?_
  have hPc := hP.sub (ws' := (ws_PS_find G a_t a_t_right a_t_table a_t_joining a_t_units a_t_draft a_t_reader a_t_persons x_t_placeCount x_t_personCount x_t_unitCount x_t_persons)) [0, 1] rfl
  have hDc := hD.sub (ws' := (ws_PS_find G a_t a_t_right a_t_table a_t_joining a_t_units a_t_draft a_t_reader a_t_persons x_t_placeCount x_t_personCount x_t_unitCount x_t_persons)) [0, 1] (by decide) rfl
  have hFc := va_free (wc := (ws_PS_find G a_t a_t_right a_t_table a_t_joining a_t_units a_t_draft a_t_reader a_t_persons x_t_placeCount x_t_personCount x_t_unitCount x_t_persons)) hD hS hA [0, 1] rfl
  refine q_call1 (va_runV (As := [.int p0]) (rest := []) ⟨hx, hb, hml, hown, hts⟩ (c_PS_find l G H.size a_t a_t_right a_t_table a_t_joining a_t_units a_t_draft a_t_reader a_t_persons p0 x_t_placeCount x_t_personCount x_t_unitCount x_t_persons _ hw) (cwV 1 hts (gV gw_163 gw_164 gw_2 gw_31 gw_165) rfl rfl rfl (by decide +kernel) ⟨Nat.le_of_ble_eq_true rfl, Nat.le_of_ble_eq_true rfl⟩) (pV hK hN hPc hDc (ci := 5) (q0 := 0) rfl rfl) rfl rfl hl.1 rfl (lv_room (Nat.le_of_ble_eq_true rfl)) d_PS_wrong_2 ⟨Nat.le_of_ble_eq_true rfl, Nat.le_of_ble_eq_true rfl⟩) hS (fun q _ h => hFc q h) hFc (fun H1 locs hB hz hk hS => ?_)
  obtain ⟨hP, hD⟩ := q_joinA hFc hB.1 hB.2
  generalize H1 = H at hP hS ⊢
  replace hP : va_P G.1 vwCl (ws_PS_wrong_no G a_t a_t_right a_t_table a_t_joining a_t_units a_t_draft a_t_reader a_t_persons x_t_placeCount x_t_personCount x_t_unitCount x_t_persons) H := hP
  replace hD : va_D A (ws_PS_wrong_no G a_t a_t_right a_t_table a_t_joining a_t_units a_t_draft a_t_reader a_t_persons x_t_placeCount x_t_personCount x_t_unitCount x_t_persons) := hD
  refine lv_astore_nN (lv' := [(2, .null), (0, .ref a_t), (1, .int p0)]) hx hb d_PS_wrong_5 rfl hl (by decide) rfl (fun ls hl => ?_)
  refine lv_aload_nN hx hb d_PS_wrong_6 rfl (lv_at hl 0 rfl) ?_
  refine lv_ifnonnullN hx hb d_PS_wrong_7 ?_
  refine lv_iconst (v := (-1 : Int32)) hx hb d_PS_wrong_10 (by decide) ?_
  cases h
  exact q_iretW hx hb hr hlocks hP hD hS d_PS_wrong_11

theorem gw_302 : (.methodLink "PlayStates" 176 ⟨"PlayStates$Board", "textSize", "(I)I"⟩ : Cond) ∈ GW := gT 332 (by decide +kernel) (by decide +kernel)
theorem gw_315 : (.code ⟨"PlayStates$Board", "textByte", "(II)I"⟩ prog_2_method_8_code 3 (some .int) : Cond) ∈ GW := gT 345 (by decide +kernel) (by decide +kernel)
theorem gw_312 : (.methodLink "PlayStates" 179 ⟨"PlayStates$Board", "textByte", "(II)I"⟩ : Cond) ∈ GW := gT 342 (by decide +kernel) (by decide +kernel)
theorem gw_313 : (.instanceMethod ⟨"PlayStates$Board", "textByte", "(II)I"⟩ : Cond) ∈ GW := gT 343 (by decide +kernel) (by decide +kernel)
theorem gw_314 : (.selects "PlayStates$Board" ⟨"PlayStates$Board", "textByte", "(II)I"⟩ ⟨"PlayStates$Board", "textByte", "(II)I"⟩ : Cond) ∈ GW := gT 344 (by decide +kernel) (by decide +kernel)
theorem d_PS_save_0 : decode prog_1_method_17_code 0 = .ok (.aload_n 0, 1) := by decide +kernel
theorem d_PS_save_1 : decode prog_1_method_17_code 1 = .ok (.iload_n 1, 1) := by decide +kernel
theorem d_PS_save_2 : decode prog_1_method_17_code 2 = .ok (.invokevirtual 75, 3) := by decide +kernel
theorem d_PS_save_5 : decode prog_1_method_17_code 5 = .ok (.astore_n 3, 1) := by decide +kernel
theorem d_PS_save_6 : decode prog_1_method_17_code 6 = .ok (.aload_n 3, 1) := by decide +kernel
theorem d_PS_save_7 : decode prog_1_method_17_code 7 = .ok (.ifnull 7, 3) := by decide +kernel
theorem d_PS_save_10 : decode prog_1_method_17_code 10 = .ok (.iload_n 2, 1) := by decide +kernel
theorem d_PS_save_11 : decode prog_1_method_17_code 11 = .ok (.ifCond .ge 5, 3) := by decide +kernel
theorem d_PS_save_14 : decode prog_1_method_17_code 14 = .ok (.iconst (-1), 1) := by decide +kernel
theorem d_PS_save_15 : decode prog_1_method_17_code 15 = .ok (.ireturn, 1) := by decide +kernel
theorem d_PS_save_16 : decode prog_1_method_17_code 16 = .ok (.iload_n 2, 1) := by decide +kernel
theorem d_PS_save_17 : decode prog_1_method_17_code 17 = .ok (.istore 4, 2) := by decide +kernel
theorem d_PS_save_19 : decode prog_1_method_17_code 19 = .ok (.iconst 0, 1) := by decide +kernel
theorem d_PS_save_20 : decode prog_1_method_17_code 20 = .ok (.istore 5, 2) := by decide +kernel
theorem d_PS_save_22 : decode prog_1_method_17_code 22 = .ok (.iload 5, 2) := by decide +kernel
theorem d_PS_save_24 : decode prog_1_method_17_code 24 = .ok (.aload_n 0, 1) := by decide +kernel
theorem d_PS_save_25 : decode prog_1_method_17_code 25 = .ok (.getfield 18, 3) := by decide +kernel
theorem d_PS_save_28 : decode prog_1_method_17_code 28 = .ok (.if_icmp .ge 46, 3) := by decide +kernel
theorem d_PS_save_31 : decode prog_1_method_17_code 31 = .ok (.aload_n 3, 1) := by decide +kernel
theorem d_PS_save_32 : decode prog_1_method_17_code 32 = .ok (.getfield 99, 3) := by decide +kernel
theorem d_PS_save_35 : decode prog_1_method_17_code 35 = .ok (.iload 5, 2) := by decide +kernel
theorem d_PS_save_37 : decode prog_1_method_17_code 37 = .ok (.invokevirtual 176, 3) := by decide +kernel
theorem d_PS_save_40 : decode prog_1_method_17_code 40 = .ok (.istore 6, 2) := by decide +kernel
theorem d_PS_save_42 : decode prog_1_method_17_code 42 = .ok (.iload 4, 2) := by decide +kernel
theorem d_PS_save_44 : decode prog_1_method_17_code 44 = .ok (.iload 6, 2) := by decide +kernel
theorem d_PS_save_46 : decode prog_1_method_17_code 46 = .ok (.if_icmp .ge 15, 3) := by decide +kernel
theorem d_PS_save_49 : decode prog_1_method_17_code 49 = .ok (.aload_n 3, 1) := by decide +kernel
theorem d_PS_save_50 : decode prog_1_method_17_code 50 = .ok (.getfield 99, 3) := by decide +kernel
theorem d_PS_save_53 : decode prog_1_method_17_code 53 = .ok (.iload 5, 2) := by decide +kernel
theorem d_PS_save_55 : decode prog_1_method_17_code 55 = .ok (.iload 4, 2) := by decide +kernel
theorem d_PS_save_57 : decode prog_1_method_17_code 57 = .ok (.invokevirtual 179, 3) := by decide +kernel
theorem d_PS_save_60 : decode prog_1_method_17_code 60 = .ok (.ireturn, 1) := by decide +kernel
theorem d_PS_save_61 : decode prog_1_method_17_code 61 = .ok (.iload 4, 2) := by decide +kernel
theorem d_PS_save_63 : decode prog_1_method_17_code 63 = .ok (.iload 6, 2) := by decide +kernel
theorem d_PS_save_65 : decode prog_1_method_17_code 65 = .ok (.isub, 1) := by decide +kernel
theorem d_PS_save_66 : decode prog_1_method_17_code 66 = .ok (.istore 4, 2) := by decide +kernel
theorem d_PS_save_68 : decode prog_1_method_17_code 68 = .ok (.iinc 5 1, 3) := by decide +kernel
theorem d_PS_save_71 : decode prog_1_method_17_code 71 = .ok (.goto (-49), 3) := by decide +kernel
theorem d_PS_save_74 : decode prog_1_method_17_code 74 = .ok (.iconst (-1), 1) := by decide +kernel
theorem d_PS_save_75 : decode prog_1_method_17_code 75 = .ok (.ireturn, 1) := by decide +kernel
-- PlayStates.save(II)I 
def ws_PS_save (G : gG) (a_t a_t_right a_t_table a_t_joining a_t_units a_t_draft a_t_reader a_t_persons a_w a_w_clock a_w_board a_w_board_entries a_w_board_markBits : Nat) (n : Nat) (x_t_placeCount : Int32) (x_t_personCount : Int32) (x_t_unitCount : Int32) (x_t_persons : Nat → Option Nat) (x_w_number : Int32) (x_w_present : Int32) (x_w_helpCount : Int32) (x_w_board_entries : Nat → Int32) (x_w_board_markBits : Nat → Int32) : va_W := [(a_t, .inr (5, [.int x_t_placeCount, .ref a_t_right, .ref a_t_persons, .int x_t_personCount, .ref a_t_table, .ref a_t_joining, .ref a_t_units, .int x_t_unitCount, .ref a_t_draft, .ref a_t_reader])), (a_t_persons, .inl (G.2 3, 8, .inr (.inr (.inr (.inr x_t_persons))))), (a_w, .inr (2, [.int x_w_number, .ref a_w_board, .ref a_w_clock, .int x_w_present, .int x_w_helpCount])), (a_w_board, .inr (0, [.ref a_w_board_entries, .ref a_w_board_markBits])), (a_w_board_entries, .inl (G.2 0, n, .inl x_w_board_entries)), (a_w_board_markBits, .inl (G.2 0, n, .inl x_w_board_markBits))]
def fb_PS_save_L22 (fu : Nat) (n : Nat) (x_t_placeCount : Int32) (x_t_personCount : Int32) (x_t_unitCount : Int32) (x_t_persons : Nat → Option Nat) (x_w_number : Int32) (x_w_present : Int32) (x_w_helpCount : Int32) (x_w_board_entries : Nat → Int32) (x_w_board_markBits : Nat → Int32)  (k22 : (Int32 → Int32 → Int32 → Int32 → Option (Int32))) (l22_1 : Int32) (l22_2 : Int32) (l22_4 : Int32) (l22_5 : Int32) : Option (Int32) :=
  (if x_t_placeCount ≤ l22_5 then some (-1 : Int32) else ((f_Bd_textSize n l22_5 x_w_board_markBits).bind fun y3 => (if y3 ≤ l22_4 then (k22 l22_1 l22_2 (l22_4 - y3) (l22_5 + (1 : Int32))) else ((f_Bd_textByte fu n l22_5 l22_4 x_w_board_entries x_w_board_markBits).bind fun y5 => some y5))))
def f_PS_save_L22 (fu : Nat) (n : Nat) (x_t_placeCount : Int32) (x_t_personCount : Int32) (x_t_unitCount : Int32) (x_t_persons : Nat → Option Nat) (x_w_number : Int32) (x_w_present : Int32) (x_w_helpCount : Int32) (x_w_board_entries : Nat → Int32) (x_w_board_markBits : Nat → Int32)  : Nat → Int32 → Int32 → Int32 → Int32 → Option (Int32)
  | 0 => fun _ _ _ _ => none
  | k9 + 1 => fb_PS_save_L22 fu n x_t_placeCount x_t_personCount x_t_unitCount x_t_persons x_w_number x_w_present x_w_helpCount x_w_board_entries x_w_board_markBits (f_PS_save_L22 fu n x_t_placeCount x_t_personCount x_t_unitCount x_t_persons x_w_number x_w_present x_w_helpCount x_w_board_entries x_w_board_markBits k9)
def f_PS_save (fu : Nat) (n : Nat) (p0 : Int32) (p1 : Int32) (x_t_placeCount : Int32) (x_t_personCount : Int32) (x_t_unitCount : Int32) (x_t_persons : Nat → Option Nat) (x_w_number : Int32) (x_w_present : Int32) (x_w_helpCount : Int32) (x_w_board_entries : Nat → Int32) (x_w_board_markBits : Nat → Int32) : Option (Int32) :=
  (if 0 ≤ p1 then (f_PS_save_L22 fu n x_t_placeCount x_t_personCount x_t_unitCount x_t_persons x_w_number x_w_present x_w_helpCount x_w_board_entries x_w_board_markBits fu p0 p1 p1 (0 : Int32)) else some (-1 : Int32))
set_option maxHeartbeats 4000000 in
set_option maxRecDepth 100000 in
theorem c_PS_save (l : Launch) (G : gG) (sz : Nat) (a_t a_t_right a_t_table a_t_joining a_t_units a_t_draft a_t_reader a_t_persons a_w a_w_clock a_w_board a_w_board_entries a_w_board_markBits : Nat) (fu : Nat) (n : Nat) (p0 : Int32) (p1 : Int32) (x_t_placeCount : Int32) (x_t_personCount : Int32) (x_t_unitCount : Int32) (x_t_persons : Nat → Option Nat) (x_w_number : Int32) (x_w_present : Int32) (x_w_helpCount : Int32) (x_w_board_entries : Nat → Int32) (x_w_board_markBits : Nat → Int32) (r : Int32) (h : f_PS_save fu n p0 p1 x_t_placeCount x_t_personCount x_t_unitCount x_t_persons x_w_number x_w_present x_w_helpCount x_w_board_entries x_w_board_markBits = some r)  (hw : f_PS_find p0 x_t_placeCount x_t_personCount x_t_unitCount x_t_persons = some (some a_w)) : cN l y_PS_save w_PS_save { frames := 3, cells := 0, slots := 0, locals := 68 } G sz [.ref a_t, .int p0, .int p1] (ws_PS_save G a_t a_t_right a_t_table a_t_joining a_t_units a_t_draft a_t_reader a_t_persons a_w a_w_clock a_w_board a_w_board_entries a_w_board_markBits n x_t_placeCount x_t_personCount x_t_unitCount x_t_persons x_w_number x_w_present x_w_helpCount x_w_board_entries x_w_board_markBits) (some (.int r)) (wB G (ws_PS_save G a_t a_t_right a_t_table a_t_joining a_t_units a_t_draft a_t_reader a_t_persons a_w a_w_clock a_w_board a_w_board_entries a_w_board_markBits n x_t_placeCount x_t_personCount x_t_unitCount x_t_persons x_w_number x_w_present x_w_helpCount x_w_board_entries x_w_board_markBits)) 0 0 := by
  refine cN_ofW (cc := prog_1_method_17_code) (maxL := 7) (ret := (some .int)) (by decide) rfl (Nat.le_of_ble_eq_true rfl) ?_
  intro p e s m args below meth c A H locs ls hx hb hr hts hown hlocks hin hml hK hN hP hD hA hS hl
  replace hl : lv_has ls 7 [(0, .ref a_t), (1, .int p0), (2, .int p1)] := hl
  replace hown : s.vm.findClass "PlayStates" = some m.cls := hown
  unfold f_PS_save at h
  refine lv_aload_n hx hb d_PS_save_0 rfl (lv_at hl 0 rfl) ?_
  refine lv_iload_n hx hb d_PS_save_1 rfl (lv_at hl 1 rfl) ?_
  have hPc := hP.sub (ws' := (ws_PS_find G a_t a_t_right a_t_table a_t_joining a_t_units a_t_draft a_t_reader a_t_persons x_t_placeCount x_t_personCount x_t_unitCount x_t_persons)) [0, 1] rfl
  have hDc := hD.sub (ws' := (ws_PS_find G a_t a_t_right a_t_table a_t_joining a_t_units a_t_draft a_t_reader a_t_persons x_t_placeCount x_t_personCount x_t_unitCount x_t_persons)) [0, 1] (by decide) rfl
  have hFc := va_free (wc := (ws_PS_find G a_t a_t_right a_t_table a_t_joining a_t_units a_t_draft a_t_reader a_t_persons x_t_placeCount x_t_personCount x_t_unitCount x_t_persons)) hD hS hA [0, 1] rfl
  refine q_call1 (va_runV (As := [.int p0]) (rest := []) ⟨hx, hb, hml, hown, hts⟩ (c_PS_find l G H.size a_t a_t_right a_t_table a_t_joining a_t_units a_t_draft a_t_reader a_t_persons p0 x_t_placeCount x_t_personCount x_t_unitCount x_t_persons _ hw) (cwV 1 hts (gV gw_163 gw_164 gw_2 gw_31 gw_165) rfl rfl rfl (by decide +kernel) ⟨Nat.le_of_ble_eq_true rfl, Nat.le_of_ble_eq_true rfl⟩) (pV hK hN hPc hDc (ci := 5) (q0 := 0) rfl rfl) rfl rfl hl.1 rfl (lv_room (Nat.le_of_ble_eq_true rfl)) d_PS_save_2 ⟨Nat.le_of_ble_eq_true rfl, Nat.le_of_ble_eq_true rfl⟩) hS (fun q _ h => hFc q h) hFc (fun H1 locs hB hz hk hS => ?_)
  obtain ⟨hP, hD⟩ := q_join (wr := [(a_w, .inr (2, [.int x_w_number, .ref a_w_board, .ref a_w_clock, .int x_w_present, .int x_w_helpCount])), (a_w_board, .inr (0, [.ref a_w_board_entries, .ref a_w_board_markBits])), (a_w_board_entries, .inl (G.2 0, n, .inl x_w_board_entries)), (a_w_board_markBits, .inl (G.2 0, n, .inl x_w_board_markBits))]) (wn := (ws_PS_save G a_t a_t_right a_t_table a_t_joining a_t_units a_t_draft a_t_reader a_t_persons a_w a_w_clock a_w_board a_w_board_entries a_w_board_markBits n x_t_placeCount x_t_personCount x_t_unitCount x_t_persons x_w_number x_w_present x_w_helpCount x_w_board_entries x_w_board_markBits)) hP hD [0, 1] [2, 3, 4, 5] [4, 5, 0, 1, 2, 3] rfl rfl (by decide) (by decide) rfl (by decide) hk hFc hB.1 hB.2
  generalize H1 = H at hP hS ⊢
  replace hP : va_P G.1 vwCl (ws_PS_save G a_t a_t_right a_t_table a_t_joining a_t_units a_t_draft a_t_reader a_t_persons a_w a_w_clock a_w_board a_w_board_entries a_w_board_markBits n x_t_placeCount x_t_personCount x_t_unitCount x_t_persons x_w_number x_w_present x_w_helpCount x_w_board_entries x_w_board_markBits) H := hP
  replace hD : va_D A (ws_PS_save G a_t a_t_right a_t_table a_t_joining a_t_units a_t_draft a_t_reader a_t_persons a_w a_w_clock a_w_board a_w_board_entries a_w_board_markBits n x_t_placeCount x_t_personCount x_t_unitCount x_t_persons x_w_number x_w_present x_w_helpCount x_w_board_entries x_w_board_markBits) := hD
  refine lv_astore_n (lv' := [(3, .ref a_w), (0, .ref a_t), (1, .int p0), (2, .int p1)]) hx hb d_PS_save_5 rfl hl (by decide) rfl (fun ls hl => ?_)
  refine lv_aload_n hx hb d_PS_save_6 rfl (lv_at hl 0 rfl) ?_
  refine lv_ifnull hx hb d_PS_save_7 ?_
  refine lv_iload_n hx hb d_PS_save_10 rfl (lv_at hl 3 rfl) ?_
  refine lv_if_ge (tgt := 16) hx hb d_PS_save_11 (by decide) (fun c1 => ?_) (fun c1 => ?_)
  · replace h := (if_pos c1).symm.trans h
    refine lv_iload_n hx hb d_PS_save_16 rfl (lv_at hl 3 rfl) ?_
    refine lv_istore (lv' := [(4, .int p1), (3, .ref a_w), (0, .ref a_t), (1, .int p0), (2, .int p1)]) hx hb d_PS_save_17 hl (by decide) rfl (fun ls hl => ?_)
    refine lv_iconst (v := (0 : Int32)) hx hb d_PS_save_19 (by decide) ?_
    refine lv_istore (lv' := [(5, .int (0 : Int32)), (4, .int p1), (3, .ref a_w), (0, .ref a_t), (1, .int p0), (2, .int p1)]) hx hb d_PS_save_20 hl (by decide) rfl (fun ls hl => ?_)
    have L22 : ∀ (nf : Nat) (l22_1 : Int32) (l22_2 : Int32) (l22_4 : Int32) (l22_5 : Int32) (H : Heap) (locs : List Loc) (ls : Array Slot), f_PS_save_L22 fu n x_t_placeCount x_t_personCount x_t_unitCount x_t_persons x_w_number x_w_present x_w_helpCount x_w_board_entries x_w_board_markBits nf l22_1 l22_2 l22_4 l22_5 = some r → va_P G.1 vwCl (ws_PS_save G a_t a_t_right a_t_table a_t_joining a_t_units a_t_draft a_t_reader a_t_persons a_w a_w_clock a_w_board a_w_board_entries a_w_board_markBits n x_t_placeCount x_t_personCount x_t_unitCount x_t_persons x_w_number x_w_present x_w_helpCount x_w_board_entries x_w_board_markBits) H → va_D A (ws_PS_save G a_t a_t_right a_t_table a_t_joining a_t_units a_t_draft a_t_reader a_t_persons a_w a_w_clock a_w_board a_w_board_entries a_w_board_markBits n x_t_placeCount x_t_personCount x_t_unitCount x_t_persons x_w_number x_w_present x_w_helpCount x_w_board_entries x_w_board_markBits) → va_S A s.heap H locs → lv_has ls 7 [(0, .ref a_t), (1, .int l22_1), (2, .int l22_2), (3, .ref a_w), (4, .int l22_4), (5, .int l22_5)] → W p l e { frames := 3, cells := 0, slots := 0, locals := 68 } s m args below meth c H locs 0 0 (MQ below (qQ (some (.int r)) (wB G (ws_PS_save G a_t a_t_right a_t_table a_t_joining a_t_units a_t_draft a_t_reader a_t_persons a_w a_w_clock a_w_board a_w_board_entries a_w_board_markBits n x_t_placeCount x_t_personCount x_t_unitCount x_t_persons x_w_number x_w_present x_w_helpCount x_w_board_entries x_w_board_markBits) A) A) args s 0 0 A) (F0 m 22 ls []) := by
      clear h hP hD hS hl
      intro n22
      induction n22 with
      | zero => intro _ _ _ _ H locs ls h; exact nomatch (show none = some _ from h)
      | succ n22 ih22 =>
        intro l22_1 l22_2 l22_4 l22_5 H locs ls h hP hD hS hl
        replace h : fb_PS_save_L22 fu n x_t_placeCount x_t_personCount x_t_unitCount x_t_persons x_w_number x_w_present x_w_helpCount x_w_board_entries x_w_board_markBits (f_PS_save_L22 fu n x_t_placeCount x_t_personCount x_t_unitCount x_t_persons x_w_number x_w_present x_w_helpCount x_w_board_entries x_w_board_markBits n22) l22_1 l22_2 l22_4 l22_5 = some r := h
        unfold fb_PS_save_L22 at h
        refine lv_iload hx hb d_PS_save_22 (lv_at hl 5 rfl) ?_
        refine lv_aload_n hx hb d_PS_save_24 rfl (lv_at hl 0 rfl) ?_
        refine va_get (D := G.1) (ci := 5) (v := .int x_t_placeCount) (C := "PlayStates") (T := TPS) (N := 10) hx hb hts iw_5 hown hK hP 0 rfl rfl 0 (by decide) (hts _ gw_102) (fun _ h9 => h9) rfl d_PS_save_25 ?_
        refine lv_icmp_ge (tgt := 74) hx hb d_PS_save_28 (by decide) (fun c2 => ?_) (fun c2 => ?_)
        · replace h := (if_pos c2).symm.trans h
          refine lv_iconst (v := (-1 : Int32)) hx hb d_PS_save_74 (by decide) ?_
          cases h
          exact q_iretW hx hb hr hlocks hP hD hS d_PS_save_75
        · replace h := (if_neg c2).symm.trans h
          refine lv_aload_n hx hb d_PS_save_31 rfl (lv_at hl 3 rfl) ?_
          refine va_getN (D := G.1) (ci := 2) (v := .ref a_w_board) (C := "PlayStates$Person") (T := TPn) (N := 5) hx hb hts iw_2 hown hK hP 2 rfl rfl 1 (by decide) (va_Nw.use rfl (hN.1 ("PlayStates", 99, "PlayStates$Person", "board", "LPlayStates$Board;", "PlayStates") (by decide +kernel))) (fun _ h9 => h9) rfl d_PS_save_32 ?_
          refine lv_iload hx hb d_PS_save_35 (lv_at hl 5 rfl) ?_
          obtain ⟨y3, hy3, h⟩ := o_bind h
          have hPc := hP.sub (ws' := (ws_Bd_textSize G a_w_board a_w_board_entries a_w_board_markBits n x_w_board_markBits)) [3, 5] rfl
          have hDc := hD.sub (ws' := (ws_Bd_textSize G a_w_board a_w_board_entries a_w_board_markBits n x_w_board_markBits)) [3, 5] (by decide) rfl
          have hFc := va_free (wc := (ws_Bd_textSize G a_w_board a_w_board_entries a_w_board_markBits n x_w_board_markBits)) hD hS hA [3, 5] rfl
          refine q_call1 (va_runV (As := [.int l22_5]) (rest := []) ⟨hx, hb, hml, hown, hts⟩ (c_Bd_textSize l G H.size a_w_board a_w_board_entries a_w_board_markBits n l22_5 x_w_board_markBits _ hy3) (cwV 1 hts (gV gw_302 gw_303 gw_304 gw_34 gw_305) rfl rfl rfl (by decide +kernel) ⟨Nat.le_of_ble_eq_true rfl, Nat.le_of_ble_eq_true rfl⟩) (pV hK hN hPc hDc (ci := 0) (q0 := 0) rfl rfl) rfl rfl hl.1 rfl (lv_room (Nat.le_of_ble_eq_true rfl)) d_PS_save_37 ⟨Nat.le_of_ble_eq_true rfl, Nat.le_of_ble_eq_true rfl⟩) hS (fun q _ h => hFc q h) hFc (fun H1 locs hB hz hk hS => ?_)
          obtain ⟨hP, hD⟩ := q_join (wr := [(a_t, .inr (5, [.int x_t_placeCount, .ref a_t_right, .ref a_t_persons, .int x_t_personCount, .ref a_t_table, .ref a_t_joining, .ref a_t_units, .int x_t_unitCount, .ref a_t_draft, .ref a_t_reader])), (a_t_persons, .inl (G.2 3, 8, .inr (.inr (.inr (.inr x_t_persons))))), (a_w, .inr (2, [.int x_w_number, .ref a_w_board, .ref a_w_clock, .int x_w_present, .int x_w_helpCount])), (a_w_board_entries, .inl (G.2 0, n, .inl x_w_board_entries))]) (wn := (ws_PS_save G a_t a_t_right a_t_table a_t_joining a_t_units a_t_draft a_t_reader a_t_persons a_w a_w_clock a_w_board a_w_board_entries a_w_board_markBits n x_t_placeCount x_t_personCount x_t_unitCount x_t_persons x_w_number x_w_present x_w_helpCount x_w_board_entries x_w_board_markBits)) hP hD [3, 5] [0, 1, 2, 4] [0, 1, 2, 4, 3, 5] rfl rfl (by decide) (by decide) rfl (by decide) hk hFc hB.1 hB.2
          generalize H1 = H at hP hS ⊢
          replace hP : va_P G.1 vwCl (ws_PS_save G a_t a_t_right a_t_table a_t_joining a_t_units a_t_draft a_t_reader a_t_persons a_w a_w_clock a_w_board a_w_board_entries a_w_board_markBits n x_t_placeCount x_t_personCount x_t_unitCount x_t_persons x_w_number x_w_present x_w_helpCount x_w_board_entries x_w_board_markBits) H := hP
          replace hD : va_D A (ws_PS_save G a_t a_t_right a_t_table a_t_joining a_t_units a_t_draft a_t_reader a_t_persons a_w a_w_clock a_w_board a_w_board_entries a_w_board_markBits n x_t_placeCount x_t_personCount x_t_unitCount x_t_persons x_w_number x_w_present x_w_helpCount x_w_board_entries x_w_board_markBits) := hD
          refine lv_istore (lv' := [(6, .int y3), (0, .ref a_t), (1, .int l22_1), (2, .int l22_2), (3, .ref a_w), (4, .int l22_4), (5, .int l22_5)]) hx hb d_PS_save_40 hl (by decide) rfl (fun ls hl => ?_)
          refine lv_iload hx hb d_PS_save_42 (lv_at hl 5 rfl) ?_
          refine lv_iload hx hb d_PS_save_44 (lv_at hl 0 rfl) ?_
          refine lv_icmp_ge (tgt := 61) hx hb d_PS_save_46 (by decide) (fun c4 => ?_) (fun c4 => ?_)
          · replace h := (if_pos c4).symm.trans h
            refine lv_iload hx hb d_PS_save_61 (lv_at hl 5 rfl) ?_
            refine lv_iload hx hb d_PS_save_63 (lv_at hl 0 rfl) ?_
            refine lv_isub hx hb d_PS_save_65 ?_
            refine lv_istore (lv' := [(4, .int (l22_4 - y3)), (6, .int y3), (0, .ref a_t), (1, .int l22_1), (2, .int l22_2), (3, .ref a_w), (5, .int l22_5)]) hx hb d_PS_save_66 hl (by decide) rfl (fun ls hl => ?_)
            refine lv_iinc (v := (l22_5 + (1 : Int32))) (lv' := [(5, .int (l22_5 + (1 : Int32))), (4, .int (l22_4 - y3)), (6, .int y3), (0, .ref a_t), (1, .int l22_1), (2, .int l22_2), (3, .ref a_w)]) hx hb d_PS_save_68 hl (k := 6) rfl rfl (by decide) rfl (fun ls hl => ?_)
            refine lv_goto (tgt := 22) hx hb d_PS_save_71 (by decide) ?_
            exact ih22 l22_1 l22_2 (l22_4 - y3) (l22_5 + (1 : Int32)) _ _ _ h hP hD hS (lv_sub hl [3, 4, 5, 6, 1, 0] rfl)
          · replace h := (if_neg c4).symm.trans h
            refine lv_aload_n hx hb d_PS_save_49 rfl (lv_at hl 4 rfl) ?_
            refine va_getN (D := G.1) (ci := 2) (v := .ref a_w_board) (C := "PlayStates$Person") (T := TPn) (N := 5) hx hb hts iw_2 hown hK hP 2 rfl rfl 1 (by decide) (va_Nw.use rfl (hN.1 ("PlayStates", 99, "PlayStates$Person", "board", "LPlayStates$Board;", "PlayStates") (by decide +kernel))) (fun _ h9 => h9) rfl d_PS_save_50 ?_
            refine lv_iload hx hb d_PS_save_53 (lv_at hl 6 rfl) ?_
            refine lv_iload hx hb d_PS_save_55 (lv_at hl 5 rfl) ?_
            obtain ⟨y5, hy5, h⟩ := o_bind h
            have hPc := hP.sub (ws' := (ws_Bd_textByte G a_w_board a_w_board_entries a_w_board_markBits n x_w_board_entries x_w_board_markBits)) [3, 4, 5] rfl
            have hDc := hD.sub (ws' := (ws_Bd_textByte G a_w_board a_w_board_entries a_w_board_markBits n x_w_board_entries x_w_board_markBits)) [3, 4, 5] (by decide) rfl
            have hFc := va_free (wc := (ws_Bd_textByte G a_w_board a_w_board_entries a_w_board_markBits n x_w_board_entries x_w_board_markBits)) hD hS hA [3, 4, 5] rfl
            refine q_call1 (va_runV (As := [.int l22_5, .int l22_4]) (rest := []) ⟨hx, hb, hml, hown, hts⟩ (c_Bd_textByte l G H.size a_w_board a_w_board_entries a_w_board_markBits fu n l22_5 l22_4 x_w_board_entries x_w_board_markBits _ hy5) (cwV 2 hts (gV gw_312 gw_313 gw_314 gw_34 gw_315) rfl rfl rfl (by decide +kernel) ⟨Nat.le_of_ble_eq_true rfl, Nat.le_of_ble_eq_true rfl⟩) (pV hK hN hPc hDc (ci := 0) (q0 := 0) rfl rfl) rfl rfl hl.1 rfl (lv_room (Nat.le_of_ble_eq_true rfl)) d_PS_save_57 ⟨Nat.le_of_ble_eq_true rfl, Nat.le_of_ble_eq_true rfl⟩) hS (fun q _ h => hFc q h) hFc (fun H1 locs hB hz hk hS => ?_)
            obtain ⟨hP, hD⟩ := q_join (wr := [(a_t, .inr (5, [.int x_t_placeCount, .ref a_t_right, .ref a_t_persons, .int x_t_personCount, .ref a_t_table, .ref a_t_joining, .ref a_t_units, .int x_t_unitCount, .ref a_t_draft, .ref a_t_reader])), (a_t_persons, .inl (G.2 3, 8, .inr (.inr (.inr (.inr x_t_persons))))), (a_w, .inr (2, [.int x_w_number, .ref a_w_board, .ref a_w_clock, .int x_w_present, .int x_w_helpCount]))]) (wn := (ws_PS_save G a_t a_t_right a_t_table a_t_joining a_t_units a_t_draft a_t_reader a_t_persons a_w a_w_clock a_w_board a_w_board_entries a_w_board_markBits n x_t_placeCount x_t_personCount x_t_unitCount x_t_persons x_w_number x_w_present x_w_helpCount x_w_board_entries x_w_board_markBits)) hP hD [3, 4, 5] [0, 1, 2] [0, 1, 2, 3, 4, 5] rfl rfl (by decide) (by decide) rfl (by decide) hk hFc hB.1 hB.2
            generalize H1 = H at hP hS ⊢
            replace hP : va_P G.1 vwCl (ws_PS_save G a_t a_t_right a_t_table a_t_joining a_t_units a_t_draft a_t_reader a_t_persons a_w a_w_clock a_w_board a_w_board_entries a_w_board_markBits n x_t_placeCount x_t_personCount x_t_unitCount x_t_persons x_w_number x_w_present x_w_helpCount x_w_board_entries x_w_board_markBits) H := hP
            replace hD : va_D A (ws_PS_save G a_t a_t_right a_t_table a_t_joining a_t_units a_t_draft a_t_reader a_t_persons a_w a_w_clock a_w_board a_w_board_entries a_w_board_markBits n x_t_placeCount x_t_personCount x_t_unitCount x_t_persons x_w_number x_w_present x_w_helpCount x_w_board_entries x_w_board_markBits) := hD
            cases h
            exact q_iretW hx hb hr hlocks hP hD hS d_PS_save_60
    exact L22 fu p0 p1 p1 (0 : Int32) _ _ _ h hP hD hS (lv_sub hl [3, 4, 5, 2, 1, 0] rfl)
  · replace h := (if_neg c1).symm.trans h
    refine lv_iconst (v := (-1 : Int32)) hx hb d_PS_save_14 (by decide) ?_
    cases h
    exact q_iretW hx hb hr hlocks hP hD hS d_PS_save_15


-- PlayStates.save(II)I 
def ws_PS_save_no (G : gG) (a_t a_t_right a_t_table a_t_joining a_t_units a_t_draft a_t_reader a_t_persons : Nat)  (x_t_placeCount : Int32) (x_t_personCount : Int32) (x_t_unitCount : Int32) (x_t_persons : Nat → Option Nat) : va_W := [(a_t, .inr (5, [.int x_t_placeCount, .ref a_t_right, .ref a_t_persons, .int x_t_personCount, .ref a_t_table, .ref a_t_joining, .ref a_t_units, .int x_t_unitCount, .ref a_t_draft, .ref a_t_reader])), (a_t_persons, .inl (G.2 3, 8, .inr (.inr (.inr (.inr x_t_persons)))))]
def f_PS_save_no  (p0 : Int32) (p1 : Int32) (x_t_placeCount : Int32) (x_t_personCount : Int32) (x_t_unitCount : Int32) (x_t_persons : Nat → Option Nat) : Option (Int32) :=
  some (-1 : Int32)
set_option maxHeartbeats 4000000 in
set_option maxRecDepth 100000 in
theorem c_PS_save_no (l : Launch) (G : gG) (sz : Nat) (a_t a_t_right a_t_table a_t_joining a_t_units a_t_draft a_t_reader a_t_persons : Nat)  (p0 : Int32) (p1 : Int32) (x_t_placeCount : Int32) (x_t_personCount : Int32) (x_t_unitCount : Int32) (x_t_persons : Nat → Option Nat) (r : Int32) (h : f_PS_save_no p0 p1 x_t_placeCount x_t_personCount x_t_unitCount x_t_persons = some r)  (hw : f_PS_find p0 x_t_placeCount x_t_personCount x_t_unitCount x_t_persons = some none) : cN l y_PS_save w_PS_save { frames := 1, cells := 0, slots := 0, locals := 21 } G sz [.ref a_t, .int p0, .int p1] (ws_PS_save_no G a_t a_t_right a_t_table a_t_joining a_t_units a_t_draft a_t_reader a_t_persons x_t_placeCount x_t_personCount x_t_unitCount x_t_persons) (some (.int r)) (wB G (ws_PS_save_no G a_t a_t_right a_t_table a_t_joining a_t_units a_t_draft a_t_reader a_t_persons x_t_placeCount x_t_personCount x_t_unitCount x_t_persons)) 0 0 := by
  refine cN_ofW (cc := prog_1_method_17_code) (maxL := 7) (ret := (some .int)) (by decide) rfl (Nat.le_of_ble_eq_true rfl) ?_
  intro p e s m args below meth c A H locs ls hx hb hr hts hown hlocks hin hml hK hN hP hD hA hS hl
  replace hl : lv_has ls 7 [(0, .ref a_t), (1, .int p0), (2, .int p1)] := hl
  replace hown : s.vm.findClass "PlayStates" = some m.cls := hown
  unfold f_PS_save_no at h
  refine lv_aload_n hx hb d_PS_save_0 rfl (lv_at hl 0 rfl) ?_
  refine lv_iload_n hx hb d_PS_save_1 rfl (lv_at hl 1 rfl) ?_
  have hPc := hP.sub (ws' := (ws_PS_find G a_t a_t_right a_t_table a_t_joining a_t_units a_t_draft a_t_reader a_t_persons x_t_placeCount x_t_personCount x_t_unitCount x_t_persons)) [0, 1] rfl
  have hDc := hD.sub (ws' := (ws_PS_find G a_t a_t_right a_t_table a_t_joining a_t_units a_t_draft a_t_reader a_t_persons x_t_placeCount x_t_personCount x_t_unitCount x_t_persons)) [0, 1] (by decide) rfl
  have hFc := va_free (wc := (ws_PS_find G a_t a_t_right a_t_table a_t_joining a_t_units a_t_draft a_t_reader a_t_persons x_t_placeCount x_t_personCount x_t_unitCount x_t_persons)) hD hS hA [0, 1] rfl
  refine q_call1 (va_runV (As := [.int p0]) (rest := []) ⟨hx, hb, hml, hown, hts⟩ (c_PS_find l G H.size a_t a_t_right a_t_table a_t_joining a_t_units a_t_draft a_t_reader a_t_persons p0 x_t_placeCount x_t_personCount x_t_unitCount x_t_persons _ hw) (cwV 1 hts (gV gw_163 gw_164 gw_2 gw_31 gw_165) rfl rfl rfl (by decide +kernel) ⟨Nat.le_of_ble_eq_true rfl, Nat.le_of_ble_eq_true rfl⟩) (pV hK hN hPc hDc (ci := 5) (q0 := 0) rfl rfl) rfl rfl hl.1 rfl (lv_room (Nat.le_of_ble_eq_true rfl)) d_PS_save_2 ⟨Nat.le_of_ble_eq_true rfl, Nat.le_of_ble_eq_true rfl⟩) hS (fun q _ h => hFc q h) hFc (fun H1 locs hB hz hk hS => ?_)
  obtain ⟨hP, hD⟩ := q_joinA hFc hB.1 hB.2
  generalize H1 = H at hP hS ⊢
  replace hP : va_P G.1 vwCl (ws_PS_save_no G a_t a_t_right a_t_table a_t_joining a_t_units a_t_draft a_t_reader a_t_persons x_t_placeCount x_t_personCount x_t_unitCount x_t_persons) H := hP
  replace hD : va_D A (ws_PS_save_no G a_t a_t_right a_t_table a_t_joining a_t_units a_t_draft a_t_reader a_t_persons x_t_placeCount x_t_personCount x_t_unitCount x_t_persons) := hD
  refine lv_astore_nN (lv' := [(3, .null), (0, .ref a_t), (1, .int p0), (2, .int p1)]) hx hb d_PS_save_5 rfl hl (by decide) rfl (fun ls hl => ?_)
  refine lv_aload_nN hx hb d_PS_save_6 rfl (lv_at hl 0 rfl) ?_
  refine lv_ifnullN (tgt := 14) hx hb d_PS_save_7 (by decide) ?_
  refine lv_iconst (v := (-1 : Int32)) hx hb d_PS_save_14 (by decide) ?_
  cases h
  exact q_iretW hx hb hr hlocks hP hD hS d_PS_save_15

theorem gw_107 : (.fieldLink "PlayStates" 39 "PlayStates" "joining" "[Z" : Cond) ∈ GW := gT 101 (by decide +kernel) (by decide +kernel)
theorem d_PS_chooseJoining_0 : decode prog_1_method_30_code 0 = .ok (.iload_n 1, 1) := by decide +kernel
theorem d_PS_chooseJoining_1 : decode prog_1_method_30_code 1 = .ok (.istore_n 3, 1) := by decide +kernel
theorem d_PS_chooseJoining_2 : decode prog_1_method_30_code 2 = .ok (.iload_n 2, 1) := by decide +kernel
theorem d_PS_chooseJoining_3 : decode prog_1_method_30_code 3 = .ok (.istore 4, 2) := by decide +kernel
theorem d_PS_chooseJoining_5 : decode prog_1_method_30_code 5 = .ok (.aload_n 0, 1) := by decide +kernel
theorem d_PS_chooseJoining_6 : decode prog_1_method_30_code 6 = .ok (.getfield 35, 3) := by decide +kernel
theorem d_PS_chooseJoining_9 : decode prog_1_method_30_code 9 = .ok (.getfield 197, 3) := by decide +kernel
theorem d_PS_chooseJoining_12 : decode prog_1_method_30_code 12 = .ok (.iconst 1, 1) := by decide +kernel
theorem d_PS_chooseJoining_13 : decode prog_1_method_30_code 13 = .ok (.isub, 1) := by decide +kernel
theorem d_PS_chooseJoining_14 : decode prog_1_method_30_code 14 = .ok (.istore 5, 2) := by decide +kernel
theorem d_PS_chooseJoining_16 : decode prog_1_method_30_code 16 = .ok (.iload 5, 2) := by decide +kernel
theorem d_PS_chooseJoining_18 : decode prog_1_method_30_code 18 = .ok (.ifCond .lt 73, 3) := by decide +kernel
theorem d_PS_chooseJoining_21 : decode prog_1_method_30_code 21 = .ok (.aload_n 0, 1) := by decide +kernel
theorem d_PS_chooseJoining_22 : decode prog_1_method_30_code 22 = .ok (.getfield 39, 3) := by decide +kernel
theorem d_PS_chooseJoining_25 : decode prog_1_method_30_code 25 = .ok (.iload 5, 2) := by decide +kernel
theorem d_PS_chooseJoining_27 : decode prog_1_method_30_code 27 = .ok (.iload 5, 2) := by decide +kernel
theorem d_PS_chooseJoining_29 : decode prog_1_method_30_code 29 = .ok (.iload_n 3, 1) := by decide +kernel
theorem d_PS_chooseJoining_30 : decode prog_1_method_30_code 30 = .ok (.if_icmp .eq 10, 3) := by decide +kernel
theorem d_PS_chooseJoining_33 : decode prog_1_method_30_code 33 = .ok (.iload 5, 2) := by decide +kernel
theorem d_PS_chooseJoining_35 : decode prog_1_method_30_code 35 = .ok (.iload 4, 2) := by decide +kernel
theorem d_PS_chooseJoining_37 : decode prog_1_method_30_code 37 = .ok (.if_icmp .ne 7, 3) := by decide +kernel
theorem d_PS_chooseJoining_40 : decode prog_1_method_30_code 40 = .ok (.iconst 1, 1) := by decide +kernel
theorem d_PS_chooseJoining_41 : decode prog_1_method_30_code 41 = .ok (.goto 4, 3) := by decide +kernel
theorem d_PS_chooseJoining_44 : decode prog_1_method_30_code 44 = .ok (.iconst 0, 1) := by decide +kernel
theorem d_PS_chooseJoining_45 : decode prog_1_method_30_code 45 = .ok (.bastore, 1) := by decide +kernel
theorem d_PS_chooseJoining_46 : decode prog_1_method_30_code 46 = .ok (.iload 5, 2) := by decide +kernel
theorem d_PS_chooseJoining_48 : decode prog_1_method_30_code 48 = .ok (.iload_n 3, 1) := by decide +kernel
theorem d_PS_chooseJoining_49 : decode prog_1_method_30_code 49 = .ok (.if_icmp .ne 17, 3) := by decide +kernel
theorem d_PS_chooseJoining_52 : decode prog_1_method_30_code 52 = .ok (.aload_n 0, 1) := by decide +kernel
theorem d_PS_chooseJoining_53 : decode prog_1_method_30_code 53 = .ok (.getfield 35, 3) := by decide +kernel
theorem d_PS_chooseJoining_56 : decode prog_1_method_30_code 56 = .ok (.getfield 112, 3) := by decide +kernel
theorem d_PS_chooseJoining_59 : decode prog_1_method_30_code 59 = .ok (.iload 5, 2) := by decide +kernel
theorem d_PS_chooseJoining_61 : decode prog_1_method_30_code 61 = .ok (.iaload, 1) := by decide +kernel
theorem d_PS_chooseJoining_62 : decode prog_1_method_30_code 62 = .ok (.istore_n 3, 1) := by decide +kernel
theorem d_PS_chooseJoining_63 : decode prog_1_method_30_code 63 = .ok (.goto 22, 3) := by decide +kernel
theorem d_PS_chooseJoining_66 : decode prog_1_method_30_code 66 = .ok (.iload 5, 2) := by decide +kernel
theorem d_PS_chooseJoining_68 : decode prog_1_method_30_code 68 = .ok (.iload 4, 2) := by decide +kernel
theorem d_PS_chooseJoining_70 : decode prog_1_method_30_code 70 = .ok (.if_icmp .ne 15, 3) := by decide +kernel
theorem d_PS_chooseJoining_73 : decode prog_1_method_30_code 73 = .ok (.aload_n 0, 1) := by decide +kernel
theorem d_PS_chooseJoining_74 : decode prog_1_method_30_code 74 = .ok (.getfield 35, 3) := by decide +kernel
theorem d_PS_chooseJoining_77 : decode prog_1_method_30_code 77 = .ok (.getfield 112, 3) := by decide +kernel
theorem d_PS_chooseJoining_80 : decode prog_1_method_30_code 80 = .ok (.iload 5, 2) := by decide +kernel
theorem d_PS_chooseJoining_82 : decode prog_1_method_30_code 82 = .ok (.iaload, 1) := by decide +kernel
theorem d_PS_chooseJoining_83 : decode prog_1_method_30_code 83 = .ok (.istore 4, 2) := by decide +kernel
theorem d_PS_chooseJoining_85 : decode prog_1_method_30_code 85 = .ok (.iinc 5 (-1), 3) := by decide +kernel
theorem d_PS_chooseJoining_88 : decode prog_1_method_30_code 88 = .ok (.goto (-72), 3) := by decide +kernel
theorem d_PS_chooseJoining_91 : decode prog_1_method_30_code 91 = .ok (.return_, 1) := by decide +kernel
-- PlayStates.chooseJoining(II)V 
def ws_PS_chooseJoining (G : gG) (a_t a_t_right a_t_persons a_t_units a_t_draft a_t_reader a_t_table a_t_table_place a_t_table_told a_t_table_before a_t_table_behind a_t_joining : Nat)  (x_t_placeCount : Int32) (x_t_personCount : Int32) (x_t_unitCount : Int32) (x_t_table_count : Int32) (x_t_table_behind : Nat → Int32) (x_t_joining : Nat → Int32) : va_W := [(a_t, .inr (5, [.int x_t_placeCount, .ref a_t_right, .ref a_t_persons, .int x_t_personCount, .ref a_t_table, .ref a_t_joining, .ref a_t_units, .int x_t_unitCount, .ref a_t_draft, .ref a_t_reader])), (a_t_table, .inr (3, [.ref a_t_table_place, .ref a_t_table_told, .ref a_t_table_before, .ref a_t_table_behind, .int x_t_table_count])), (a_t_table_behind, .inl (G.2 0, 600, .inl x_t_table_behind)), (a_t_joining, .inl (G.2 1, 600, .inl x_t_joining))]
def fb_PS_chooseJoining_L16 (fu : Nat) (x_t_placeCount : Int32) (x_t_personCount : Int32) (x_t_unitCount : Int32) (x_t_table_count : Int32) (x_t_table_behind : Nat → Int32)  (k16 : (Int32 → Int32 → Int32 → Int32 → Int32 → (Nat → Int32) → Option ((Nat → Int32)))) (l16_1 : Int32) (l16_2 : Int32) (l16_3 : Int32) (l16_4 : Int32) (l16_5 : Int32) (x_t_joining_16 : Nat → Int32) : Option ((Nat → Int32)) :=
  (if l16_5 < 0 then some x_t_joining_16 else (if l16_5 = l16_3 then (if inB l16_5 600 then (if l16_5 = l16_3 then (if inB l16_5 600 then (k16 l16_1 l16_2 (x_t_table_behind l16_5.toNatClampNeg) l16_4 (l16_5 + (-1 : Int32)) (upd x_t_joining_16 l16_5.toNatClampNeg (vp_nar .boolean (1 : Int32)))) else none) else (if l16_5 = l16_4 then (if inB l16_5 600 then (k16 l16_1 l16_2 l16_3 (x_t_table_behind l16_5.toNatClampNeg) (l16_5 + (-1 : Int32)) (upd x_t_joining_16 l16_5.toNatClampNeg (vp_nar .boolean (1 : Int32)))) else none) else (k16 l16_1 l16_2 l16_3 l16_4 (l16_5 + (-1 : Int32)) (upd x_t_joining_16 l16_5.toNatClampNeg (vp_nar .boolean (1 : Int32)))))) else none) else (if l16_5 = l16_4 then (if inB l16_5 600 then (if l16_5 = l16_3 then (if inB l16_5 600 then (k16 l16_1 l16_2 (x_t_table_behind l16_5.toNatClampNeg) l16_4 (l16_5 + (-1 : Int32)) (upd x_t_joining_16 l16_5.toNatClampNeg (vp_nar .boolean (1 : Int32)))) else none) else (if l16_5 = l16_4 then (if inB l16_5 600 then (k16 l16_1 l16_2 l16_3 (x_t_table_behind l16_5.toNatClampNeg) (l16_5 + (-1 : Int32)) (upd x_t_joining_16 l16_5.toNatClampNeg (vp_nar .boolean (1 : Int32)))) else none) else (k16 l16_1 l16_2 l16_3 l16_4 (l16_5 + (-1 : Int32)) (upd x_t_joining_16 l16_5.toNatClampNeg (vp_nar .boolean (1 : Int32)))))) else none) else (if inB l16_5 600 then (if l16_5 = l16_3 then (if inB l16_5 600 then (k16 l16_1 l16_2 (x_t_table_behind l16_5.toNatClampNeg) l16_4 (l16_5 + (-1 : Int32)) (upd x_t_joining_16 l16_5.toNatClampNeg (vp_nar .boolean (0 : Int32)))) else none) else (if l16_5 = l16_4 then (if inB l16_5 600 then (k16 l16_1 l16_2 l16_3 (x_t_table_behind l16_5.toNatClampNeg) (l16_5 + (-1 : Int32)) (upd x_t_joining_16 l16_5.toNatClampNeg (vp_nar .boolean (0 : Int32)))) else none) else (k16 l16_1 l16_2 l16_3 l16_4 (l16_5 + (-1 : Int32)) (upd x_t_joining_16 l16_5.toNatClampNeg (vp_nar .boolean (0 : Int32)))))) else none))))
def f_PS_chooseJoining_L16 (fu : Nat) (x_t_placeCount : Int32) (x_t_personCount : Int32) (x_t_unitCount : Int32) (x_t_table_count : Int32) (x_t_table_behind : Nat → Int32)  : Nat → Int32 → Int32 → Int32 → Int32 → Int32 → (Nat → Int32) → Option ((Nat → Int32))
  | 0 => fun _ _ _ _ _ _ => none
  | k9 + 1 => fb_PS_chooseJoining_L16 fu x_t_placeCount x_t_personCount x_t_unitCount x_t_table_count x_t_table_behind (f_PS_chooseJoining_L16 fu x_t_placeCount x_t_personCount x_t_unitCount x_t_table_count x_t_table_behind k9)
def f_PS_chooseJoining (fu : Nat)  (p0 : Int32) (p1 : Int32) (x_t_placeCount : Int32) (x_t_personCount : Int32) (x_t_unitCount : Int32) (x_t_table_count : Int32) (x_t_table_behind : Nat → Int32) (x_t_joining : Nat → Int32) : Option ((Nat → Int32)) :=
  (f_PS_chooseJoining_L16 fu x_t_placeCount x_t_personCount x_t_unitCount x_t_table_count x_t_table_behind fu p0 p1 p0 p1 (x_t_table_count - (1 : Int32)) x_t_joining)
set_option maxHeartbeats 4000000 in
set_option maxRecDepth 100000 in
theorem c_PS_chooseJoining (l : Launch) (G : gG) (sz : Nat) (a_t a_t_right a_t_persons a_t_units a_t_draft a_t_reader a_t_table a_t_table_place a_t_table_told a_t_table_before a_t_table_behind a_t_joining : Nat) (fu : Nat)  (p0 : Int32) (p1 : Int32) (x_t_placeCount : Int32) (x_t_personCount : Int32) (x_t_unitCount : Int32) (x_t_table_count : Int32) (x_t_table_behind : Nat → Int32) (x_t_joining : Nat → Int32) (x_t_joining' : Nat → Int32) (h : f_PS_chooseJoining fu p0 p1 x_t_placeCount x_t_personCount x_t_unitCount x_t_table_count x_t_table_behind x_t_joining = some x_t_joining')  : cN l y_PS_chooseJoining w_PS_chooseJoining { frames := 0, cells := 0, slots := 0, locals := 0 } G sz [.ref a_t, .int p0, .int p1] (ws_PS_chooseJoining G a_t a_t_right a_t_persons a_t_units a_t_draft a_t_reader a_t_table a_t_table_place a_t_table_told a_t_table_before a_t_table_behind a_t_joining x_t_placeCount x_t_personCount x_t_unitCount x_t_table_count x_t_table_behind x_t_joining) none (wB G (ws_PS_chooseJoining G a_t a_t_right a_t_persons a_t_units a_t_draft a_t_reader a_t_table a_t_table_place a_t_table_told a_t_table_before a_t_table_behind a_t_joining x_t_placeCount x_t_personCount x_t_unitCount x_t_table_count x_t_table_behind x_t_joining')) 0 0 := by
  refine cN_ofW (cc := prog_1_method_30_code) (maxL := 6) (ret := none) (by decide) rfl (Nat.le_of_ble_eq_true rfl) ?_
  intro p e s m args below meth c A H locs ls hx hb hr hts hown hlocks hin hml hK hN hP hD hA hS hl
  replace hl : lv_has ls 6 [(0, .ref a_t), (1, .int p0), (2, .int p1)] := hl
  replace hown : s.vm.findClass "PlayStates" = some m.cls := hown
  unfold f_PS_chooseJoining at h
  refine lv_iload_n hx hb d_PS_chooseJoining_0 rfl (lv_at hl 1 rfl) ?_
  refine lv_istore_n (lv' := [(3, .int p0), (0, .ref a_t), (1, .int p0), (2, .int p1)]) hx hb d_PS_chooseJoining_1 rfl hl (by decide) rfl (fun ls hl => ?_)
  refine lv_iload_n hx hb d_PS_chooseJoining_2 rfl (lv_at hl 3 rfl) ?_
  refine lv_istore (lv' := [(4, .int p1), (3, .int p0), (0, .ref a_t), (1, .int p0), (2, .int p1)]) hx hb d_PS_chooseJoining_3 hl (by decide) rfl (fun ls hl => ?_)
  refine lv_aload_n hx hb d_PS_chooseJoining_5 rfl (lv_at hl 2 rfl) ?_
  refine va_get (D := G.1) (ci := 5) (v := .ref a_t_table) (C := "PlayStates") (T := TPS) (N := 10) hx hb hts iw_5 hown hK hP 0 rfl rfl 4 (by decide) (hts _ gw_106) (fun _ h9 => h9) rfl d_PS_chooseJoining_6 ?_
  refine va_getN (D := G.1) (ci := 3) (v := .int x_t_table_count) (C := "PlayStates$RowTable") (T := TRt) (N := 5) hx hb hts iw_3 hown hK hP 1 rfl rfl 4 (by decide) (va_Nw.use rfl (hN.1 ("PlayStates", 197, "PlayStates$RowTable", "count", "I", "PlayStates") (by decide +kernel))) (fun _ h9 => h9) rfl d_PS_chooseJoining_9 ?_
  refine lv_iconst (v := (1 : Int32)) hx hb d_PS_chooseJoining_12 (by decide) ?_
  refine lv_isub hx hb d_PS_chooseJoining_13 ?_
  refine lv_istore (lv' := [(5, .int (x_t_table_count - (1 : Int32))), (4, .int p1), (3, .int p0), (0, .ref a_t), (1, .int p0), (2, .int p1)]) hx hb d_PS_chooseJoining_14 hl (by decide) rfl (fun ls hl => ?_)
  have L16 : ∀ (nf : Nat) (l16_1 : Int32) (l16_2 : Int32) (l16_3 : Int32) (l16_4 : Int32) (l16_5 : Int32) (x_t_joining_16 : Nat → Int32) (H : Heap) (locs : List Loc) (ls : Array Slot), f_PS_chooseJoining_L16 fu x_t_placeCount x_t_personCount x_t_unitCount x_t_table_count x_t_table_behind nf l16_1 l16_2 l16_3 l16_4 l16_5 x_t_joining_16 = some x_t_joining' → va_P G.1 vwCl (ws_PS_chooseJoining G a_t a_t_right a_t_persons a_t_units a_t_draft a_t_reader a_t_table a_t_table_place a_t_table_told a_t_table_before a_t_table_behind a_t_joining x_t_placeCount x_t_personCount x_t_unitCount x_t_table_count x_t_table_behind x_t_joining_16) H → va_D A (ws_PS_chooseJoining G a_t a_t_right a_t_persons a_t_units a_t_draft a_t_reader a_t_table a_t_table_place a_t_table_told a_t_table_before a_t_table_behind a_t_joining x_t_placeCount x_t_personCount x_t_unitCount x_t_table_count x_t_table_behind x_t_joining_16) → va_S A s.heap H locs → lv_has ls 6 [(0, .ref a_t), (1, .int l16_1), (2, .int l16_2), (3, .int l16_3), (4, .int l16_4), (5, .int l16_5)] → W p l e { frames := 0, cells := 0, slots := 0, locals := 0 } s m args below meth c H locs 0 0 (MQ below (qQ none (wB G (ws_PS_chooseJoining G a_t a_t_right a_t_persons a_t_units a_t_draft a_t_reader a_t_table a_t_table_place a_t_table_told a_t_table_before a_t_table_behind a_t_joining x_t_placeCount x_t_personCount x_t_unitCount x_t_table_count x_t_table_behind x_t_joining') A) A) args s 0 0 A) (F0 m 16 ls []) := by
    clear h hP hD hS hl
    intro n16
    induction n16 with
    | zero => intro _ _ _ _ _ _ H locs ls h; exact nomatch (show none = some _ from h)
    | succ n16 ih16 =>
      intro l16_1 l16_2 l16_3 l16_4 l16_5 x_t_joining_16 H locs ls h hP hD hS hl
      replace h : fb_PS_chooseJoining_L16 fu x_t_placeCount x_t_personCount x_t_unitCount x_t_table_count x_t_table_behind (f_PS_chooseJoining_L16 fu x_t_placeCount x_t_personCount x_t_unitCount x_t_table_count x_t_table_behind n16) l16_1 l16_2 l16_3 l16_4 l16_5 x_t_joining_16 = some x_t_joining' := h
      unfold fb_PS_chooseJoining_L16 at h
      refine lv_iload hx hb d_PS_chooseJoining_16 (lv_at hl 5 rfl) ?_
      refine lv_if_lt (tgt := 91) hx hb d_PS_chooseJoining_18 (by decide) (fun c1 => ?_) (fun c1 => ?_)
      · replace h := (if_pos c1).symm.trans h
        cases h
        exact q_vretW hx hb hr hlocks hP hD hS d_PS_chooseJoining_91
      · replace h := (if_neg c1).symm.trans h
        refine lv_aload_n hx hb d_PS_chooseJoining_21 rfl (lv_at hl 0 rfl) ?_
        refine va_get (D := G.1) (ci := 5) (v := .ref a_t_joining) (C := "PlayStates") (T := TPS) (N := 10) hx hb hts iw_5 hown hK hP 0 rfl rfl 5 (by decide) (hts _ gw_107) (fun _ h9 => h9) rfl d_PS_chooseJoining_22 ?_
        refine lv_iload hx hb d_PS_chooseJoining_25 (lv_at hl 5 rfl) ?_
        refine lv_iload hx hb d_PS_chooseJoining_27 (lv_at hl 5 rfl) ?_
        refine lv_iload_n hx hb d_PS_chooseJoining_29 rfl (lv_at hl 3 rfl) ?_
        refine lv_icmp_eq (tgt := 40) hx hb d_PS_chooseJoining_30 (by decide) (fun c2 => ?_) (fun c2 => ?_)
        · replace h := (if_pos c2).symm.trans h
          refine lv_iconst (v := (1 : Int32)) hx hb d_PS_chooseJoining_40 (by decide) ?_
          refine lv_goto (tgt := 45) hx hb d_PS_chooseJoining_41 (by decide) ?_
          obtain ⟨i3, h⟩ := o_if h
          refine va_zast (n := 600) (f := x_t_joining_16) hx hb hK hP hD hS 3 1 rfl rfl i3 d_PS_chooseJoining_45 (fun H locs hP hD hS => ?_)
          replace hP : va_P G.1 vwCl (ws_PS_chooseJoining G a_t a_t_right a_t_persons a_t_units a_t_draft a_t_reader a_t_table a_t_table_place a_t_table_told a_t_table_before a_t_table_behind a_t_joining x_t_placeCount x_t_personCount x_t_unitCount x_t_table_count x_t_table_behind (upd x_t_joining_16 l16_5.toNatClampNeg (vp_nar .boolean (1 : Int32)))) H := hP
          replace hD : va_D A (ws_PS_chooseJoining G a_t a_t_right a_t_persons a_t_units a_t_draft a_t_reader a_t_table a_t_table_place a_t_table_told a_t_table_before a_t_table_behind a_t_joining x_t_placeCount x_t_personCount x_t_unitCount x_t_table_count x_t_table_behind (upd x_t_joining_16 l16_5.toNatClampNeg (vp_nar .boolean (1 : Int32)))) := hD
          refine lv_iload hx hb d_PS_chooseJoining_46 (lv_at hl 5 rfl) ?_
          refine lv_iload_n hx hb d_PS_chooseJoining_48 rfl (lv_at hl 3 rfl) ?_
          refine lv_icmp_ne (tgt := 66) hx hb d_PS_chooseJoining_49 (by decide) (fun c4 => ?_) (fun c4 => ?_)
          · replace h := (if_neg c4).symm.trans h
            refine lv_iload hx hb d_PS_chooseJoining_66 (lv_at hl 5 rfl) ?_
            refine lv_iload hx hb d_PS_chooseJoining_68 (lv_at hl 4 rfl) ?_
            refine lv_icmp_ne (tgt := 85) hx hb d_PS_chooseJoining_70 (by decide) (fun c5 => ?_) (fun c5 => ?_)
            · replace h := (if_neg c5).symm.trans h
              refine lv_iinc (v := (l16_5 + (-1 : Int32))) (lv' := [(5, .int (l16_5 + (-1 : Int32))), (0, .ref a_t), (1, .int l16_1), (2, .int l16_2), (3, .int l16_3), (4, .int l16_4)]) hx hb d_PS_chooseJoining_85 hl (k := 5) rfl rfl (by decide) rfl (fun ls hl => ?_)
              refine lv_goto (tgt := 16) hx hb d_PS_chooseJoining_88 (by decide) ?_
              exact ih16 l16_1 l16_2 l16_3 l16_4 (l16_5 + (-1 : Int32)) (upd x_t_joining_16 l16_5.toNatClampNeg (vp_nar .boolean (1 : Int32))) _ _ _ h hP hD hS (lv_sub hl [1, 2, 3, 4, 5, 0] rfl)
            · replace h := (if_pos c5).symm.trans h
              refine lv_aload_n hx hb d_PS_chooseJoining_73 rfl (lv_at hl 0 rfl) ?_
              refine va_get (D := G.1) (ci := 5) (v := .ref a_t_table) (C := "PlayStates") (T := TPS) (N := 10) hx hb hts iw_5 hown hK hP 0 rfl rfl 4 (by decide) (hts _ gw_106) (fun _ h9 => h9) rfl d_PS_chooseJoining_74 ?_
              refine va_getN (D := G.1) (ci := 3) (v := .ref a_t_table_behind) (C := "PlayStates$RowTable") (T := TRt) (N := 5) hx hb hts iw_3 hown hK hP 1 rfl rfl 3 (by decide) (va_Nw.use rfl (hN.1 ("PlayStates", 112, "PlayStates$RowTable", "behind", "[I", "PlayStates") (by decide +kernel))) (fun _ h9 => h9) rfl d_PS_chooseJoining_77 ?_
              refine lv_iload hx hb d_PS_chooseJoining_80 (lv_at hl 5 rfl) ?_
              obtain ⟨i6, h⟩ := o_if h
              refine va_iald (n := 600) (f := x_t_table_behind) hx hb hK hP 2 0 rfl rfl i6 d_PS_chooseJoining_82 ?_
              refine lv_istore (lv' := [(4, .int (x_t_table_behind l16_5.toNatClampNeg)), (0, .ref a_t), (1, .int l16_1), (2, .int l16_2), (3, .int l16_3), (5, .int l16_5)]) hx hb d_PS_chooseJoining_83 hl (by decide) rfl (fun ls hl => ?_)
              refine lv_iinc (v := (l16_5 + (-1 : Int32))) (lv' := [(5, .int (l16_5 + (-1 : Int32))), (4, .int (x_t_table_behind l16_5.toNatClampNeg)), (0, .ref a_t), (1, .int l16_1), (2, .int l16_2), (3, .int l16_3)]) hx hb d_PS_chooseJoining_85 hl (k := 5) rfl rfl (by decide) rfl (fun ls hl => ?_)
              refine lv_goto (tgt := 16) hx hb d_PS_chooseJoining_88 (by decide) ?_
              exact ih16 l16_1 l16_2 l16_3 (x_t_table_behind l16_5.toNatClampNeg) (l16_5 + (-1 : Int32)) (upd x_t_joining_16 l16_5.toNatClampNeg (vp_nar .boolean (1 : Int32))) _ _ _ h hP hD hS (lv_sub hl [2, 3, 4, 5, 1, 0] rfl)
          · replace h := (if_pos c4).symm.trans h
            refine lv_aload_n hx hb d_PS_chooseJoining_52 rfl (lv_at hl 0 rfl) ?_
            refine va_get (D := G.1) (ci := 5) (v := .ref a_t_table) (C := "PlayStates") (T := TPS) (N := 10) hx hb hts iw_5 hown hK hP 0 rfl rfl 4 (by decide) (hts _ gw_106) (fun _ h9 => h9) rfl d_PS_chooseJoining_53 ?_
            refine va_getN (D := G.1) (ci := 3) (v := .ref a_t_table_behind) (C := "PlayStates$RowTable") (T := TRt) (N := 5) hx hb hts iw_3 hown hK hP 1 rfl rfl 3 (by decide) (va_Nw.use rfl (hN.1 ("PlayStates", 112, "PlayStates$RowTable", "behind", "[I", "PlayStates") (by decide +kernel))) (fun _ h9 => h9) rfl d_PS_chooseJoining_56 ?_
            refine lv_iload hx hb d_PS_chooseJoining_59 (lv_at hl 5 rfl) ?_
            obtain ⟨i7, h⟩ := o_if h
            refine va_iald (n := 600) (f := x_t_table_behind) hx hb hK hP 2 0 rfl rfl i7 d_PS_chooseJoining_61 ?_
            refine lv_istore_n (lv' := [(3, .int (x_t_table_behind l16_5.toNatClampNeg)), (0, .ref a_t), (1, .int l16_1), (2, .int l16_2), (4, .int l16_4), (5, .int l16_5)]) hx hb d_PS_chooseJoining_62 rfl hl (by decide) rfl (fun ls hl => ?_)
            refine lv_goto (tgt := 85) hx hb d_PS_chooseJoining_63 (by decide) ?_
            refine lv_iinc (v := (l16_5 + (-1 : Int32))) (lv' := [(5, .int (l16_5 + (-1 : Int32))), (3, .int (x_t_table_behind l16_5.toNatClampNeg)), (0, .ref a_t), (1, .int l16_1), (2, .int l16_2), (4, .int l16_4)]) hx hb d_PS_chooseJoining_85 hl (k := 5) rfl rfl (by decide) rfl (fun ls hl => ?_)
            refine lv_goto (tgt := 16) hx hb d_PS_chooseJoining_88 (by decide) ?_
            exact ih16 l16_1 l16_2 (x_t_table_behind l16_5.toNatClampNeg) l16_4 (l16_5 + (-1 : Int32)) (upd x_t_joining_16 l16_5.toNatClampNeg (vp_nar .boolean (1 : Int32))) _ _ _ h hP hD hS (lv_sub hl [2, 3, 4, 1, 5, 0] rfl)
        · replace h := (if_neg c2).symm.trans h
          refine lv_iload hx hb d_PS_chooseJoining_33 (lv_at hl 5 rfl) ?_
          refine lv_iload hx hb d_PS_chooseJoining_35 (lv_at hl 4 rfl) ?_
          refine lv_icmp_ne (tgt := 44) hx hb d_PS_chooseJoining_37 (by decide) (fun c8 => ?_) (fun c8 => ?_)
          · replace h := (if_neg c8).symm.trans h
            refine lv_iconst (v := (0 : Int32)) hx hb d_PS_chooseJoining_44 (by decide) ?_
            obtain ⟨i9, h⟩ := o_if h
            refine va_zast (n := 600) (f := x_t_joining_16) hx hb hK hP hD hS 3 1 rfl rfl i9 d_PS_chooseJoining_45 (fun H locs hP hD hS => ?_)
            replace hP : va_P G.1 vwCl (ws_PS_chooseJoining G a_t a_t_right a_t_persons a_t_units a_t_draft a_t_reader a_t_table a_t_table_place a_t_table_told a_t_table_before a_t_table_behind a_t_joining x_t_placeCount x_t_personCount x_t_unitCount x_t_table_count x_t_table_behind (upd x_t_joining_16 l16_5.toNatClampNeg (vp_nar .boolean (0 : Int32)))) H := hP
            replace hD : va_D A (ws_PS_chooseJoining G a_t a_t_right a_t_persons a_t_units a_t_draft a_t_reader a_t_table a_t_table_place a_t_table_told a_t_table_before a_t_table_behind a_t_joining x_t_placeCount x_t_personCount x_t_unitCount x_t_table_count x_t_table_behind (upd x_t_joining_16 l16_5.toNatClampNeg (vp_nar .boolean (0 : Int32)))) := hD
            refine lv_iload hx hb d_PS_chooseJoining_46 (lv_at hl 5 rfl) ?_
            refine lv_iload_n hx hb d_PS_chooseJoining_48 rfl (lv_at hl 3 rfl) ?_
            refine lv_icmp_ne (tgt := 66) hx hb d_PS_chooseJoining_49 (by decide) (fun c10 => ?_) (fun c10 => ?_)
            · replace h := (if_neg c10).symm.trans h
              refine lv_iload hx hb d_PS_chooseJoining_66 (lv_at hl 5 rfl) ?_
              refine lv_iload hx hb d_PS_chooseJoining_68 (lv_at hl 4 rfl) ?_
              refine lv_icmp_ne (tgt := 85) hx hb d_PS_chooseJoining_70 (by decide) (fun c11 => ?_) (fun c11 => ?_)
              · replace h := (if_neg c11).symm.trans h
                refine lv_iinc (v := (l16_5 + (-1 : Int32))) (lv' := [(5, .int (l16_5 + (-1 : Int32))), (0, .ref a_t), (1, .int l16_1), (2, .int l16_2), (3, .int l16_3), (4, .int l16_4)]) hx hb d_PS_chooseJoining_85 hl (k := 5) rfl rfl (by decide) rfl (fun ls hl => ?_)
                refine lv_goto (tgt := 16) hx hb d_PS_chooseJoining_88 (by decide) ?_
                exact ih16 l16_1 l16_2 l16_3 l16_4 (l16_5 + (-1 : Int32)) (upd x_t_joining_16 l16_5.toNatClampNeg (vp_nar .boolean (0 : Int32))) _ _ _ h hP hD hS (lv_sub hl [1, 2, 3, 4, 5, 0] rfl)
              · replace h := (if_pos c11).symm.trans h
                refine lv_aload_n hx hb d_PS_chooseJoining_73 rfl (lv_at hl 0 rfl) ?_
                refine va_get (D := G.1) (ci := 5) (v := .ref a_t_table) (C := "PlayStates") (T := TPS) (N := 10) hx hb hts iw_5 hown hK hP 0 rfl rfl 4 (by decide) (hts _ gw_106) (fun _ h9 => h9) rfl d_PS_chooseJoining_74 ?_
                refine va_getN (D := G.1) (ci := 3) (v := .ref a_t_table_behind) (C := "PlayStates$RowTable") (T := TRt) (N := 5) hx hb hts iw_3 hown hK hP 1 rfl rfl 3 (by decide) (va_Nw.use rfl (hN.1 ("PlayStates", 112, "PlayStates$RowTable", "behind", "[I", "PlayStates") (by decide +kernel))) (fun _ h9 => h9) rfl d_PS_chooseJoining_77 ?_
                refine lv_iload hx hb d_PS_chooseJoining_80 (lv_at hl 5 rfl) ?_
                obtain ⟨i12, h⟩ := o_if h
                refine va_iald (n := 600) (f := x_t_table_behind) hx hb hK hP 2 0 rfl rfl i12 d_PS_chooseJoining_82 ?_
                refine lv_istore (lv' := [(4, .int (x_t_table_behind l16_5.toNatClampNeg)), (0, .ref a_t), (1, .int l16_1), (2, .int l16_2), (3, .int l16_3), (5, .int l16_5)]) hx hb d_PS_chooseJoining_83 hl (by decide) rfl (fun ls hl => ?_)
                refine lv_iinc (v := (l16_5 + (-1 : Int32))) (lv' := [(5, .int (l16_5 + (-1 : Int32))), (4, .int (x_t_table_behind l16_5.toNatClampNeg)), (0, .ref a_t), (1, .int l16_1), (2, .int l16_2), (3, .int l16_3)]) hx hb d_PS_chooseJoining_85 hl (k := 5) rfl rfl (by decide) rfl (fun ls hl => ?_)
                refine lv_goto (tgt := 16) hx hb d_PS_chooseJoining_88 (by decide) ?_
                exact ih16 l16_1 l16_2 l16_3 (x_t_table_behind l16_5.toNatClampNeg) (l16_5 + (-1 : Int32)) (upd x_t_joining_16 l16_5.toNatClampNeg (vp_nar .boolean (0 : Int32))) _ _ _ h hP hD hS (lv_sub hl [2, 3, 4, 5, 1, 0] rfl)
            · replace h := (if_pos c10).symm.trans h
              refine lv_aload_n hx hb d_PS_chooseJoining_52 rfl (lv_at hl 0 rfl) ?_
              refine va_get (D := G.1) (ci := 5) (v := .ref a_t_table) (C := "PlayStates") (T := TPS) (N := 10) hx hb hts iw_5 hown hK hP 0 rfl rfl 4 (by decide) (hts _ gw_106) (fun _ h9 => h9) rfl d_PS_chooseJoining_53 ?_
              refine va_getN (D := G.1) (ci := 3) (v := .ref a_t_table_behind) (C := "PlayStates$RowTable") (T := TRt) (N := 5) hx hb hts iw_3 hown hK hP 1 rfl rfl 3 (by decide) (va_Nw.use rfl (hN.1 ("PlayStates", 112, "PlayStates$RowTable", "behind", "[I", "PlayStates") (by decide +kernel))) (fun _ h9 => h9) rfl d_PS_chooseJoining_56 ?_
              refine lv_iload hx hb d_PS_chooseJoining_59 (lv_at hl 5 rfl) ?_
              obtain ⟨i13, h⟩ := o_if h
              refine va_iald (n := 600) (f := x_t_table_behind) hx hb hK hP 2 0 rfl rfl i13 d_PS_chooseJoining_61 ?_
              refine lv_istore_n (lv' := [(3, .int (x_t_table_behind l16_5.toNatClampNeg)), (0, .ref a_t), (1, .int l16_1), (2, .int l16_2), (4, .int l16_4), (5, .int l16_5)]) hx hb d_PS_chooseJoining_62 rfl hl (by decide) rfl (fun ls hl => ?_)
              refine lv_goto (tgt := 85) hx hb d_PS_chooseJoining_63 (by decide) ?_
              refine lv_iinc (v := (l16_5 + (-1 : Int32))) (lv' := [(5, .int (l16_5 + (-1 : Int32))), (3, .int (x_t_table_behind l16_5.toNatClampNeg)), (0, .ref a_t), (1, .int l16_1), (2, .int l16_2), (4, .int l16_4)]) hx hb d_PS_chooseJoining_85 hl (k := 5) rfl rfl (by decide) rfl (fun ls hl => ?_)
              refine lv_goto (tgt := 16) hx hb d_PS_chooseJoining_88 (by decide) ?_
              exact ih16 l16_1 l16_2 (x_t_table_behind l16_5.toNatClampNeg) l16_4 (l16_5 + (-1 : Int32)) (upd x_t_joining_16 l16_5.toNatClampNeg (vp_nar .boolean (0 : Int32))) _ _ _ h hP hD hS (lv_sub hl [2, 3, 4, 1, 5, 0] rfl)
          · replace h := (if_pos c8).symm.trans h
            refine lv_iconst (v := (1 : Int32)) hx hb d_PS_chooseJoining_40 (by decide) ?_
            refine lv_goto (tgt := 45) hx hb d_PS_chooseJoining_41 (by decide) ?_
            obtain ⟨i14, h⟩ := o_if h
            refine va_zast (n := 600) (f := x_t_joining_16) hx hb hK hP hD hS 3 1 rfl rfl i14 d_PS_chooseJoining_45 (fun H locs hP hD hS => ?_)
            replace hP : va_P G.1 vwCl (ws_PS_chooseJoining G a_t a_t_right a_t_persons a_t_units a_t_draft a_t_reader a_t_table a_t_table_place a_t_table_told a_t_table_before a_t_table_behind a_t_joining x_t_placeCount x_t_personCount x_t_unitCount x_t_table_count x_t_table_behind (upd x_t_joining_16 l16_5.toNatClampNeg (vp_nar .boolean (1 : Int32)))) H := hP
            replace hD : va_D A (ws_PS_chooseJoining G a_t a_t_right a_t_persons a_t_units a_t_draft a_t_reader a_t_table a_t_table_place a_t_table_told a_t_table_before a_t_table_behind a_t_joining x_t_placeCount x_t_personCount x_t_unitCount x_t_table_count x_t_table_behind (upd x_t_joining_16 l16_5.toNatClampNeg (vp_nar .boolean (1 : Int32)))) := hD
            refine lv_iload hx hb d_PS_chooseJoining_46 (lv_at hl 5 rfl) ?_
            refine lv_iload_n hx hb d_PS_chooseJoining_48 rfl (lv_at hl 3 rfl) ?_
            refine lv_icmp_ne (tgt := 66) hx hb d_PS_chooseJoining_49 (by decide) (fun c15 => ?_) (fun c15 => ?_)
            · replace h := (if_neg c15).symm.trans h
              refine lv_iload hx hb d_PS_chooseJoining_66 (lv_at hl 5 rfl) ?_
              refine lv_iload hx hb d_PS_chooseJoining_68 (lv_at hl 4 rfl) ?_
              refine lv_icmp_ne (tgt := 85) hx hb d_PS_chooseJoining_70 (by decide) (fun c16 => ?_) (fun c16 => ?_)
              · replace h := (if_neg c16).symm.trans h
                refine lv_iinc (v := (l16_5 + (-1 : Int32))) (lv' := [(5, .int (l16_5 + (-1 : Int32))), (0, .ref a_t), (1, .int l16_1), (2, .int l16_2), (3, .int l16_3), (4, .int l16_4)]) hx hb d_PS_chooseJoining_85 hl (k := 5) rfl rfl (by decide) rfl (fun ls hl => ?_)
                refine lv_goto (tgt := 16) hx hb d_PS_chooseJoining_88 (by decide) ?_
                exact ih16 l16_1 l16_2 l16_3 l16_4 (l16_5 + (-1 : Int32)) (upd x_t_joining_16 l16_5.toNatClampNeg (vp_nar .boolean (1 : Int32))) _ _ _ h hP hD hS (lv_sub hl [1, 2, 3, 4, 5, 0] rfl)
              · replace h := (if_pos c16).symm.trans h
                refine lv_aload_n hx hb d_PS_chooseJoining_73 rfl (lv_at hl 0 rfl) ?_
                refine va_get (D := G.1) (ci := 5) (v := .ref a_t_table) (C := "PlayStates") (T := TPS) (N := 10) hx hb hts iw_5 hown hK hP 0 rfl rfl 4 (by decide) (hts _ gw_106) (fun _ h9 => h9) rfl d_PS_chooseJoining_74 ?_
                refine va_getN (D := G.1) (ci := 3) (v := .ref a_t_table_behind) (C := "PlayStates$RowTable") (T := TRt) (N := 5) hx hb hts iw_3 hown hK hP 1 rfl rfl 3 (by decide) (va_Nw.use rfl (hN.1 ("PlayStates", 112, "PlayStates$RowTable", "behind", "[I", "PlayStates") (by decide +kernel))) (fun _ h9 => h9) rfl d_PS_chooseJoining_77 ?_
                refine lv_iload hx hb d_PS_chooseJoining_80 (lv_at hl 5 rfl) ?_
                obtain ⟨i17, h⟩ := o_if h
                refine va_iald (n := 600) (f := x_t_table_behind) hx hb hK hP 2 0 rfl rfl i17 d_PS_chooseJoining_82 ?_
                refine lv_istore (lv' := [(4, .int (x_t_table_behind l16_5.toNatClampNeg)), (0, .ref a_t), (1, .int l16_1), (2, .int l16_2), (3, .int l16_3), (5, .int l16_5)]) hx hb d_PS_chooseJoining_83 hl (by decide) rfl (fun ls hl => ?_)
                refine lv_iinc (v := (l16_5 + (-1 : Int32))) (lv' := [(5, .int (l16_5 + (-1 : Int32))), (4, .int (x_t_table_behind l16_5.toNatClampNeg)), (0, .ref a_t), (1, .int l16_1), (2, .int l16_2), (3, .int l16_3)]) hx hb d_PS_chooseJoining_85 hl (k := 5) rfl rfl (by decide) rfl (fun ls hl => ?_)
                refine lv_goto (tgt := 16) hx hb d_PS_chooseJoining_88 (by decide) ?_
                exact ih16 l16_1 l16_2 l16_3 (x_t_table_behind l16_5.toNatClampNeg) (l16_5 + (-1 : Int32)) (upd x_t_joining_16 l16_5.toNatClampNeg (vp_nar .boolean (1 : Int32))) _ _ _ h hP hD hS (lv_sub hl [2, 3, 4, 5, 1, 0] rfl)
            · replace h := (if_pos c15).symm.trans h
              refine lv_aload_n hx hb d_PS_chooseJoining_52 rfl (lv_at hl 0 rfl) ?_
              refine va_get (D := G.1) (ci := 5) (v := .ref a_t_table) (C := "PlayStates") (T := TPS) (N := 10) hx hb hts iw_5 hown hK hP 0 rfl rfl 4 (by decide) (hts _ gw_106) (fun _ h9 => h9) rfl d_PS_chooseJoining_53 ?_
              refine va_getN (D := G.1) (ci := 3) (v := .ref a_t_table_behind) (C := "PlayStates$RowTable") (T := TRt) (N := 5) hx hb hts iw_3 hown hK hP 1 rfl rfl 3 (by decide) (va_Nw.use rfl (hN.1 ("PlayStates", 112, "PlayStates$RowTable", "behind", "[I", "PlayStates") (by decide +kernel))) (fun _ h9 => h9) rfl d_PS_chooseJoining_56 ?_
              refine lv_iload hx hb d_PS_chooseJoining_59 (lv_at hl 5 rfl) ?_
              obtain ⟨i18, h⟩ := o_if h
              refine va_iald (n := 600) (f := x_t_table_behind) hx hb hK hP 2 0 rfl rfl i18 d_PS_chooseJoining_61 ?_
              refine lv_istore_n (lv' := [(3, .int (x_t_table_behind l16_5.toNatClampNeg)), (0, .ref a_t), (1, .int l16_1), (2, .int l16_2), (4, .int l16_4), (5, .int l16_5)]) hx hb d_PS_chooseJoining_62 rfl hl (by decide) rfl (fun ls hl => ?_)
              refine lv_goto (tgt := 85) hx hb d_PS_chooseJoining_63 (by decide) ?_
              refine lv_iinc (v := (l16_5 + (-1 : Int32))) (lv' := [(5, .int (l16_5 + (-1 : Int32))), (3, .int (x_t_table_behind l16_5.toNatClampNeg)), (0, .ref a_t), (1, .int l16_1), (2, .int l16_2), (4, .int l16_4)]) hx hb d_PS_chooseJoining_85 hl (k := 5) rfl rfl (by decide) rfl (fun ls hl => ?_)
              refine lv_goto (tgt := 16) hx hb d_PS_chooseJoining_88 (by decide) ?_
              exact ih16 l16_1 l16_2 (x_t_table_behind l16_5.toNatClampNeg) l16_4 (l16_5 + (-1 : Int32)) (upd x_t_joining_16 l16_5.toNatClampNeg (vp_nar .boolean (1 : Int32))) _ _ _ h hP hD hS (lv_sub hl [2, 3, 4, 1, 5, 0] rfl)
  exact L16 fu p0 p1 p0 p1 (x_t_table_count - (1 : Int32)) x_t_joining _ _ _ h hP hD hS (lv_sub hl [3, 4, 5, 2, 1, 0] rfl)
