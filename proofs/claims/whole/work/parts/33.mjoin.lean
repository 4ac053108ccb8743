theorem gw_396 : (.fieldLink "PlayStatesModel" 51 "PlayStatesModel" "isOn" "[Z" : Cond) ∈ GW := gT 434 (by decide +kernel) (by decide +kernel)
theorem d_Md_walk_0 : decode prog_8_method_25_code 0 = .ok (.aload_n 0, 1) := by decide +kernel
theorem d_Md_walk_1 : decode prog_8_method_25_code 1 = .ok (.getfield 19, 3) := by decide +kernel
theorem d_Md_walk_4 : decode prog_8_method_25_code 4 = .ok (.iload_n 1, 1) := by decide +kernel
theorem d_Md_walk_5 : decode prog_8_method_25_code 5 = .ok (.iaload, 1) := by decide +kernel
theorem d_Md_walk_6 : decode prog_8_method_25_code 6 = .ok (.istore_n 2, 1) := by decide +kernel
theorem d_Md_walk_7 : decode prog_8_method_25_code 7 = .ok (.iload_n 2, 1) := by decide +kernel
theorem d_Md_walk_8 : decode prog_8_method_25_code 8 = .ok (.ifCond .lt 20, 3) := by decide +kernel
theorem d_Md_walk_11 : decode prog_8_method_25_code 11 = .ok (.aload_n 0, 1) := by decide +kernel
theorem d_Md_walk_12 : decode prog_8_method_25_code 12 = .ok (.getfield 51, 3) := by decide +kernel
theorem d_Md_walk_15 : decode prog_8_method_25_code 15 = .ok (.iload_n 2, 1) := by decide +kernel
theorem d_Md_walk_16 : decode prog_8_method_25_code 16 = .ok (.iconst 1, 1) := by decide +kernel
theorem d_Md_walk_17 : decode prog_8_method_25_code 17 = .ok (.bastore, 1) := by decide +kernel
theorem d_Md_walk_18 : decode prog_8_method_25_code 18 = .ok (.aload_n 0, 1) := by decide +kernel
theorem d_Md_walk_19 : decode prog_8_method_25_code 19 = .ok (.getfield 48, 3) := by decide +kernel
theorem d_Md_walk_22 : decode prog_8_method_25_code 22 = .ok (.iload_n 2, 1) := by decide +kernel
theorem d_Md_walk_23 : decode prog_8_method_25_code 23 = .ok (.iaload, 1) := by decide +kernel
theorem d_Md_walk_24 : decode prog_8_method_25_code 24 = .ok (.istore_n 2, 1) := by decide +kernel
theorem d_Md_walk_25 : decode prog_8_method_25_code 25 = .ok (.goto (-18), 3) := by decide +kernel
theorem d_Md_walk_28 : decode prog_8_method_25_code 28 = .ok (.return_, 1) := by decide +kernel
-- PlayStatesModel.walk(I)V 
def ws_Md_walk (G : gG) (a_t a_t_truth a_t_entries a_t_marked a_t_helped a_t_counted a_t_told a_t_runs a_t_whose a_t_where a_t_what a_t_before a_t_tryEntries a_t_tryMarks a_t_text a_t_present a_t_behind a_t_isOn : Nat)  (x_t_thrown : Int32) (x_t_places : Int32) (x_t_persons : Int32) (x_t_many : Int32) (x_t_size : Int32) (x_t_at : Int32) (x_t_sought : Int32) (x_t_found : Int32) (x_t_present : Nat → Int32) (x_t_behind : Nat → Int32) (x_t_isOn : Nat → Int32) : va_W := [(a_t, .inr (6, [.int x_t_thrown, .int x_t_places, .int x_t_persons, .ref a_t_truth, .ref a_t_entries, .ref a_t_marked, .ref a_t_present, .ref a_t_helped, .ref a_t_counted, .ref a_t_told, .ref a_t_runs, .int x_t_many, .ref a_t_whose, .ref a_t_where, .ref a_t_what, .ref a_t_before, .ref a_t_behind, .ref a_t_isOn, .ref a_t_tryEntries, .ref a_t_tryMarks, .int x_t_size, .ref a_t_text, .int x_t_at, .int x_t_sought, .int x_t_found])), (a_t_present, .inl (G.2 0, 8, .inl x_t_present)), (a_t_behind, .inl (G.2 0, 600, .inl x_t_behind)), (a_t_isOn, .inl (G.2 1, 600, .inl x_t_isOn))]
def fb_Md_walk_L7 (fu : Nat) (x_t_thrown : Int32) (x_t_places : Int32) (x_t_persons : Int32) (x_t_many : Int32) (x_t_size : Int32) (x_t_at : Int32) (x_t_sought : Int32) (x_t_found : Int32) (x_t_present : Nat → Int32) (x_t_behind : Nat → Int32)  (k7 : (Int32 → Int32 → (Nat → Int32) → Option ((Nat → Int32)))) (l7_1 : Int32) (l7_2 : Int32) (x_t_isOn_7 : Nat → Int32) : Option ((Nat → Int32)) :=
  (if l7_2 < 0 then some x_t_isOn_7 else (if inB l7_2 600 then (if inB l7_2 600 then (k7 l7_1 (x_t_behind l7_2.toNatClampNeg) (upd x_t_isOn_7 l7_2.toNatClampNeg (vp_nar .boolean (1 : Int32)))) else none) else none))
def f_Md_walk_L7 (fu : Nat) (x_t_thrown : Int32) (x_t_places : Int32) (x_t_persons : Int32) (x_t_many : Int32) (x_t_size : Int32) (x_t_at : Int32) (x_t_sought : Int32) (x_t_found : Int32) (x_t_present : Nat → Int32) (x_t_behind : Nat → Int32)  : Nat → Int32 → Int32 → (Nat → Int32) → Option ((Nat → Int32))
  | 0 => fun _ _ _ => none
  | k9 + 1 => fb_Md_walk_L7 fu x_t_thrown x_t_places x_t_persons x_t_many x_t_size x_t_at x_t_sought x_t_found x_t_present x_t_behind (f_Md_walk_L7 fu x_t_thrown x_t_places x_t_persons x_t_many x_t_size x_t_at x_t_sought x_t_found x_t_present x_t_behind k9)
def f_Md_walk (fu : Nat)  (p0 : Int32) (x_t_thrown : Int32) (x_t_places : Int32) (x_t_persons : Int32) (x_t_many : Int32) (x_t_size : Int32) (x_t_at : Int32) (x_t_sought : Int32) (x_t_found : Int32) (x_t_present : Nat → Int32) (x_t_behind : Nat → Int32) (x_t_isOn : Nat → Int32) : Option ((Nat → Int32)) :=
  (if inB p0 8 then (f_Md_walk_L7 fu x_t_thrown x_t_places x_t_persons x_t_many x_t_size x_t_at x_t_sought x_t_found x_t_present x_t_behind fu p0 (x_t_present p0.toNatClampNeg) x_t_isOn) else none)
set_option maxHeartbeats 4000000 in
set_option maxRecDepth 100000 in
theorem c_Md_walk (l : Launch) (G : gG) (sz : Nat) (a_t a_t_truth a_t_entries a_t_marked a_t_helped a_t_counted a_t_told a_t_runs a_t_whose a_t_where a_t_what a_t_before a_t_tryEntries a_t_tryMarks a_t_text a_t_present a_t_behind a_t_isOn : Nat) (fu : Nat)  (p0 : Int32) (x_t_thrown : Int32) (x_t_places : Int32) (x_t_persons : Int32) (x_t_many : Int32) (x_t_size : Int32) (x_t_at : Int32) (x_t_sought : Int32) (x_t_found : Int32) (x_t_present : Nat → Int32) (x_t_behind : Nat → Int32) (x_t_isOn : Nat → Int32) (x_t_isOn' : Nat → Int32) (h : f_Md_walk fu p0 x_t_thrown x_t_places x_t_persons x_t_many x_t_size x_t_at x_t_sought x_t_found x_t_present x_t_behind x_t_isOn = some x_t_isOn')  : cN l y_Md_walk w_Md_walk { frames := 0, cells := 0, slots := 0, locals := 0 } G sz [.ref a_t, .int p0] (ws_Md_walk G a_t a_t_truth a_t_entries a_t_marked a_t_helped a_t_counted a_t_told a_t_runs a_t_whose a_t_where a_t_what a_t_before a_t_tryEntries a_t_tryMarks a_t_text a_t_present a_t_behind a_t_isOn x_t_thrown x_t_places x_t_persons x_t_many x_t_size x_t_at x_t_sought x_t_found x_t_present x_t_behind x_t_isOn) none (wB G (ws_Md_walk G a_t a_t_truth a_t_entries a_t_marked a_t_helped a_t_counted a_t_told a_t_runs a_t_whose a_t_where a_t_what a_t_before a_t_tryEntries a_t_tryMarks a_t_text a_t_present a_t_behind a_t_isOn x_t_thrown x_t_places x_t_persons x_t_many x_t_size x_t_at x_t_sought x_t_found x_t_present x_t_behind x_t_isOn')) 0 0 := by
  refine cN_ofW (cc := prog_8_method_25_code) (maxL := 3) (ret := none) (by decide) rfl (Nat.le_of_ble_eq_true rfl) ?_
  intro p e s m args below meth c A H locs ls hx hb hr hts hown hlocks hin hml hK hN hP hD hA hS hl
  replace hl : lv_has ls 3 [(0, .ref a_t), (1, .int p0)] := hl
  replace hown : s.vm.findClass "PlayStatesModel" = some m.cls := hown
  unfold f_Md_walk at h
  refine lv_aload_n hx hb d_Md_walk_0 rfl (lv_at hl 0 rfl) ?_
  refine va_get (D := G.1) (ci := 6) (v := .ref a_t_present) (C := "PlayStatesModel") (T := TMd) (N := 25) hx hb hts iw_6 hown hK hP 0 rfl rfl 6 (by decide) (hts _ gw_385) (fun _ h9 => h9) rfl d_Md_walk_1 ?_
  refine lv_iload_n hx hb d_Md_walk_4 rfl (lv_at hl 1 rfl) ?_
  obtain ⟨i1, h⟩ := o_if h
  refine va_iald (n := 8) (f := x_t_present) hx hb hK hP 1 0 rfl rfl i1 d_Md_walk_5 ?_
  refine lv_istore_n (lv' := [(2, .int (x_t_present p0.toNatClampNeg)), (0, .ref a_t), (1, .int p0)]) hx hb d_Md_walk_6 rfl hl (by decide) rfl (fun ls hl => ?_)
  have L7 : ∀ (nf : Nat) (l7_1 : Int32) (l7_2 : Int32) (x_t_isOn_7 : Nat → Int32) (H : Heap) (locs : List Loc) (ls : Array Slot), f_Md_walk_L7 fu x_t_thrown x_t_places x_t_persons x_t_many x_t_size x_t_at x_t_sought x_t_found x_t_present x_t_behind nf l7_1 l7_2 x_t_isOn_7 = some x_t_isOn' → va_P G.1 vwCl (ws_Md_walk G a_t a_t_truth a_t_entries a_t_marked a_t_helped a_t_counted a_t_told a_t_runs a_t_whose a_t_where a_t_what a_t_before a_t_tryEntries a_t_tryMarks a_t_text a_t_present a_t_behind a_t_isOn x_t_thrown x_t_places x_t_persons x_t_many x_t_size x_t_at x_t_sought x_t_found x_t_present x_t_behind x_t_isOn_7) H → va_D A (ws_Md_walk G a_t a_t_truth a_t_entries a_t_marked a_t_helped a_t_counted a_t_told a_t_runs a_t_whose a_t_where a_t_what a_t_before a_t_tryEntries a_t_tryMarks a_t_text a_t_present a_t_behind a_t_isOn x_t_thrown x_t_places x_t_persons x_t_many x_t_size x_t_at x_t_sought x_t_found x_t_present x_t_behind x_t_isOn_7) → va_S A s.heap H locs → lv_has ls 3 [(0, .ref a_t), (1, .int l7_1), (2, .int l7_2)] → W p l e { frames := 0, cells := 0, slots := 0, locals := 0 } s m args below meth c H locs 0 0 (MQ below (qQ none (wB G (ws_Md_walk G a_t a_t_truth a_t_entries a_t_marked a_t_helped a_t_counted a_t_told a_t_runs a_t_whose a_t_where a_t_what a_t_before a_t_tryEntries a_t_tryMarks a_t_text a_t_present a_t_behind a_t_isOn x_t_thrown x_t_places x_t_persons x_t_many x_t_size x_t_at x_t_sought x_t_found x_t_present x_t_behind x_t_isOn') A) A) args s 0 0 A) (F0 m 7 ls []) := by
    clear h hP hD hS hl
    intro n7
    induction n7 with
    | zero => intro _ _ _ H locs ls h; exact nomatch (show none = some _ from h)
    | succ n7 ih7 =>
      intro l7_1 l7_2 x_t_isOn_7 H locs ls h hP hD hS hl
      replace h : fb_Md_walk_L7 fu x_t_thrown x_t_places x_t_persons x_t_many x_t_size x_t_at x_t_sought x_t_found x_t_present x_t_behind (f_Md_walk_L7 fu x_t_thrown x_t_places x_t_persons x_t_many x_t_size x_t_at x_t_sought x_t_found x_t_present x_t_behind n7) l7_1 l7_2 x_t_isOn_7 = some x_t_isOn' := h
      unfold fb_Md_walk_L7 at h
      refine lv_iload_n hx hb d_Md_walk_7 rfl (lv_at hl 2 rfl) ?_
      refine lv_if_lt (tgt := 28) hx hb d_Md_walk_8 (by decide) (fun c2 => ?_) (fun c2 => ?_)
      · replace h := (if_pos c2).symm.trans h
        cases h
        exact q_vretW hx hb hr hlocks hP hD hS d_Md_walk_28
      · replace h := (if_neg c2).symm.trans h
        refine lv_aload_n hx hb d_Md_walk_11 rfl (lv_at hl 0 rfl) ?_
        refine va_get (D := G.1) (ci := 6) (v := .ref a_t_isOn) (C := "PlayStatesModel") (T := TMd) (N := 25) hx hb hts iw_6 hown hK hP 0 rfl rfl 17 (by decide) (hts _ gw_396) (fun _ h9 => h9) rfl d_Md_walk_12 ?_
        refine lv_iload_n hx hb d_Md_walk_15 rfl (lv_at hl 2 rfl) ?_
        refine lv_iconst (v := (1 : Int32)) hx hb d_Md_walk_16 (by decide) ?_
        obtain ⟨i3, h⟩ := o_if h
        refine va_zast (n := 600) (f := x_t_isOn_7) hx hb hK hP hD hS 3 1 rfl rfl i3 d_Md_walk_17 (fun H locs hP hD hS => ?_)
        replace hP : va_P G.1 vwCl (ws_Md_walk G a_t a_t_truth a_t_entries a_t_marked a_t_helped a_t_counted a_t_told a_t_runs a_t_whose a_t_where a_t_what a_t_before a_t_tryEntries a_t_tryMarks a_t_text a_t_present a_t_behind a_t_isOn x_t_thrown x_t_places x_t_persons x_t_many x_t_size x_t_at x_t_sought x_t_found x_t_present x_t_behind (upd x_t_isOn_7 l7_2.toNatClampNeg (vp_nar .boolean (1 : Int32)))) H := hP
        replace hD : va_D A (ws_Md_walk G a_t a_t_truth a_t_entries a_t_marked a_t_helped a_t_counted a_t_told a_t_runs a_t_whose a_t_where a_t_what a_t_before a_t_tryEntries a_t_tryMarks a_t_text a_t_present a_t_behind a_t_isOn x_t_thrown x_t_places x_t_persons x_t_many x_t_size x_t_at x_t_sought x_t_found x_t_present x_t_behind (upd x_t_isOn_7 l7_2.toNatClampNeg (vp_nar .boolean (1 : Int32)))) := hD
        refine lv_aload_n hx hb d_Md_walk_18 rfl (lv_at hl 0 rfl) ?_
        refine va_get (D := G.1) (ci := 6) (v := .ref a_t_behind) (C := "PlayStatesModel") (T := TMd) (N := 25) hx hb hts iw_6 hown hK hP 0 rfl rfl 16 (by decide) (hts _ gw_395) (fun _ h9 => h9) rfl d_Md_walk_19 ?_
        refine lv_iload_n hx hb d_Md_walk_22 rfl (lv_at hl 2 rfl) ?_
        obtain ⟨i4, h⟩ := o_if h
        refine va_iald (n := 600) (f := x_t_behind) hx hb hK hP 2 0 rfl rfl i4 d_Md_walk_23 ?_
        refine lv_istore_n (lv' := [(2, .int (x_t_behind l7_2.toNatClampNeg)), (0, .ref a_t), (1, .int l7_1)]) hx hb d_Md_walk_24 rfl hl (by decide) rfl (fun ls hl => ?_)
        refine lv_goto (tgt := 7) hx hb d_Md_walk_25 (by decide) ?_
        exact ih7 l7_1 (x_t_behind l7_2.toNatClampNeg) (upd x_t_isOn_7 l7_2.toNatClampNeg (vp_nar .boolean (1 : Int32))) _ _ _ h hP hD hS (lv_sub hl [1, 2, 0] rfl)
  exact L7 fu p0 (x_t_present p0.toNatClampNeg) x_t_isOn _ _ _ h hP hD hS (lv_sub hl [1, 2, 0] rfl)

theorem d_Md_changes_0 : decode prog_8_method_26_code 0 = .ok (.aload_n 0, 1) := by decide +kernel
theorem d_Md_changes_1 : decode prog_8_method_26_code 1 = .ok (.getfield 39, 3) := by decide +kernel
theorem d_Md_changes_4 : decode prog_8_method_26_code 4 = .ok (.iload_n 1, 1) := by decide +kernel
theorem d_Md_changes_5 : decode prog_8_method_26_code 5 = .ok (.iaload, 1) := by decide +kernel
theorem d_Md_changes_6 : decode prog_8_method_26_code 6 = .ok (.istore_n 2, 1) := by decide +kernel
theorem d_Md_changes_7 : decode prog_8_method_26_code 7 = .ok (.aload_n 0, 1) := by decide +kernel
theorem d_Md_changes_8 : decode prog_8_method_26_code 8 = .ok (.getfield 42, 3) := by decide +kernel
theorem d_Md_changes_11 : decode prog_8_method_26_code 11 = .ok (.iload_n 1, 1) := by decide +kernel
theorem d_Md_changes_12 : decode prog_8_method_26_code 12 = .ok (.iaload, 1) := by decide +kernel
theorem d_Md_changes_13 : decode prog_8_method_26_code 13 = .ok (.istore_n 3, 1) := by decide +kernel
theorem d_Md_changes_14 : decode prog_8_method_26_code 14 = .ok (.iload_n 3, 1) := by decide +kernel
theorem d_Md_changes_15 : decode prog_8_method_26_code 15 = .ok (.bipush 10, 2) := by decide +kernel
theorem d_Md_changes_17 : decode prog_8_method_26_code 17 = .ok (.if_icmp .ge 12, 3) := by decide +kernel
theorem d_Md_changes_20 : decode prog_8_method_26_code 20 = .ok (.aload_n 0, 1) := by decide +kernel
theorem d_Md_changes_21 : decode prog_8_method_26_code 21 = .ok (.getfield 54, 3) := by decide +kernel
theorem d_Md_changes_24 : decode prog_8_method_26_code 24 = .ok (.iload_n 2, 1) := by decide +kernel
theorem d_Md_changes_25 : decode prog_8_method_26_code 25 = .ok (.iaload, 1) := by decide +kernel
theorem d_Md_changes_26 : decode prog_8_method_26_code 26 = .ok (.goto 9, 3) := by decide +kernel
theorem d_Md_changes_29 : decode prog_8_method_26_code 29 = .ok (.aload_n 0, 1) := by decide +kernel
theorem d_Md_changes_30 : decode prog_8_method_26_code 30 = .ok (.getfield 57, 3) := by decide +kernel
theorem d_Md_changes_33 : decode prog_8_method_26_code 33 = .ok (.iload_n 2, 1) := by decide +kernel
theorem d_Md_changes_34 : decode prog_8_method_26_code 34 = .ok (.iaload, 1) := by decide +kernel
theorem d_Md_changes_35 : decode prog_8_method_26_code 35 = .ok (.istore 4, 2) := by decide +kernel
theorem d_Md_changes_37 : decode prog_8_method_26_code 37 = .ok (.iload_n 3, 1) := by decide +kernel
theorem d_Md_changes_38 : decode prog_8_method_26_code 38 = .ok (.bipush 10, 2) := by decide +kernel
theorem d_Md_changes_40 : decode prog_8_method_26_code 40 = .ok (.if_icmp .ge 13, 3) := by decide +kernel
theorem d_Md_changes_43 : decode prog_8_method_26_code 43 = .ok (.aload_n 0, 1) := by decide +kernel
theorem d_Md_changes_44 : decode prog_8_method_26_code 44 = .ok (.getfield 54, 3) := by decide +kernel
theorem d_Md_changes_47 : decode prog_8_method_26_code 47 = .ok (.iload_n 2, 1) := by decide +kernel
theorem d_Md_changes_48 : decode prog_8_method_26_code 48 = .ok (.iload_n 3, 1) := by decide +kernel
theorem d_Md_changes_49 : decode prog_8_method_26_code 49 = .ok (.iastore, 1) := by decide +kernel
theorem d_Md_changes_50 : decode prog_8_method_26_code 50 = .ok (.goto 52, 3) := by decide +kernel
theorem d_Md_changes_53 : decode prog_8_method_26_code 53 = .ok (.iload_n 3, 1) := by decide +kernel
theorem d_Md_changes_54 : decode prog_8_method_26_code 54 = .ok (.bipush 20, 2) := by decide +kernel
theorem d_Md_changes_56 : decode prog_8_method_26_code 56 = .ok (.if_icmp .ge 25, 3) := by decide +kernel
theorem d_Md_changes_59 : decode prog_8_method_26_code 59 = .ok (.aload_n 0, 1) := by decide +kernel
theorem d_Md_changes_60 : decode prog_8_method_26_code 60 = .ok (.getfield 57, 3) := by decide +kernel
theorem d_Md_changes_63 : decode prog_8_method_26_code 63 = .ok (.iload_n 2, 1) := by decide +kernel
theorem d_Md_changes_64 : decode prog_8_method_26_code 64 = .ok (.aload_n 0, 1) := by decide +kernel
theorem d_Md_changes_65 : decode prog_8_method_26_code 65 = .ok (.getfield 57, 3) := by decide +kernel
theorem d_Md_changes_68 : decode prog_8_method_26_code 68 = .ok (.iload_n 2, 1) := by decide +kernel
theorem d_Md_changes_69 : decode prog_8_method_26_code 69 = .ok (.iaload, 1) := by decide +kernel
theorem d_Md_changes_70 : decode prog_8_method_26_code 70 = .ok (.iconst 1, 1) := by decide +kernel
theorem d_Md_changes_71 : decode prog_8_method_26_code 71 = .ok (.iload_n 3, 1) := by decide +kernel
theorem d_Md_changes_72 : decode prog_8_method_26_code 72 = .ok (.bipush 10, 2) := by decide +kernel
theorem d_Md_changes_74 : decode prog_8_method_26_code 74 = .ok (.isub, 1) := by decide +kernel
theorem d_Md_changes_75 : decode prog_8_method_26_code 75 = .ok (.ishl, 1) := by decide +kernel
theorem d_Md_changes_76 : decode prog_8_method_26_code 76 = .ok (.ior, 1) := by decide +kernel
theorem d_Md_changes_77 : decode prog_8_method_26_code 77 = .ok (.iastore, 1) := by decide +kernel
theorem d_Md_changes_78 : decode prog_8_method_26_code 78 = .ok (.goto 24, 3) := by decide +kernel
theorem d_Md_changes_81 : decode prog_8_method_26_code 81 = .ok (.aload_n 0, 1) := by decide +kernel
theorem d_Md_changes_82 : decode prog_8_method_26_code 82 = .ok (.getfield 57, 3) := by decide +kernel
theorem d_Md_changes_85 : decode prog_8_method_26_code 85 = .ok (.iload_n 2, 1) := by decide +kernel
theorem d_Md_changes_86 : decode prog_8_method_26_code 86 = .ok (.aload_n 0, 1) := by decide +kernel
theorem d_Md_changes_87 : decode prog_8_method_26_code 87 = .ok (.getfield 57, 3) := by decide +kernel
theorem d_Md_changes_90 : decode prog_8_method_26_code 90 = .ok (.iload_n 2, 1) := by decide +kernel
theorem d_Md_changes_91 : decode prog_8_method_26_code 91 = .ok (.iaload, 1) := by decide +kernel
theorem d_Md_changes_92 : decode prog_8_method_26_code 92 = .ok (.iconst 1, 1) := by decide +kernel
theorem d_Md_changes_93 : decode prog_8_method_26_code 93 = .ok (.iload_n 3, 1) := by decide +kernel
theorem d_Md_changes_94 : decode prog_8_method_26_code 94 = .ok (.bipush 20, 2) := by decide +kernel
theorem d_Md_changes_96 : decode prog_8_method_26_code 96 = .ok (.isub, 1) := by decide +kernel
theorem d_Md_changes_97 : decode prog_8_method_26_code 97 = .ok (.ishl, 1) := by decide +kernel
theorem d_Md_changes_98 : decode prog_8_method_26_code 98 = .ok (.iconst (-1), 1) := by decide +kernel
theorem d_Md_changes_99 : decode prog_8_method_26_code 99 = .ok (.ixor, 1) := by decide +kernel
theorem d_Md_changes_100 : decode prog_8_method_26_code 100 = .ok (.iand, 1) := by decide +kernel
theorem d_Md_changes_101 : decode prog_8_method_26_code 101 = .ok (.iastore, 1) := by decide +kernel
theorem d_Md_changes_102 : decode prog_8_method_26_code 102 = .ok (.iload 4, 2) := by decide +kernel
theorem d_Md_changes_104 : decode prog_8_method_26_code 104 = .ok (.iload_n 3, 1) := by decide +kernel
theorem d_Md_changes_105 : decode prog_8_method_26_code 105 = .ok (.bipush 10, 2) := by decide +kernel
theorem d_Md_changes_107 : decode prog_8_method_26_code 107 = .ok (.if_icmp .ge 12, 3) := by decide +kernel
theorem d_Md_changes_110 : decode prog_8_method_26_code 110 = .ok (.aload_n 0, 1) := by decide +kernel
theorem d_Md_changes_111 : decode prog_8_method_26_code 111 = .ok (.getfield 54, 3) := by decide +kernel
theorem d_Md_changes_114 : decode prog_8_method_26_code 114 = .ok (.iload_n 2, 1) := by decide +kernel
theorem d_Md_changes_115 : decode prog_8_method_26_code 115 = .ok (.iaload, 1) := by decide +kernel
theorem d_Md_changes_116 : decode prog_8_method_26_code 116 = .ok (.goto 9, 3) := by decide +kernel
theorem d_Md_changes_119 : decode prog_8_method_26_code 119 = .ok (.aload_n 0, 1) := by decide +kernel
theorem d_Md_changes_120 : decode prog_8_method_26_code 120 = .ok (.getfield 57, 3) := by decide +kernel
theorem d_Md_changes_123 : decode prog_8_method_26_code 123 = .ok (.iload_n 2, 1) := by decide +kernel
theorem d_Md_changes_124 : decode prog_8_method_26_code 124 = .ok (.iaload, 1) := by decide +kernel
theorem d_Md_changes_125 : decode prog_8_method_26_code 125 = .ok (.if_icmp .eq 7, 3) := by decide +kernel
theorem d_Md_changes_128 : decode prog_8_method_26_code 128 = .ok (.iconst 1, 1) := by decide +kernel
theorem d_Md_changes_129 : decode prog_8_method_26_code 129 = .ok (.goto 4, 3) := by decide +kernel
theorem d_Md_changes_132 : decode prog_8_method_26_code 132 = .ok (.iconst 0, 1) := by decide +kernel
theorem d_Md_changes_133 : decode prog_8_method_26_code 133 = .ok (.ireturn, 1) := by decide +kernel
-- PlayStatesModel.changes(I)Z 
def ws_Md_changes (G : gG) (a_t a_t_truth a_t_entries a_t_marked a_t_present a_t_helped a_t_counted a_t_told a_t_runs a_t_whose a_t_before a_t_behind a_t_isOn a_t_text a_t_where a_t_what a_t_tryEntries a_t_tryMarks : Nat)  (x_t_thrown : Int32) (x_t_places : Int32) (x_t_persons : Int32) (x_t_many : Int32) (x_t_size : Int32) (x_t_at : Int32) (x_t_sought : Int32) (x_t_found : Int32) (x_t_where : Nat → Int32) (x_t_what : Nat → Int32) (x_t_tryEntries : Nat → Int32) (x_t_tryMarks : Nat → Int32) : va_W := [(a_t, .inr (6, [.int x_t_thrown, .int x_t_places, .int x_t_persons, .ref a_t_truth, .ref a_t_entries, .ref a_t_marked, .ref a_t_present, .ref a_t_helped, .ref a_t_counted, .ref a_t_told, .ref a_t_runs, .int x_t_many, .ref a_t_whose, .ref a_t_where, .ref a_t_what, .ref a_t_before, .ref a_t_behind, .ref a_t_isOn, .ref a_t_tryEntries, .ref a_t_tryMarks, .int x_t_size, .ref a_t_text, .int x_t_at, .int x_t_sought, .int x_t_found])), (a_t_where, .inl (G.2 0, 600, .inl x_t_where)), (a_t_what, .inl (G.2 0, 600, .inl x_t_what)), (a_t_tryEntries, .inl (G.2 0, 81, .inl x_t_tryEntries)), (a_t_tryMarks, .inl (G.2 0, 81, .inl x_t_tryMarks))]
def f_Md_changes  (p0 : Int32) (x_t_thrown : Int32) (x_t_places : Int32) (x_t_persons : Int32) (x_t_many : Int32) (x_t_size : Int32) (x_t_at : Int32) (x_t_sought : Int32) (x_t_found : Int32) (x_t_where : Nat → Int32) (x_t_what : Nat → Int32) (x_t_tryEntries : Nat → Int32) (x_t_tryMarks : Nat → Int32) : Option (Int32 × (Nat → Int32) × (Nat → Int32)) :=
  (if inB p0 600 then (if inB p0 600 then (if (10 : Int32) ≤ (x_t_what p0.toNatClampNeg) then (if inB (x_t_where p0.toNatClampNeg) 81 then (if (10 : Int32) ≤ (x_t_what p0.toNatClampNeg) then (if (20 : Int32) ≤ (x_t_what p0.toNatClampNeg) then (if inB (x_t_where p0.toNatClampNeg) 81 then (if inB (x_t_where p0.toNatClampNeg) 81 then (if (10 : Int32) ≤ (x_t_what p0.toNatClampNeg) then (if inB (x_t_where p0.toNatClampNeg) 81 then (if (x_t_tryMarks (x_t_where p0.toNatClampNeg).toNatClampNeg) = ((upd x_t_tryMarks (x_t_where p0.toNatClampNeg).toNatClampNeg ((x_t_tryMarks (x_t_where p0.toNatClampNeg).toNatClampNeg) &&& (((1 : Int32) <<< (((x_t_what p0.toNatClampNeg) - (20 : Int32)) &&& 31)) ^^^ (-1 : Int32)))) (x_t_where p0.toNatClampNeg).toNatClampNeg) then some ((0 : Int32), x_t_tryEntries, (upd x_t_tryMarks (x_t_where p0.toNatClampNeg).toNatClampNeg ((x_t_tryMarks (x_t_where p0.toNatClampNeg).toNatClampNeg) &&& (((1 : Int32) <<< (((x_t_what p0.toNatClampNeg) - (20 : Int32)) &&& 31)) ^^^ (-1 : Int32))))) else some ((1 : Int32), x_t_tryEntries, (upd x_t_tryMarks (x_t_where p0.toNatClampNeg).toNatClampNeg ((x_t_tryMarks (x_t_where p0.toNatClampNeg).toNatClampNeg) &&& (((1 : Int32) <<< (((x_t_what p0.toNatClampNeg) - (20 : Int32)) &&& 31)) ^^^ (-1 : Int32)))))) else none) else (if inB (x_t_where p0.toNatClampNeg) 81 then (if (x_t_tryMarks (x_t_where p0.toNatClampNeg).toNatClampNeg) = (x_t_tryEntries (x_t_where p0.toNatClampNeg).toNatClampNeg) then some ((0 : Int32), x_t_tryEntries, (upd x_t_tryMarks (x_t_where p0.toNatClampNeg).toNatClampNeg ((x_t_tryMarks (x_t_where p0.toNatClampNeg).toNatClampNeg) &&& (((1 : Int32) <<< (((x_t_what p0.toNatClampNeg) - (20 : Int32)) &&& 31)) ^^^ (-1 : Int32))))) else some ((1 : Int32), x_t_tryEntries, (upd x_t_tryMarks (x_t_where p0.toNatClampNeg).toNatClampNeg ((x_t_tryMarks (x_t_where p0.toNatClampNeg).toNatClampNeg) &&& (((1 : Int32) <<< (((x_t_what p0.toNatClampNeg) - (20 : Int32)) &&& 31)) ^^^ (-1 : Int32)))))) else none)) else none) else none) else (if inB (x_t_where p0.toNatClampNeg) 81 then (if inB (x_t_where p0.toNatClampNeg) 81 then (if (10 : Int32) ≤ (x_t_what p0.toNatClampNeg) then (if inB (x_t_where p0.toNatClampNeg) 81 then (if (x_t_tryMarks (x_t_where p0.toNatClampNeg).toNatClampNeg) = ((upd x_t_tryMarks (x_t_where p0.toNatClampNeg).toNatClampNeg ((x_t_tryMarks (x_t_where p0.toNatClampNeg).toNatClampNeg) ||| ((1 : Int32) <<< (((x_t_what p0.toNatClampNeg) - (10 : Int32)) &&& 31)))) (x_t_where p0.toNatClampNeg).toNatClampNeg) then some ((0 : Int32), x_t_tryEntries, (upd x_t_tryMarks (x_t_where p0.toNatClampNeg).toNatClampNeg ((x_t_tryMarks (x_t_where p0.toNatClampNeg).toNatClampNeg) ||| ((1 : Int32) <<< (((x_t_what p0.toNatClampNeg) - (10 : Int32)) &&& 31))))) else some ((1 : Int32), x_t_tryEntries, (upd x_t_tryMarks (x_t_where p0.toNatClampNeg).toNatClampNeg ((x_t_tryMarks (x_t_where p0.toNatClampNeg).toNatClampNeg) ||| ((1 : Int32) <<< (((x_t_what p0.toNatClampNeg) - (10 : Int32)) &&& 31)))))) else none) else (if inB (x_t_where p0.toNatClampNeg) 81 then (if (x_t_tryMarks (x_t_where p0.toNatClampNeg).toNatClampNeg) = (x_t_tryEntries (x_t_where p0.toNatClampNeg).toNatClampNeg) then some ((0 : Int32), x_t_tryEntries, (upd x_t_tryMarks (x_t_where p0.toNatClampNeg).toNatClampNeg ((x_t_tryMarks (x_t_where p0.toNatClampNeg).toNatClampNeg) ||| ((1 : Int32) <<< (((x_t_what p0.toNatClampNeg) - (10 : Int32)) &&& 31))))) else some ((1 : Int32), x_t_tryEntries, (upd x_t_tryMarks (x_t_where p0.toNatClampNeg).toNatClampNeg ((x_t_tryMarks (x_t_where p0.toNatClampNeg).toNatClampNeg) ||| ((1 : Int32) <<< (((x_t_what p0.toNatClampNeg) - (10 : Int32)) &&& 31)))))) else none)) else none) else none)) else (if inB (x_t_where p0.toNatClampNeg) 81 then (if (10 : Int32) ≤ (x_t_what p0.toNatClampNeg) then (if inB (x_t_where p0.toNatClampNeg) 81 then (if (x_t_tryMarks (x_t_where p0.toNatClampNeg).toNatClampNeg) = (x_t_tryMarks (x_t_where p0.toNatClampNeg).toNatClampNeg) then some ((0 : Int32), (upd x_t_tryEntries (x_t_where p0.toNatClampNeg).toNatClampNeg (x_t_what p0.toNatClampNeg)), x_t_tryMarks) else some ((1 : Int32), (upd x_t_tryEntries (x_t_where p0.toNatClampNeg).toNatClampNeg (x_t_what p0.toNatClampNeg)), x_t_tryMarks)) else none) else (if inB (x_t_where p0.toNatClampNeg) 81 then (if (x_t_tryMarks (x_t_where p0.toNatClampNeg).toNatClampNeg) = ((upd x_t_tryEntries (x_t_where p0.toNatClampNeg).toNatClampNeg (x_t_what p0.toNatClampNeg)) (x_t_where p0.toNatClampNeg).toNatClampNeg) then some ((0 : Int32), (upd x_t_tryEntries (x_t_where p0.toNatClampNeg).toNatClampNeg (x_t_what p0.toNatClampNeg)), x_t_tryMarks) else some ((1 : Int32), (upd x_t_tryEntries (x_t_where p0.toNatClampNeg).toNatClampNeg (x_t_what p0.toNatClampNeg)), x_t_tryMarks)) else none)) else none)) else none) else (if inB (x_t_where p0.toNatClampNeg) 81 then (if (10 : Int32) ≤ (x_t_what p0.toNatClampNeg) then (if (20 : Int32) ≤ (x_t_what p0.toNatClampNeg) then (if inB (x_t_where p0.toNatClampNeg) 81 then (if inB (x_t_where p0.toNatClampNeg) 81 then (if (10 : Int32) ≤ (x_t_what p0.toNatClampNeg) then (if inB (x_t_where p0.toNatClampNeg) 81 then (if (x_t_tryEntries (x_t_where p0.toNatClampNeg).toNatClampNeg) = ((upd x_t_tryMarks (x_t_where p0.toNatClampNeg).toNatClampNeg ((x_t_tryMarks (x_t_where p0.toNatClampNeg).toNatClampNeg) &&& (((1 : Int32) <<< (((x_t_what p0.toNatClampNeg) - (20 : Int32)) &&& 31)) ^^^ (-1 : Int32)))) (x_t_where p0.toNatClampNeg).toNatClampNeg) then some ((0 : Int32), x_t_tryEntries, (upd x_t_tryMarks (x_t_where p0.toNatClampNeg).toNatClampNeg ((x_t_tryMarks (x_t_where p0.toNatClampNeg).toNatClampNeg) &&& (((1 : Int32) <<< (((x_t_what p0.toNatClampNeg) - (20 : Int32)) &&& 31)) ^^^ (-1 : Int32))))) else some ((1 : Int32), x_t_tryEntries, (upd x_t_tryMarks (x_t_where p0.toNatClampNeg).toNatClampNeg ((x_t_tryMarks (x_t_where p0.toNatClampNeg).toNatClampNeg) &&& (((1 : Int32) <<< (((x_t_what p0.toNatClampNeg) - (20 : Int32)) &&& 31)) ^^^ (-1 : Int32)))))) else none) else (if inB (x_t_where p0.toNatClampNeg) 81 then (if (x_t_tryEntries (x_t_where p0.toNatClampNeg).toNatClampNeg) = (x_t_tryEntries (x_t_where p0.toNatClampNeg).toNatClampNeg) then some ((0 : Int32), x_t_tryEntries, (upd x_t_tryMarks (x_t_where p0.toNatClampNeg).toNatClampNeg ((x_t_tryMarks (x_t_where p0.toNatClampNeg).toNatClampNeg) &&& (((1 : Int32) <<< (((x_t_what p0.toNatClampNeg) - (20 : Int32)) &&& 31)) ^^^ (-1 : Int32))))) else some ((1 : Int32), x_t_tryEntries, (upd x_t_tryMarks (x_t_where p0.toNatClampNeg).toNatClampNeg ((x_t_tryMarks (x_t_where p0.toNatClampNeg).toNatClampNeg) &&& (((1 : Int32) <<< (((x_t_what p0.toNatClampNeg) - (20 : Int32)) &&& 31)) ^^^ (-1 : Int32)))))) else none)) else none) else none) else (if inB (x_t_where p0.toNatClampNeg) 81 then (if inB (x_t_where p0.toNatClampNeg) 81 then (if (10 : Int32) ≤ (x_t_what p0.toNatClampNeg) then (if inB (x_t_where p0.toNatClampNeg) 81 then (if (x_t_tryEntries (x_t_where p0.toNatClampNeg).toNatClampNeg) = ((upd x_t_tryMarks (x_t_where p0.toNatClampNeg).toNatClampNeg ((x_t_tryMarks (x_t_where p0.toNatClampNeg).toNatClampNeg) ||| ((1 : Int32) <<< (((x_t_what p0.toNatClampNeg) - (10 : Int32)) &&& 31)))) (x_t_where p0.toNatClampNeg).toNatClampNeg) then some ((0 : Int32), x_t_tryEntries, (upd x_t_tryMarks (x_t_where p0.toNatClampNeg).toNatClampNeg ((x_t_tryMarks (x_t_where p0.toNatClampNeg).toNatClampNeg) ||| ((1 : Int32) <<< (((x_t_what p0.toNatClampNeg) - (10 : Int32)) &&& 31))))) else some ((1 : Int32), x_t_tryEntries, (upd x_t_tryMarks (x_t_where p0.toNatClampNeg).toNatClampNeg ((x_t_tryMarks (x_t_where p0.toNatClampNeg).toNatClampNeg) ||| ((1 : Int32) <<< (((x_t_what p0.toNatClampNeg) - (10 : Int32)) &&& 31)))))) else none) else (if inB (x_t_where p0.toNatClampNeg) 81 then (if (x_t_tryEntries (x_t_where p0.toNatClampNeg).toNatClampNeg) = (x_t_tryEntries (x_t_where p0.toNatClampNeg).toNatClampNeg) then some ((0 : Int32), x_t_tryEntries, (upd x_t_tryMarks (x_t_where p0.toNatClampNeg).toNatClampNeg ((x_t_tryMarks (x_t_where p0.toNatClampNeg).toNatClampNeg) ||| ((1 : Int32) <<< (((x_t_what p0.toNatClampNeg) - (10 : Int32)) &&& 31))))) else some ((1 : Int32), x_t_tryEntries, (upd x_t_tryMarks (x_t_where p0.toNatClampNeg).toNatClampNeg ((x_t_tryMarks (x_t_where p0.toNatClampNeg).toNatClampNeg) ||| ((1 : Int32) <<< (((x_t_what p0.toNatClampNeg) - (10 : Int32)) &&& 31)))))) else none)) else none) else none)) else (if inB (x_t_where p0.toNatClampNeg) 81 then (if (10 : Int32) ≤ (x_t_what p0.toNatClampNeg) then (if inB (x_t_where p0.toNatClampNeg) 81 then (if (x_t_tryEntries (x_t_where p0.toNatClampNeg).toNatClampNeg) = (x_t_tryMarks (x_t_where p0.toNatClampNeg).toNatClampNeg) then some ((0 : Int32), (upd x_t_tryEntries (x_t_where p0.toNatClampNeg).toNatClampNeg (x_t_what p0.toNatClampNeg)), x_t_tryMarks) else some ((1 : Int32), (upd x_t_tryEntries (x_t_where p0.toNatClampNeg).toNatClampNeg (x_t_what p0.toNatClampNeg)), x_t_tryMarks)) else none) else (if inB (x_t_where p0.toNatClampNeg) 81 then (if (x_t_tryEntries (x_t_where p0.toNatClampNeg).toNatClampNeg) = ((upd x_t_tryEntries (x_t_where p0.toNatClampNeg).toNatClampNeg (x_t_what p0.toNatClampNeg)) (x_t_where p0.toNatClampNeg).toNatClampNeg) then some ((0 : Int32), (upd x_t_tryEntries (x_t_where p0.toNatClampNeg).toNatClampNeg (x_t_what p0.toNatClampNeg)), x_t_tryMarks) else some ((1 : Int32), (upd x_t_tryEntries (x_t_where p0.toNatClampNeg).toNatClampNeg (x_t_what p0.toNatClampNeg)), x_t_tryMarks)) else none)) else none)) else none)) else none) else none)
set_option maxHeartbeats 4000000 in
set_option maxRecDepth 100000 in
theorem c_Md_changes (l : Launch) (G : gG) (sz : Nat) (a_t a_t_truth a_t_entries a_t_marked a_t_present a_t_helped a_t_counted a_t_told a_t_runs a_t_whose a_t_before a_t_behind a_t_isOn a_t_text a_t_where a_t_what a_t_tryEntries a_t_tryMarks : Nat)  (p0 : Int32) (x_t_thrown : Int32) (x_t_places : Int32) (x_t_persons : Int32) (x_t_many : Int32) (x_t_size : Int32) (x_t_at : Int32) (x_t_sought : Int32) (x_t_found : Int32) (x_t_where : Nat → Int32) (x_t_what : Nat → Int32) (x_t_tryEntries : Nat → Int32) (x_t_tryMarks : Nat → Int32) (r : Int32) (x_t_tryEntries' : Nat → Int32) (x_t_tryMarks' : Nat → Int32) (h : f_Md_changes p0 x_t_thrown x_t_places x_t_persons x_t_many x_t_size x_t_at x_t_sought x_t_found x_t_where x_t_what x_t_tryEntries x_t_tryMarks = some (r, x_t_tryEntries', x_t_tryMarks'))  : cN l y_Md_changes w_Md_changes { frames := 0, cells := 0, slots := 0, locals := 0 } G sz [.ref a_t, .int p0] (ws_Md_changes G a_t a_t_truth a_t_entries a_t_marked a_t_present a_t_helped a_t_counted a_t_told a_t_runs a_t_whose a_t_before a_t_behind a_t_isOn a_t_text a_t_where a_t_what a_t_tryEntries a_t_tryMarks x_t_thrown x_t_places x_t_persons x_t_many x_t_size x_t_at x_t_sought x_t_found x_t_where x_t_what x_t_tryEntries x_t_tryMarks) (some (.int r)) (wB G (ws_Md_changes G a_t a_t_truth a_t_entries a_t_marked a_t_present a_t_helped a_t_counted a_t_told a_t_runs a_t_whose a_t_before a_t_behind a_t_isOn a_t_text a_t_where a_t_what a_t_tryEntries a_t_tryMarks x_t_thrown x_t_places x_t_persons x_t_many x_t_size x_t_at x_t_sought x_t_found x_t_where x_t_what x_t_tryEntries' x_t_tryMarks')) 0 0 := by
  refine cN_ofW (cc := prog_8_method_26_code) (maxL := 5) (ret := (some .boolean)) (by decide) rfl (Nat.le_of_ble_eq_true rfl) ?_
  intro p e s m args below meth c A H locs ls hx hb hr hts hown hlocks hin hml hK hN hP hD hA hS hl
  replace hl : lv_has ls 5 [(0, .ref a_t), (1, .int p0)] := hl
  replace hown : s.vm.findClass "PlayStatesModel" = some m.cls := hown
  unfold f_Md_changes at h
  refine lv_aload_n hx hb d_Md_changes_0 rfl (lv_at hl 0 rfl) ?_
  refine va_get (D := G.1) (ci := 6) (v := .ref a_t_where) (C := "PlayStatesModel") (T := TMd) (N := 25) hx hb hts iw_6 hown hK hP 0 rfl rfl 13 (by decide) (hts _ gw_392) (fun _ h9 => h9) rfl d_Md_changes_1 ?_
  refine lv_iload_n hx hb d_Md_changes_4 rfl (lv_at hl 1 rfl) ?_
  obtain ⟨i1, h⟩ := o_if h
  refine va_iald (n := 600) (f := x_t_where) hx hb hK hP 1 0 rfl rfl i1 d_Md_changes_5 ?_
  refine lv_istore_n (lv' := [(2, .int (x_t_where p0.toNatClampNeg)), (0, .ref a_t), (1, .int p0)]) hx hb d_Md_changes_6 rfl hl (by decide) rfl (fun ls hl => ?_)
  refine lv_aload_n hx hb d_Md_changes_7 rfl (lv_at hl 1 rfl) ?_
  refine va_get (D := G.1) (ci := 6) (v := .ref a_t_what) (C := "PlayStatesModel") (T := TMd) (N := 25) hx hb hts iw_6 hown hK hP 0 rfl rfl 14 (by decide) (hts _ gw_393) (fun _ h9 => h9) rfl d_Md_changes_8 ?_
  refine lv_iload_n hx hb d_Md_changes_11 rfl (lv_at hl 2 rfl) ?_
  obtain ⟨i2, h⟩ := o_if h
  refine va_iald (n := 600) (f := x_t_what) hx hb hK hP 2 0 rfl rfl i2 d_Md_changes_12 ?_
  refine lv_istore_n (lv' := [(3, .int (x_t_what p0.toNatClampNeg)), (2, .int (x_t_where p0.toNatClampNeg)), (0, .ref a_t), (1, .int p0)]) hx hb d_Md_changes_13 rfl hl (by decide) rfl (fun ls hl => ?_)
  refine lv_iload_n hx hb d_Md_changes_14 rfl (lv_at hl 0 rfl) ?_
  refine lv_bipush (v := (10 : Int32)) hx hb d_Md_changes_15 (by decide) ?_
  refine lv_icmp_ge (tgt := 29) hx hb d_Md_changes_17 (by decide) (fun c3 => ?_) (fun c3 => ?_)
  · replace h := (if_pos c3).symm.trans h
    refine lv_aload_n hx hb d_Md_changes_29 rfl (lv_at hl 2 rfl) ?_
    refine va_get (D := G.1) (ci := 6) (v := .ref a_t_tryMarks) (C := "PlayStatesModel") (T := TMd) (N := 25) hx hb hts iw_6 hown hK hP 0 rfl rfl 19 (by decide) (hts _ gw_398) (fun _ h9 => h9) rfl d_Md_changes_30 ?_
    refine lv_iload_n hx hb d_Md_changes_33 rfl (lv_at hl 1 rfl) ?_
    obtain ⟨i4, h⟩ := o_if h
    refine va_iald (n := 81) (f := x_t_tryMarks) hx hb hK hP 4 0 rfl rfl i4 d_Md_changes_34 ?_
    refine lv_istore (lv' := [(4, .int (x_t_tryMarks (x_t_where p0.toNatClampNeg).toNatClampNeg)), (3, .int (x_t_what p0.toNatClampNeg)), (2, .int (x_t_where p0.toNatClampNeg)), (0, .ref a_t), (1, .int p0)]) hx hb d_Md_changes_35 hl (by decide) rfl (fun ls hl => ?_)
    refine lv_iload_n hx hb d_Md_changes_37 rfl (lv_at hl 1 rfl) ?_
    refine lv_bipush (v := (10 : Int32)) hx hb d_Md_changes_38 (by decide) ?_
    refine lv_icmp_ge (tgt := 53) hx hb d_Md_changes_40 (by decide) (fun c5 => ?_) (fun c5 => ?_)
    · replace h := (if_pos c5).symm.trans h
      refine lv_iload_n hx hb d_Md_changes_53 rfl (lv_at hl 1 rfl) ?_
      refine lv_bipush (v := (20 : Int32)) hx hb d_Md_changes_54 (by decide) ?_
      refine lv_icmp_ge (tgt := 81) hx hb d_Md_changes_56 (by decide) (fun c6 => ?_) (fun c6 => ?_)
      · replace h := (if_pos c6).symm.trans h
        refine lv_aload_n hx hb d_Md_changes_81 rfl (lv_at hl 3 rfl) ?_
        refine va_get (D := G.1) (ci := 6) (v := .ref a_t_tryMarks) (C := "PlayStatesModel") (T := TMd) (N := 25) hx hb hts iw_6 hown hK hP 0 rfl rfl 19 (by decide) (hts _ gw_398) (fun _ h9 => h9) rfl d_Md_changes_82 ?_
        refine lv_iload_n hx hb d_Md_changes_85 rfl (lv_at hl 2 rfl) ?_
        refine lv_aload_n hx hb d_Md_changes_86 rfl (lv_at hl 3 rfl) ?_
        refine va_get (D := G.1) (ci := 6) (v := .ref a_t_tryMarks) (C := "PlayStatesModel") (T := TMd) (N := 25) hx hb hts iw_6 hown hK hP 0 rfl rfl 19 (by decide) (hts _ gw_398) (fun _ h9 => h9) rfl d_Md_changes_87 ?_
        refine lv_iload_n hx hb d_Md_changes_90 rfl (lv_at hl 2 rfl) ?_
        obtain ⟨i7, h⟩ := o_if h
        refine va_iald (n := 81) (f := x_t_tryMarks) hx hb hK hP 4 0 rfl rfl i7 d_Md_changes_91 ?_
        refine lv_iconst (v := (1 : Int32)) hx hb d_Md_changes_92 (by decide) ?_
        refine lv_iload_n hx hb d_Md_changes_93 rfl (lv_at hl 1 rfl) ?_
        refine lv_bipush (v := (20 : Int32)) hx hb d_Md_changes_94 (by decide) ?_
        refine lv_isub hx hb d_Md_changes_96 ?_
        refine lv_ishl hx hb d_Md_changes_97 ?_
        refine lv_iconst (v := (-1 : Int32)) hx hb d_Md_changes_98 (by decide) ?_
        refine lv_ixor hx hb d_Md_changes_99 ?_
        refine lv_iand hx hb d_Md_changes_100 ?_
        obtain ⟨i8, h⟩ := o_if h
        refine va_iast (n := 81) (f := x_t_tryMarks) hx hb hK hP hD hS 4 0 rfl rfl i8 d_Md_changes_101 (fun H locs hP hD hS => ?_)
        replace hP : va_P G.1 vwCl (ws_Md_changes G a_t a_t_truth a_t_entries a_t_marked a_t_present a_t_helped a_t_counted a_t_told a_t_runs a_t_whose a_t_before a_t_behind a_t_isOn a_t_text a_t_where a_t_what a_t_tryEntries a_t_tryMarks x_t_thrown x_t_places x_t_persons x_t_many x_t_size x_t_at x_t_sought x_t_found x_t_where x_t_what x_t_tryEntries (upd x_t_tryMarks (x_t_where p0.toNatClampNeg).toNatClampNeg ((x_t_tryMarks (x_t_where p0.toNatClampNeg).toNatClampNeg) &&& (((1 : Int32) <<< (((x_t_what p0.toNatClampNeg) - (20 : Int32)) &&& 31)) ^^^ (-1 : Int32))))) H := hP
        replace hD : va_D A (ws_Md_changes G a_t a_t_truth a_t_entries a_t_marked a_t_present a_t_helped a_t_counted a_t_told a_t_runs a_t_whose a_t_before a_t_behind a_t_isOn a_t_text a_t_where a_t_what a_t_tryEntries a_t_tryMarks x_t_thrown x_t_places x_t_persons x_t_many x_t_size x_t_at x_t_sought x_t_found x_t_where x_t_what x_t_tryEntries (upd x_t_tryMarks (x_t_where p0.toNatClampNeg).toNatClampNeg ((x_t_tryMarks (x_t_where p0.toNatClampNeg).toNatClampNeg) &&& (((1 : Int32) <<< (((x_t_what p0.toNatClampNeg) - (20 : Int32)) &&& 31)) ^^^ (-1 : Int32))))) := hD
        refine lv_iload hx hb d_Md_changes_102 (lv_at hl 0 rfl) ?_
        refine lv_iload_n hx hb d_Md_changes_104 rfl (lv_at hl 1 rfl) ?_
        refine lv_bipush (v := (10 : Int32)) hx hb d_Md_changes_105 (by decide) ?_
        refine lv_icmp_ge (tgt := 119) hx hb d_Md_changes_107 (by decide) (fun c9 => ?_) (fun c9 => ?_)
        · replace h := (if_pos c9).symm.trans h
          refine lv_aload_n hx hb d_Md_changes_119 rfl (lv_at hl 3 rfl) ?_
          refine va_get (D := G.1) (ci := 6) (v := .ref a_t_tryMarks) (C := "PlayStatesModel") (T := TMd) (N := 25) hx hb hts iw_6 hown hK hP 0 rfl rfl 19 (by decide) (hts _ gw_398) (fun _ h9 => h9) rfl d_Md_changes_120 ?_
          refine lv_iload_n hx hb d_Md_changes_123 rfl (lv_at hl 2 rfl) ?_
          obtain ⟨i10, h⟩ := o_if h
          refine va_iald (n := 81) (f := (upd x_t_tryMarks (x_t_where p0.toNatClampNeg).toNatClampNeg ((x_t_tryMarks (x_t_where p0.toNatClampNeg).toNatClampNeg) &&& (((1 : Int32) <<< (((x_t_what p0.toNatClampNeg) - (20 : Int32)) &&& 31)) ^^^ (-1 : Int32))))) hx hb hK hP 4 0 rfl rfl i10 d_Md_changes_124 ?_
          refine lv_icmp_eq (tgt := 132) hx hb d_Md_changes_125 (by decide) (fun c11 => ?_) (fun c11 => ?_)
          · replace h := (if_pos c11).symm.trans h
            refine lv_iconst (v := (0 : Int32)) hx hb d_Md_changes_132 (by decide) ?_
            cases h
            exact q_zretW hx hb hr hlocks (by decide) hP hD hS d_Md_changes_133
          · replace h := (if_neg c11).symm.trans h
            refine lv_iconst (v := (1 : Int32)) hx hb d_Md_changes_128 (by decide) ?_
            refine lv_goto (tgt := 133) hx hb d_Md_changes_129 (by decide) ?_
            cases h
            exact q_zretW hx hb hr hlocks (by decide) hP hD hS d_Md_changes_133
        · replace h := (if_neg c9).symm.trans h
          refine lv_aload_n hx hb d_Md_changes_110 rfl (lv_at hl 3 rfl) ?_
          refine va_get (D := G.1) (ci := 6) (v := .ref a_t_tryEntries) (C := "PlayStatesModel") (T := TMd) (N := 25) hx hb hts iw_6 hown hK hP 0 rfl rfl 18 (by decide) (hts _ gw_397) (fun _ h9 => h9) rfl d_Md_changes_111 ?_
          refine lv_iload_n hx hb d_Md_changes_114 rfl (lv_at hl 2 rfl) ?_
          obtain ⟨i12, h⟩ := o_if h
          refine va_iald (n := 81) (f := x_t_tryEntries) hx hb hK hP 3 0 rfl rfl i12 d_Md_changes_115 ?_
          refine lv_goto (tgt := 125) hx hb d_Md_changes_116 (by decide) ?_
          refine lv_icmp_eq (tgt := 132) hx hb d_Md_changes_125 (by decide) (fun c13 => ?_) (fun c13 => ?_)
          · replace h := (if_pos c13).symm.trans h
            refine lv_iconst (v := (0 : Int32)) hx hb d_Md_changes_132 (by decide) ?_
            cases h
            exact q_zretW hx hb hr hlocks (by decide) hP hD hS d_Md_changes_133
          · replace h := (if_neg c13).symm.trans h
            refine lv_iconst (v := (1 : Int32)) hx hb d_Md_changes_128 (by decide) ?_
            refine lv_goto (tgt := 133) hx hb d_Md_changes_129 (by decide) ?_
            cases h
            exact q_zretW hx hb hr hlocks (by decide) hP hD hS d_Md_changes_133
      · replace h := (if_neg c6).symm.trans h
        refine lv_aload_n hx hb d_Md_changes_59 rfl (lv_at hl 3 rfl) ?_
        refine va_get (D := G.1) (ci := 6) (v := .ref a_t_tryMarks) (C := "PlayStatesModel") (T := TMd) (N := 25) hx hb hts iw_6 hown hK hP 0 rfl rfl 19 (by decide) (hts _ gw_398) (fun _ h9 => h9) rfl d_Md_changes_60 ?_
        refine lv_iload_n hx hb d_Md_changes_63 rfl (lv_at hl 2 rfl) ?_
        refine lv_aload_n hx hb d_Md_changes_64 rfl (lv_at hl 3 rfl) ?_
        refine va_get (D := G.1) (ci := 6) (v := .ref a_t_tryMarks) (C := "PlayStatesModel") (T := TMd) (N := 25) hx hb hts iw_6 hown hK hP 0 rfl rfl 19 (by decide) (hts _ gw_398) (fun _ h9 => h9) rfl d_Md_changes_65 ?_
        refine lv_iload_n hx hb d_Md_changes_68 rfl (lv_at hl 2 rfl) ?_
        obtain ⟨i14, h⟩ := o_if h
        refine va_iald (n := 81) (f := x_t_tryMarks) hx hb hK hP 4 0 rfl rfl i14 d_Md_changes_69 ?_
        refine lv_iconst (v := (1 : Int32)) hx hb d_Md_changes_70 (by decide) ?_
        refine lv_iload_n hx hb d_Md_changes_71 rfl (lv_at hl 1 rfl) ?_
        refine lv_bipush (v := (10 : Int32)) hx hb d_Md_changes_72 (by decide) ?_
        refine lv_isub hx hb d_Md_changes_74 ?_
        refine lv_ishl hx hb d_Md_changes_75 ?_
        refine lv_ior hx hb d_Md_changes_76 ?_
        obtain ⟨i15, h⟩ := o_if h
        refine va_iast (n := 81) (f := x_t_tryMarks) hx hb hK hP hD hS 4 0 rfl rfl i15 d_Md_changes_77 (fun H locs hP hD hS => ?_)
        replace hP : va_P G.1 vwCl (ws_Md_changes G a_t a_t_truth a_t_entries a_t_marked a_t_present a_t_helped a_t_counted a_t_told a_t_runs a_t_whose a_t_before a_t_behind a_t_isOn a_t_text a_t_where a_t_what a_t_tryEntries a_t_tryMarks x_t_thrown x_t_places x_t_persons x_t_many x_t_size x_t_at x_t_sought x_t_found x_t_where x_t_what x_t_tryEntries (upd x_t_tryMarks (x_t_where p0.toNatClampNeg).toNatClampNeg ((x_t_tryMarks (x_t_where p0.toNatClampNeg).toNatClampNeg) ||| ((1 : Int32) <<< (((x_t_what p0.toNatClampNeg) - (10 : Int32)) &&& 31))))) H := hP
        replace hD : va_D A (ws_Md_changes G a_t a_t_truth a_t_entries a_t_marked a_t_present a_t_helped a_t_counted a_t_told a_t_runs a_t_whose a_t_before a_t_behind a_t_isOn a_t_text a_t_where a_t_what a_t_tryEntries a_t_tryMarks x_t_thrown x_t_places x_t_persons x_t_many x_t_size x_t_at x_t_sought x_t_found x_t_where x_t_what x_t_tryEntries (upd x_t_tryMarks (x_t_where p0.toNatClampNeg).toNatClampNeg ((x_t_tryMarks (x_t_where p0.toNatClampNeg).toNatClampNeg) ||| ((1 : Int32) <<< (((x_t_what p0.toNatClampNeg) - (10 : Int32)) &&& 31))))) := hD
        refine lv_goto (tgt := 102) hx hb d_Md_changes_78 (by decide) ?_
        refine lv_iload hx hb d_Md_changes_102 (lv_at hl 0 rfl) ?_
        refine lv_iload_n hx hb d_Md_changes_104 rfl (lv_at hl 1 rfl) ?_
        refine lv_bipush (v := (10 : Int32)) hx hb d_Md_changes_105 (by decide) ?_
        refine lv_icmp_ge (tgt := 119) hx hb d_Md_changes_107 (by decide) (fun c16 => ?_) (fun c16 => ?_)
        · replace h := (if_pos c16).symm.trans h
          refine lv_aload_n hx hb d_Md_changes_119 rfl (lv_at hl 3 rfl) ?_
          refine va_get (D := G.1) (ci := 6) (v := .ref a_t_tryMarks) (C := "PlayStatesModel") (T := TMd) (N := 25) hx hb hts iw_6 hown hK hP 0 rfl rfl 19 (by decide) (hts _ gw_398) (fun _ h9 => h9) rfl d_Md_changes_120 ?_
          refine lv_iload_n hx hb d_Md_changes_123 rfl (lv_at hl 2 rfl) ?_
          obtain ⟨i17, h⟩ := o_if h
          refine va_iald (n := 81) (f := (upd x_t_tryMarks (x_t_where p0.toNatClampNeg).toNatClampNeg ((x_t_tryMarks (x_t_where p0.toNatClampNeg).toNatClampNeg) ||| ((1 : Int32) <<< (((x_t_what p0.toNatClampNeg) - (10 : Int32)) &&& 31))))) hx hb hK hP 4 0 rfl rfl i17 d_Md_changes_124 ?_
          refine lv_icmp_eq (tgt := 132) hx hb d_Md_changes_125 (by decide) (fun c18 => ?_) (fun c18 => ?_)
          · replace h := (if_pos c18).symm.trans h
            refine lv_iconst (v := (0 : Int32)) hx hb d_Md_changes_132 (by decide) ?_
            cases h
            exact q_zretW hx hb hr hlocks (by decide) hP hD hS d_Md_changes_133
          · replace h := (if_neg c18).symm.trans h
            refine lv_iconst (v := (1 : Int32)) hx hb d_Md_changes_128 (by decide) ?_
            refine lv_goto (tgt := 133) hx hb d_Md_changes_129 (by decide) ?_
            cases h
            exact q_zretW hx hb hr hlocks (by decide) hP hD hS d_Md_changes_133
        · replace h := (if_neg c16).symm.trans h
          refine lv_aload_n hx hb d_Md_changes_110 rfl (lv_at hl 3 rfl) ?_
          refine va_get (D := G.1) (ci := 6) (v := .ref a_t_tryEntries) (C := "PlayStatesModel") (T := TMd) (N := 25) hx hb hts iw_6 hown hK hP 0 rfl rfl 18 (by decide) (hts _ gw_397) (fun _ h9 => h9) rfl d_Md_changes_111 ?_
          refine lv_iload_n hx hb d_Md_changes_114 rfl (lv_at hl 2 rfl) ?_
          obtain ⟨i19, h⟩ := o_if h
          refine va_iald (n := 81) (f := x_t_tryEntries) hx hb hK hP 3 0 rfl rfl i19 d_Md_changes_115 ?_
          refine lv_goto (tgt := 125) hx hb d_Md_changes_116 (by decide) ?_
          refine lv_icmp_eq (tgt := 132) hx hb d_Md_changes_125 (by decide) (fun c20 => ?_) (fun c20 => ?_)
          · replace h := (if_pos c20).symm.trans h
            refine lv_iconst (v := (0 : Int32)) hx hb d_Md_changes_132 (by decide) ?_
            cases h
            exact q_zretW hx hb hr hlocks (by decide) hP hD hS d_Md_changes_133
          · replace h := (if_neg c20).symm.trans h
            refine lv_iconst (v := (1 : Int32)) hx hb d_Md_changes_128 (by decide) ?_
            refine lv_goto (tgt := 133) hx hb d_Md_changes_129 (by decide) ?_
            cases h
            exact q_zretW hx hb hr hlocks (by decide) hP hD hS d_Md_changes_133
    · replace h := (if_neg c5).symm.trans h
      refine lv_aload_n hx hb d_Md_changes_43 rfl (lv_at hl 3 rfl) ?_
      refine va_get (D := G.1) (ci := 6) (v := .ref a_t_tryEntries) (C := "PlayStatesModel") (T := TMd) (N := 25) hx hb hts iw_6 hown hK hP 0 rfl rfl 18 (by decide) (hts _ gw_397) (fun _ h9 => h9) rfl d_Md_changes_44 ?_
      refine lv_iload_n hx hb d_Md_changes_47 rfl (lv_at hl 2 rfl) ?_
      refine lv_iload_n hx hb d_Md_changes_48 rfl (lv_at hl 1 rfl) ?_
      obtain ⟨i21, h⟩ := o_if h
      refine va_iast (n := 81) (f := x_t_tryEntries) hx hb hK hP hD hS 3 0 rfl rfl i21 d_Md_changes_49 (fun H locs hP hD hS => ?_)
      replace hP : va_P G.1 vwCl (ws_Md_changes G a_t a_t_truth a_t_entries a_t_marked a_t_present a_t_helped a_t_counted a_t_told a_t_runs a_t_whose a_t_before a_t_behind a_t_isOn a_t_text a_t_where a_t_what a_t_tryEntries a_t_tryMarks x_t_thrown x_t_places x_t_persons x_t_many x_t_size x_t_at x_t_sought x_t_found x_t_where x_t_what (upd x_t_tryEntries (x_t_where p0.toNatClampNeg).toNatClampNeg (x_t_what p0.toNatClampNeg)) x_t_tryMarks) H := hP
      replace hD : va_D A (ws_Md_changes G a_t a_t_truth a_t_entries a_t_marked a_t_present a_t_helped a_t_counted a_t_told a_t_runs a_t_whose a_t_before a_t_behind a_t_isOn a_t_text a_t_where a_t_what a_t_tryEntries a_t_tryMarks x_t_thrown x_t_places x_t_persons x_t_many x_t_size x_t_at x_t_sought x_t_found x_t_where x_t_what (upd x_t_tryEntries (x_t_where p0.toNatClampNeg).toNatClampNeg (x_t_what p0.toNatClampNeg)) x_t_tryMarks) := hD
      refine lv_goto (tgt := 102) hx hb d_Md_changes_50 (by decide) ?_
      refine lv_iload hx hb d_Md_changes_102 (lv_at hl 0 rfl) ?_
      refine lv_iload_n hx hb d_Md_changes_104 rfl (lv_at hl 1 rfl) ?_
      refine lv_bipush (v := (10 : Int32)) hx hb d_Md_changes_105 (by decide) ?_
      refine lv_icmp_ge (tgt := 119) hx hb d_Md_changes_107 (by decide) (fun c22 => ?_) (fun c22 => ?_)
      · replace h := (if_pos c22).symm.trans h
        refine lv_aload_n hx hb d_Md_changes_119 rfl (lv_at hl 3 rfl) ?_
        refine va_get (D := G.1) (ci := 6) (v := .ref a_t_tryMarks) (C := "PlayStatesModel") (T := TMd) (N := 25) hx hb hts iw_6 hown hK hP 0 rfl rfl 19 (by decide) (hts _ gw_398) (fun _ h9 => h9) rfl d_Md_changes_120 ?_
        refine lv_iload_n hx hb d_Md_changes_123 rfl (lv_at hl 2 rfl) ?_
        obtain ⟨i23, h⟩ := o_if h
        refine va_iald (n := 81) (f := x_t_tryMarks) hx hb hK hP 4 0 rfl rfl i23 d_Md_changes_124 ?_
        refine lv_icmp_eq (tgt := 132) hx hb d_Md_changes_125 (by decide) (fun c24 => ?_) (fun c24 => ?_)
        · replace h := (if_pos c24).symm.trans h
          refine lv_iconst (v := (0 : Int32)) hx hb d_Md_changes_132 (by decide) ?_
          cases h
          exact q_zretW hx hb hr hlocks (by decide) hP hD hS d_Md_changes_133
        · replace h := (if_neg c24).symm.trans h
          refine lv_iconst (v := (1 : Int32)) hx hb d_Md_changes_128 (by decide) ?_
          refine lv_goto (tgt := 133) hx hb d_Md_changes_129 (by decide) ?_
          cases h
          exact q_zretW hx hb hr hlocks (by decide) hP hD hS d_Md_changes_133
      · replace h := (if_neg c22).symm.trans h
        refine lv_aload_n hx hb d_Md_changes_110 rfl (lv_at hl 3 rfl) ?_
        refine va_get (D := G.1) (ci := 6) (v := .ref a_t_tryEntries) (C := "PlayStatesModel") (T := TMd) (N := 25) hx hb hts iw_6 hown hK hP 0 rfl rfl 18 (by decide) (hts _ gw_397) (fun _ h9 => h9) rfl d_Md_changes_111 ?_
        refine lv_iload_n hx hb d_Md_changes_114 rfl (lv_at hl 2 rfl) ?_
        obtain ⟨i25, h⟩ := o_if h
        refine va_iald (n := 81) (f := (upd x_t_tryEntries (x_t_where p0.toNatClampNeg).toNatClampNeg (x_t_what p0.toNatClampNeg))) hx hb hK hP 3 0 rfl rfl i25 d_Md_changes_115 ?_
        refine lv_goto (tgt := 125) hx hb d_Md_changes_116 (by decide) ?_
        refine lv_icmp_eq (tgt := 132) hx hb d_Md_changes_125 (by decide) (fun c26 => ?_) (fun c26 => ?_)
        · replace h := (if_pos c26).symm.trans h
          refine lv_iconst (v := (0 : Int32)) hx hb d_Md_changes_132 (by decide) ?_
          cases h
          exact q_zretW hx hb hr hlocks (by decide) hP hD hS d_Md_changes_133
        · replace h := (if_neg c26).symm.trans h
          refine lv_iconst (v := (1 : Int32)) hx hb d_Md_changes_128 (by decide) ?_
          refine lv_goto (tgt := 133) hx hb d_Md_changes_129 (by decide) ?_
          cases h
          exact q_zretW hx hb hr hlocks (by decide) hP hD hS d_Md_changes_133
  · replace h := (if_neg c3).symm.trans h
    refine lv_aload_n hx hb d_Md_changes_20 rfl (lv_at hl 2 rfl) ?_
    refine va_get (D := G.1) (ci := 6) (v := .ref a_t_tryEntries) (C := "PlayStatesModel") (T := TMd) (N := 25) hx hb hts iw_6 hown hK hP 0 rfl rfl 18 (by decide) (hts _ gw_397) (fun _ h9 => h9) rfl d_Md_changes_21 ?_
    refine lv_iload_n hx hb d_Md_changes_24 rfl (lv_at hl 1 rfl) ?_
    obtain ⟨i27, h⟩ := o_if h
    refine va_iald (n := 81) (f := x_t_tryEntries) hx hb hK hP 3 0 rfl rfl i27 d_Md_changes_25 ?_
    refine lv_goto (tgt := 35) hx hb d_Md_changes_26 (by decide) ?_
    refine lv_istore (lv' := [(4, .int (x_t_tryEntries (x_t_where p0.toNatClampNeg).toNatClampNeg)), (3, .int (x_t_what p0.toNatClampNeg)), (2, .int (x_t_where p0.toNatClampNeg)), (0, .ref a_t), (1, .int p0)]) hx hb d_Md_changes_35 hl (by decide) rfl (fun ls hl => ?_)
    refine lv_iload_n hx hb d_Md_changes_37 rfl (lv_at hl 1 rfl) ?_
    refine lv_bipush (v := (10 : Int32)) hx hb d_Md_changes_38 (by decide) ?_
    refine lv_icmp_ge (tgt := 53) hx hb d_Md_changes_40 (by decide) (fun c28 => ?_) (fun c28 => ?_)
    · replace h := (if_pos c28).symm.trans h
      refine lv_iload_n hx hb d_Md_changes_53 rfl (lv_at hl 1 rfl) ?_
      refine lv_bipush (v := (20 : Int32)) hx hb d_Md_changes_54 (by decide) ?_
      refine lv_icmp_ge (tgt := 81) hx hb d_Md_changes_56 (by decide) (fun c29 => ?_) (fun c29 => ?_)
      · replace h := (if_pos c29).symm.trans h
        refine lv_aload_n hx hb d_Md_changes_81 rfl (lv_at hl 3 rfl) ?_
        refine va_get (D := G.1) (ci := 6) (v := .ref a_t_tryMarks) (C := "PlayStatesModel") (T := TMd) (N := 25) hx hb hts iw_6 hown hK hP 0 rfl rfl 19 (by decide) (hts _ gw_398) (fun _ h9 => h9) rfl d_Md_changes_82 ?_
        refine lv_iload_n hx hb d_Md_changes_85 rfl (lv_at hl 2 rfl) ?_
        refine lv_aload_n hx hb d_Md_changes_86 rfl (lv_at hl 3 rfl) ?_
        refine va_get (D := G.1) (ci := 6) (v := .ref a_t_tryMarks) (C := "PlayStatesModel") (T := TMd) (N := 25) hx hb hts iw_6 hown hK hP 0 rfl rfl 19 (by decide) (hts _ gw_398) (fun _ h9 => h9) rfl d_Md_changes_87 ?_
        refine lv_iload_n hx hb d_Md_changes_90 rfl (lv_at hl 2 rfl) ?_
        obtain ⟨i30, h⟩ := o_if h
        refine va_iald (n := 81) (f := x_t_tryMarks) hx hb hK hP 4 0 rfl rfl i30 d_Md_changes_91 ?_
        refine lv_iconst (v := (1 : Int32)) hx hb d_Md_changes_92 (by decide) ?_
        refine lv_iload_n hx hb d_Md_changes_93 rfl (lv_at hl 1 rfl) ?_
        refine lv_bipush (v := (20 : Int32)) hx hb d_Md_changes_94 (by decide) ?_
        refine lv_isub hx hb d_Md_changes_96 ?_
        refine lv_ishl hx hb d_Md_changes_97 ?_
        refine lv_iconst (v := (-1 : Int32)) hx hb d_Md_changes_98 (by decide) ?_
        refine lv_ixor hx hb d_Md_changes_99 ?_
        refine lv_iand hx hb d_Md_changes_100 ?_
        obtain ⟨i31, h⟩ := o_if h
        refine va_iast (n := 81) (f := x_t_tryMarks) hx hb hK hP hD hS 4 0 rfl rfl i31 d_Md_changes_101 (fun H locs hP hD hS => ?_)
        replace hP : va_P G.1 vwCl (ws_Md_changes G a_t a_t_truth a_t_entries a_t_marked a_t_present a_t_helped a_t_counted a_t_told a_t_runs a_t_whose a_t_before a_t_behind a_t_isOn a_t_text a_t_where a_t_what a_t_tryEntries a_t_tryMarks x_t_thrown x_t_places x_t_persons x_t_many x_t_size x_t_at x_t_sought x_t_found x_t_where x_t_what x_t_tryEntries (upd x_t_tryMarks (x_t_where p0.toNatClampNeg).toNatClampNeg ((x_t_tryMarks (x_t_where p0.toNatClampNeg).toNatClampNeg) &&& (((1 : Int32) <<< (((x_t_what p0.toNatClampNeg) - (20 : Int32)) &&& 31)) ^^^ (-1 : Int32))))) H := hP
        replace hD : va_D A (ws_Md_changes G a_t a_t_truth a_t_entries a_t_marked a_t_present a_t_helped a_t_counted a_t_told a_t_runs a_t_whose a_t_before a_t_behind a_t_isOn a_t_text a_t_where a_t_what a_t_tryEntries a_t_tryMarks x_t_thrown x_t_places x_t_persons x_t_many x_t_size x_t_at x_t_sought x_t_found x_t_where x_t_what x_t_tryEntries (upd x_t_tryMarks (x_t_where p0.toNatClampNeg).toNatClampNeg ((x_t_tryMarks (x_t_where p0.toNatClampNeg).toNatClampNeg) &&& (((1 : Int32) <<< (((x_t_what p0.toNatClampNeg) - (20 : Int32)) &&& 31)) ^^^ (-1 : Int32))))) := hD
        refine lv_iload hx hb d_Md_changes_102 (lv_at hl 0 rfl) ?_
        refine lv_iload_n hx hb d_Md_changes_104 rfl (lv_at hl 1 rfl) ?_
        refine lv_bipush (v := (10 : Int32)) hx hb d_Md_changes_105 (by decide) ?_
        refine lv_icmp_ge (tgt := 119) hx hb d_Md_changes_107 (by decide) (fun c32 => ?_) (fun c32 => ?_)
        · replace h := (if_pos c32).symm.trans h
          refine lv_aload_n hx hb d_Md_changes_119 rfl (lv_at hl 3 rfl) ?_
          refine va_get (D := G.1) (ci := 6) (v := .ref a_t_tryMarks) (C := "PlayStatesModel") (T := TMd) (N := 25) hx hb hts iw_6 hown hK hP 0 rfl rfl 19 (by decide) (hts _ gw_398) (fun _ h9 => h9) rfl d_Md_changes_120 ?_
          refine lv_iload_n hx hb d_Md_changes_123 rfl (lv_at hl 2 rfl) ?_
          obtain ⟨i33, h⟩ := o_if h
          refine va_iald (n := 81) (f := (upd x_t_tryMarks (x_t_where p0.toNatClampNeg).toNatClampNeg ((x_t_tryMarks (x_t_where p0.toNatClampNeg).toNatClampNeg) &&& (((1 : Int32) <<< (((x_t_what p0.toNatClampNeg) - (20 : Int32)) &&& 31)) ^^^ (-1 : Int32))))) hx hb hK hP 4 0 rfl rfl i33 d_Md_changes_124 ?_
          refine lv_icmp_eq (tgt := 132) hx hb d_Md_changes_125 (by decide) (fun c34 => ?_) (fun c34 => ?_)
          · replace h := (if_pos c34).symm.trans h
            refine lv_iconst (v := (0 : Int32)) hx hb d_Md_changes_132 (by decide) ?_
            cases h
            exact q_zretW hx hb hr hlocks (by decide) hP hD hS d_Md_changes_133
          · replace h := (if_neg c34).symm.trans h
            refine lv_iconst (v := (1 : Int32)) hx hb d_Md_changes_128 (by decide) ?_
            refine lv_goto (tgt := 133) hx hb d_Md_changes_129 (by decide) ?_
            cases h
            exact q_zretW hx hb hr hlocks (by decide) hP hD hS d_Md_changes_133
        · replace h := (if_neg c32).symm.trans h
          refine lv_aload_n hx hb d_Md_changes_110 rfl (lv_at hl 3 rfl) ?_
          refine va_get (D := G.1) (ci := 6) (v := .ref a_t_tryEntries) (C := "PlayStatesModel") (T := TMd) (N := 25) hx hb hts iw_6 hown hK hP 0 rfl rfl 18 (by decide) (hts _ gw_397) (fun _ h9 => h9) rfl d_Md_changes_111 ?_
          refine lv_iload_n hx hb d_Md_changes_114 rfl (lv_at hl 2 rfl) ?_
          obtain ⟨i35, h⟩ := o_if h
          refine va_iald (n := 81) (f := x_t_tryEntries) hx hb hK hP 3 0 rfl rfl i35 d_Md_changes_115 ?_
          refine lv_goto (tgt := 125) hx hb d_Md_changes_116 (by decide) ?_
          refine lv_icmp_eq (tgt := 132) hx hb d_Md_changes_125 (by decide) (fun c36 => ?_) (fun c36 => ?_)
          · replace h := (if_pos c36).symm.trans h
            refine lv_iconst (v := (0 : Int32)) hx hb d_Md_changes_132 (by decide) ?_
            cases h
            exact q_zretW hx hb hr hlocks (by decide) hP hD hS d_Md_changes_133
          · replace h := (if_neg c36).symm.trans h
            refine lv_iconst (v := (1 : Int32)) hx hb d_Md_changes_128 (by decide) ?_
            refine lv_goto (tgt := 133) hx hb d_Md_changes_129 (by decide) ?_
            cases h
            exact q_zretW hx hb hr hlocks (by decide) hP hD hS d_Md_changes_133
      · replace h := (if_neg c29).symm.trans h
        refine lv_aload_n hx hb d_Md_changes_59 rfl (lv_at hl 3 rfl) ?_
        refine va_get (D := G.1) (ci := 6) (v := .ref a_t_tryMarks) (C := "PlayStatesModel") (T := TMd) (N := 25) hx hb hts iw_6 hown hK hP 0 rfl rfl 19 (by decide) (hts _ gw_398) (fun _ h9 => h9) rfl d_Md_changes_60 ?_
        refine lv_iload_n hx hb d_Md_changes_63 rfl (lv_at hl 2 rfl) ?_
        refine lv_aload_n hx hb d_Md_changes_64 rfl (lv_at hl 3 rfl) ?_
        refine va_get (D := G.1) (ci := 6) (v := .ref a_t_tryMarks) (C := "PlayStatesModel") (T := TMd) (N := 25) hx hb hts iw_6 hown hK hP 0 rfl rfl 19 (by decide) (hts _ gw_398) (fun _ h9 => h9) rfl d_Md_changes_65 ?_
        refine lv_iload_n hx hb d_Md_changes_68 rfl (lv_at hl 2 rfl) ?_
        obtain ⟨i37, h⟩ := o_if h
        refine va_iald (n := 81) (f := x_t_tryMarks) hx hb hK hP 4 0 rfl rfl i37 d_Md_changes_69 ?_
        refine lv_iconst (v := (1 : Int32)) hx hb d_Md_changes_70 (by decide) ?_
        refine lv_iload_n hx hb d_Md_changes_71 rfl (lv_at hl 1 rfl) ?_
        refine lv_bipush (v := (10 : Int32)) hx hb d_Md_changes_72 (by decide) ?_
        refine lv_isub hx hb d_Md_changes_74 ?_
        refine lv_ishl hx hb d_Md_changes_75 ?_
        refine lv_ior hx hb d_Md_changes_76 ?_
        obtain ⟨i38, h⟩ := o_if h
        refine va_iast (n := 81) (f := x_t_tryMarks) hx hb hK hP hD hS 4 0 rfl rfl i38 d_Md_changes_77 (fun H locs hP hD hS => ?_)
        replace hP : va_P G.1 vwCl (ws_Md_changes G a_t a_t_truth a_t_entries a_t_marked a_t_present a_t_helped a_t_counted a_t_told a_t_runs a_t_whose a_t_before a_t_behind a_t_isOn a_t_text a_t_where a_t_what a_t_tryEntries a_t_tryMarks x_t_thrown x_t_places x_t_persons x_t_many x_t_size x_t_at x_t_sought x_t_found x_t_where x_t_what x_t_tryEntries (upd x_t_tryMarks (x_t_where p0.toNatClampNeg).toNatClampNeg ((x_t_tryMarks (x_t_where p0.toNatClampNeg).toNatClampNeg) ||| ((1 : Int32) <<< (((x_t_what p0.toNatClampNeg) - (10 : Int32)) &&& 31))))) H := hP
        replace hD : va_D A (ws_Md_changes G a_t a_t_truth a_t_entries a_t_marked a_t_present a_t_helped a_t_counted a_t_told a_t_runs a_t_whose a_t_before a_t_behind a_t_isOn a_t_text a_t_where a_t_what a_t_tryEntries a_t_tryMarks x_t_thrown x_t_places x_t_persons x_t_many x_t_size x_t_at x_t_sought x_t_found x_t_where x_t_what x_t_tryEntries (upd x_t_tryMarks (x_t_where p0.toNatClampNeg).toNatClampNeg ((x_t_tryMarks (x_t_where p0.toNatClampNeg).toNatClampNeg) ||| ((1 : Int32) <<< (((x_t_what p0.toNatClampNeg) - (10 : Int32)) &&& 31))))) := hD
        refine lv_goto (tgt := 102) hx hb d_Md_changes_78 (by decide) ?_
        refine lv_iload hx hb d_Md_changes_102 (lv_at hl 0 rfl) ?_
        refine lv_iload_n hx hb d_Md_changes_104 rfl (lv_at hl 1 rfl) ?_
        refine lv_bipush (v := (10 : Int32)) hx hb d_Md_changes_105 (by decide) ?_
        refine lv_icmp_ge (tgt := 119) hx hb d_Md_changes_107 (by decide) (fun c39 => ?_) (fun c39 => ?_)
        · replace h := (if_pos c39).symm.trans h
          refine lv_aload_n hx hb d_Md_changes_119 rfl (lv_at hl 3 rfl) ?_
          refine va_get (D := G.1) (ci := 6) (v := .ref a_t_tryMarks) (C := "PlayStatesModel") (T := TMd) (N := 25) hx hb hts iw_6 hown hK hP 0 rfl rfl 19 (by decide) (hts _ gw_398) (fun _ h9 => h9) rfl d_Md_changes_120 ?_
          refine lv_iload_n hx hb d_Md_changes_123 rfl (lv_at hl 2 rfl) ?_
          obtain ⟨i40, h⟩ := o_if h
          refine va_iald (n := 81) (f := (upd x_t_tryMarks (x_t_where p0.toNatClampNeg).toNatClampNeg ((x_t_tryMarks (x_t_where p0.toNatClampNeg).toNatClampNeg) ||| ((1 : Int32) <<< (((x_t_what p0.toNatClampNeg) - (10 : Int32)) &&& 31))))) hx hb hK hP 4 0 rfl rfl i40 d_Md_changes_124 ?_
          refine lv_icmp_eq (tgt := 132) hx hb d_Md_changes_125 (by decide) (fun c41 => ?_) (fun c41 => ?_)
          · replace h := (if_pos c41).symm.trans h
            refine lv_iconst (v := (0 : Int32)) hx hb d_Md_changes_132 (by decide) ?_
            cases h
            exact q_zretW hx hb hr hlocks (by decide) hP hD hS d_Md_changes_133
          · replace h := (if_neg c41).symm.trans h
            refine lv_iconst (v := (1 : Int32)) hx hb d_Md_changes_128 (by decide) ?_
            refine lv_goto (tgt := 133) hx hb d_Md_changes_129 (by decide) ?_
            cases h
            exact q_zretW hx hb hr hlocks (by decide) hP hD hS d_Md_changes_133
        · replace h := (if_neg c39).symm.trans h
          refine lv_aload_n hx hb d_Md_changes_110 rfl (lv_at hl 3 rfl) ?_
          refine va_get (D := G.1) (ci := 6) (v := .ref a_t_tryEntries) (C := "PlayStatesModel") (T := TMd) (N := 25) hx hb hts iw_6 hown hK hP 0 rfl rfl 18 (by decide) (hts _ gw_397) (fun _ h9 => h9) rfl d_Md_changes_111 ?_
          refine lv_iload_n hx hb d_Md_changes_114 rfl (lv_at hl 2 rfl) ?_
          obtain ⟨i42, h⟩ := o_if h
          refine va_iald (n := 81) (f := x_t_tryEntries) hx hb hK hP 3 0 rfl rfl i42 d_Md_changes_115 ?_
          refine lv_goto (tgt := 125) hx hb d_Md_changes_116 (by decide) ?_
          refine lv_icmp_eq (tgt := 132) hx hb d_Md_changes_125 (by decide) (fun c43 => ?_) (fun c43 => ?_)
          · replace h := (if_pos c43).symm.trans h
            refine lv_iconst (v := (0 : Int32)) hx hb d_Md_changes_132 (by decide) ?_
            cases h
            exact q_zretW hx hb hr hlocks (by decide) hP hD hS d_Md_changes_133
          · replace h := (if_neg c43).symm.trans h
            refine lv_iconst (v := (1 : Int32)) hx hb d_Md_changes_128 (by decide) ?_
            refine lv_goto (tgt := 133) hx hb d_Md_changes_129 (by decide) ?_
            cases h
            exact q_zretW hx hb hr hlocks (by decide) hP hD hS d_Md_changes_133
    · replace h := (if_neg c28).symm.trans h
      refine lv_aload_n hx hb d_Md_changes_43 rfl (lv_at hl 3 rfl) ?_
      refine va_get (D := G.1) (ci := 6) (v := .ref a_t_tryEntries) (C := "PlayStatesModel") (T := TMd) (N := 25) hx hb hts iw_6 hown hK hP 0 rfl rfl 18 (by decide) (hts _ gw_397) (fun _ h9 => h9) rfl d_Md_changes_44 ?_
      refine lv_iload_n hx hb d_Md_changes_47 rfl (lv_at hl 2 rfl) ?_
      refine lv_iload_n hx hb d_Md_changes_48 rfl (lv_at hl 1 rfl) ?_
      obtain ⟨i44, h⟩ := o_if h
      refine va_iast (n := 81) (f := x_t_tryEntries) hx hb hK hP hD hS 3 0 rfl rfl i44 d_Md_changes_49 (fun H locs hP hD hS => ?_)
      replace hP : va_P G.1 vwCl (ws_Md_changes G a_t a_t_truth a_t_entries a_t_marked a_t_present a_t_helped a_t_counted a_t_told a_t_runs a_t_whose a_t_before a_t_behind a_t_isOn a_t_text a_t_where a_t_what a_t_tryEntries a_t_tryMarks x_t_thrown x_t_places x_t_persons x_t_many x_t_size x_t_at x_t_sought x_t_found x_t_where x_t_what (upd x_t_tryEntries (x_t_where p0.toNatClampNeg).toNatClampNeg (x_t_what p0.toNatClampNeg)) x_t_tryMarks) H := hP
      replace hD : va_D A (ws_Md_changes G a_t a_t_truth a_t_entries a_t_marked a_t_present a_t_helped a_t_counted a_t_told a_t_runs a_t_whose a_t_before a_t_behind a_t_isOn a_t_text a_t_where a_t_what a_t_tryEntries a_t_tryMarks x_t_thrown x_t_places x_t_persons x_t_many x_t_size x_t_at x_t_sought x_t_found x_t_where x_t_what (upd x_t_tryEntries (x_t_where p0.toNatClampNeg).toNatClampNeg (x_t_what p0.toNatClampNeg)) x_t_tryMarks) := hD
      refine lv_goto (tgt := 102) hx hb d_Md_changes_50 (by decide) ?_
      refine lv_iload hx hb d_Md_changes_102 (lv_at hl 0 rfl) ?_
      refine lv_iload_n hx hb d_Md_changes_104 rfl (lv_at hl 1 rfl) ?_
      refine lv_bipush (v := (10 : Int32)) hx hb d_Md_changes_105 (by decide) ?_
      refine lv_icmp_ge (tgt := 119) hx hb d_Md_changes_107 (by decide) (fun c45 => ?_) (fun c45 => ?_)
      · replace h := (if_pos c45).symm.trans h
        refine lv_aload_n hx hb d_Md_changes_119 rfl (lv_at hl 3 rfl) ?_
        refine va_get (D := G.1) (ci := 6) (v := .ref a_t_tryMarks) (C := "PlayStatesModel") (T := TMd) (N := 25) hx hb hts iw_6 hown hK hP 0 rfl rfl 19 (by decide) (hts _ gw_398) (fun _ h9 => h9) rfl d_Md_changes_120 ?_
        refine lv_iload_n hx hb d_Md_changes_123 rfl (lv_at hl 2 rfl) ?_
        obtain ⟨i46, h⟩ := o_if h
        refine va_iald (n := 81) (f := x_t_tryMarks) hx hb hK hP 4 0 rfl rfl i46 d_Md_changes_124 ?_
        refine lv_icmp_eq (tgt := 132) hx hb d_Md_changes_125 (by decide) (fun c47 => ?_) (fun c47 => ?_)
        · replace h := (if_pos c47).symm.trans h
          refine lv_iconst (v := (0 : Int32)) hx hb d_Md_changes_132 (by decide) ?_
          cases h
          exact q_zretW hx hb hr hlocks (by decide) hP hD hS d_Md_changes_133
        · replace h := (if_neg c47).symm.trans h
          refine lv_iconst (v := (1 : Int32)) hx hb d_Md_changes_128 (by decide) ?_
          refine lv_goto (tgt := 133) hx hb d_Md_changes_129 (by decide) ?_
          cases h
          exact q_zretW hx hb hr hlocks (by decide) hP hD hS d_Md_changes_133
      · replace h := (if_neg c45).symm.trans h
        refine lv_aload_n hx hb d_Md_changes_110 rfl (lv_at hl 3 rfl) ?_
        refine va_get (D := G.1) (ci := 6) (v := .ref a_t_tryEntries) (C := "PlayStatesModel") (T := TMd) (N := 25) hx hb hts iw_6 hown hK hP 0 rfl rfl 18 (by decide) (hts _ gw_397) (fun _ h9 => h9) rfl d_Md_changes_111 ?_
        refine lv_iload_n hx hb d_Md_changes_114 rfl (lv_at hl 2 rfl) ?_
        obtain ⟨i48, h⟩ := o_if h
        refine va_iald (n := 81) (f := (upd x_t_tryEntries (x_t_where p0.toNatClampNeg).toNatClampNeg (x_t_what p0.toNatClampNeg))) hx hb hK hP 3 0 rfl rfl i48 d_Md_changes_115 ?_
        refine lv_goto (tgt := 125) hx hb d_Md_changes_116 (by decide) ?_
        refine lv_icmp_eq (tgt := 132) hx hb d_Md_changes_125 (by decide) (fun c49 => ?_) (fun c49 => ?_)
        · replace h := (if_pos c49).symm.trans h
          refine lv_iconst (v := (0 : Int32)) hx hb d_Md_changes_132 (by decide) ?_
          cases h
          exact q_zretW hx hb hr hlocks (by decide) hP hD hS d_Md_changes_133
        · replace h := (if_neg c49).symm.trans h
          refine lv_iconst (v := (1 : Int32)) hx hb d_Md_changes_128 (by decide) ?_
          refine lv_goto (tgt := 133) hx hb d_Md_changes_129 (by decide) ?_
          cases h
          exact q_zretW hx hb hr hlocks (by decide) hP hD hS d_Md_changes_133

theorem gw_516 : (.code ⟨"PlayStatesModel", "walk", "(I)V"⟩ prog_8_method_25_code 3 none : Cond) ∈ GW := gT 589 (by decide +kernel) (by decide +kernel)
theorem gw_514 : (.methodLink "PlayStatesModel" 109 ⟨"PlayStatesModel", "walk", "(I)V"⟩ : Cond) ∈ GW := gT 586 (by decide +kernel) (by decide +kernel)
theorem gw_515 : (.instanceMethod ⟨"PlayStatesModel", "walk", "(I)V"⟩ : Cond) ∈ GW := gT 588 (by decide +kernel) (by decide +kernel)
theorem gw_24 : (.selects "PlayStatesModel" ⟨"PlayStatesModel", "walk", "(I)V"⟩ ⟨"PlayStatesModel", "walk", "(I)V"⟩ : Cond) ∈ GW := gP 24 (by decide +kernel) (by decide +kernel)
theorem gw_519 : (.code ⟨"PlayStatesModel", "changes", "(I)Z"⟩ prog_8_method_26_code 5 (some .boolean) : Cond) ∈ GW := gT 593 (by decide +kernel) (by decide +kernel)
theorem gw_517 : (.methodLink "PlayStatesModel" 113 ⟨"PlayStatesModel", "changes", "(I)Z"⟩ : Cond) ∈ GW := gT 590 (by decide +kernel) (by decide +kernel)
theorem gw_518 : (.instanceMethod ⟨"PlayStatesModel", "changes", "(I)Z"⟩ : Cond) ∈ GW := gT 592 (by decide +kernel) (by decide +kernel)
theorem gw_25 : (.selects "PlayStatesModel" ⟨"PlayStatesModel", "changes", "(I)Z"⟩ ⟨"PlayStatesModel", "changes", "(I)Z"⟩ : Cond) ∈ GW := gP 25 (by decide +kernel) (by decide +kernel)
theorem d_Md_join_0 : decode prog_8_method_27_code 0 = .ok (.aload_n 0, 1) := by decide +kernel
theorem d_Md_join_1 : decode prog_8_method_27_code 1 = .ok (.iconst 0, 1) := by decide +kernel
theorem d_Md_join_2 : decode prog_8_method_27_code 2 = .ok (.putfield 69, 3) := by decide +kernel
theorem d_Md_join_5 : decode prog_8_method_27_code 5 = .ok (.aload_n 0, 1) := by decide +kernel
theorem d_Md_join_6 : decode prog_8_method_27_code 6 = .ok (.iload_n 1, 1) := by decide +kernel
theorem d_Md_join_7 : decode prog_8_method_27_code 7 = .ok (.invokevirtual 86, 3) := by decide +kernel
theorem d_Md_join_10 : decode prog_8_method_27_code 10 = .ok (.ifCond .eq 25, 3) := by decide +kernel
theorem d_Md_join_13 : decode prog_8_method_27_code 13 = .ok (.aload_n 0, 1) := by decide +kernel
theorem d_Md_join_14 : decode prog_8_method_27_code 14 = .ok (.iload_n 2, 1) := by decide +kernel
theorem d_Md_join_15 : decode prog_8_method_27_code 15 = .ok (.invokevirtual 86, 3) := by decide +kernel
theorem d_Md_join_18 : decode prog_8_method_27_code 18 = .ok (.ifCond .eq 17, 3) := by decide +kernel
theorem d_Md_join_21 : decode prog_8_method_27_code 21 = .ok (.iload_n 1, 1) := by decide +kernel
theorem d_Md_join_22 : decode prog_8_method_27_code 22 = .ok (.iload_n 2, 1) := by decide +kernel
theorem d_Md_join_23 : decode prog_8_method_27_code 23 = .ok (.if_icmp .eq 12, 3) := by decide +kernel
theorem d_Md_join_26 : decode prog_8_method_27_code 26 = .ok (.aload_n 0, 1) := by decide +kernel
theorem d_Md_join_27 : decode prog_8_method_27_code 27 = .ok (.getfield 72, 3) := by decide +kernel
theorem d_Md_join_30 : decode prog_8_method_27_code 30 = .ok (.bipush 8, 2) := by decide +kernel
theorem d_Md_join_32 : decode prog_8_method_27_code 32 = .ok (.if_icmp .ne 5, 3) := by decide +kernel
theorem d_Md_join_35 : decode prog_8_method_27_code 35 = .ok (.iconst (-1), 1) := by decide +kernel
theorem d_Md_join_36 : decode prog_8_method_27_code 36 = .ok (.ireturn, 1) := by decide +kernel
theorem d_Md_join_37 : decode prog_8_method_27_code 37 = .ok (.iconst 0, 1) := by decide +kernel
theorem d_Md_join_38 : decode prog_8_method_27_code 38 = .ok (.istore_n 3, 1) := by decide +kernel
theorem d_Md_join_39 : decode prog_8_method_27_code 39 = .ok (.iload_n 3, 1) := by decide +kernel
theorem d_Md_join_40 : decode prog_8_method_27_code 40 = .ok (.aload_n 0, 1) := by decide +kernel
theorem d_Md_join_41 : decode prog_8_method_27_code 41 = .ok (.getfield 79, 3) := by decide +kernel
theorem d_Md_join_44 : decode prog_8_method_27_code 44 = .ok (.if_icmp .ge 16, 3) := by decide +kernel
theorem d_Md_join_47 : decode prog_8_method_27_code 47 = .ok (.aload_n 0, 1) := by decide +kernel
theorem d_Md_join_48 : decode prog_8_method_27_code 48 = .ok (.getfield 51, 3) := by decide +kernel
theorem d_Md_join_51 : decode prog_8_method_27_code 51 = .ok (.iload_n 3, 1) := by decide +kernel
theorem d_Md_join_52 : decode prog_8_method_27_code 52 = .ok (.iconst 0, 1) := by decide +kernel
theorem d_Md_join_53 : decode prog_8_method_27_code 53 = .ok (.bastore, 1) := by decide +kernel
theorem d_Md_join_54 : decode prog_8_method_27_code 54 = .ok (.iinc 3 1, 3) := by decide +kernel
theorem d_Md_join_57 : decode prog_8_method_27_code 57 = .ok (.goto (-18), 3) := by decide +kernel
theorem d_Md_join_60 : decode prog_8_method_27_code 60 = .ok (.aload_n 0, 1) := by decide +kernel
theorem d_Md_join_61 : decode prog_8_method_27_code 61 = .ok (.iload_n 1, 1) := by decide +kernel
theorem d_Md_join_62 : decode prog_8_method_27_code 62 = .ok (.invokevirtual 109, 3) := by decide +kernel
theorem d_Md_join_65 : decode prog_8_method_27_code 65 = .ok (.aload_n 0, 1) := by decide +kernel
theorem d_Md_join_66 : decode prog_8_method_27_code 66 = .ok (.iload_n 2, 1) := by decide +kernel
theorem d_Md_join_67 : decode prog_8_method_27_code 67 = .ok (.invokevirtual 109, 3) := by decide +kernel
theorem d_Md_join_70 : decode prog_8_method_27_code 70 = .ok (.iconst 0, 1) := by decide +kernel
theorem d_Md_join_71 : decode prog_8_method_27_code 71 = .ok (.istore_n 3, 1) := by decide +kernel
theorem d_Md_join_72 : decode prog_8_method_27_code 72 = .ok (.iload_n 3, 1) := by decide +kernel
theorem d_Md_join_73 : decode prog_8_method_27_code 73 = .ok (.bipush 81, 2) := by decide +kernel
theorem d_Md_join_75 : decode prog_8_method_27_code 75 = .ok (.if_icmp .ge 23, 3) := by decide +kernel
theorem d_Md_join_78 : decode prog_8_method_27_code 78 = .ok (.aload_n 0, 1) := by decide +kernel
theorem d_Md_join_79 : decode prog_8_method_27_code 79 = .ok (.getfield 54, 3) := by decide +kernel
theorem d_Md_join_82 : decode prog_8_method_27_code 82 = .ok (.iload_n 3, 1) := by decide +kernel
theorem d_Md_join_83 : decode prog_8_method_27_code 83 = .ok (.iconst 0, 1) := by decide +kernel
theorem d_Md_join_84 : decode prog_8_method_27_code 84 = .ok (.iastore, 1) := by decide +kernel
theorem d_Md_join_85 : decode prog_8_method_27_code 85 = .ok (.aload_n 0, 1) := by decide +kernel
theorem d_Md_join_86 : decode prog_8_method_27_code 86 = .ok (.getfield 57, 3) := by decide +kernel
theorem d_Md_join_89 : decode prog_8_method_27_code 89 = .ok (.iload_n 3, 1) := by decide +kernel
theorem d_Md_join_90 : decode prog_8_method_27_code 90 = .ok (.iconst 0, 1) := by decide +kernel
theorem d_Md_join_91 : decode prog_8_method_27_code 91 = .ok (.iastore, 1) := by decide +kernel
theorem d_Md_join_92 : decode prog_8_method_27_code 92 = .ok (.iinc 3 1, 3) := by decide +kernel
theorem d_Md_join_95 : decode prog_8_method_27_code 95 = .ok (.goto (-23), 3) := by decide +kernel
theorem d_Md_join_98 : decode prog_8_method_27_code 98 = .ok (.aload_n 0, 1) := by decide +kernel
theorem d_Md_join_99 : decode prog_8_method_27_code 99 = .ok (.getfield 79, 3) := by decide +kernel
theorem d_Md_join_102 : decode prog_8_method_27_code 102 = .ok (.istore_n 3, 1) := by decide +kernel
theorem d_Md_join_103 : decode prog_8_method_27_code 103 = .ok (.iconst 0, 1) := by decide +kernel
theorem d_Md_join_104 : decode prog_8_method_27_code 104 = .ok (.istore 4, 2) := by decide +kernel
theorem d_Md_join_106 : decode prog_8_method_27_code 106 = .ok (.iconst 0, 1) := by decide +kernel
theorem d_Md_join_107 : decode prog_8_method_27_code 107 = .ok (.istore 5, 2) := by decide +kernel
theorem d_Md_join_109 : decode prog_8_method_27_code 109 = .ok (.iload 5, 2) := by decide +kernel
theorem d_Md_join_111 : decode prog_8_method_27_code 111 = .ok (.iload_n 3, 1) := by decide +kernel
theorem d_Md_join_112 : decode prog_8_method_27_code 112 = .ok (.if_icmp .ge 60, 3) := by decide +kernel
theorem d_Md_join_115 : decode prog_8_method_27_code 115 = .ok (.aload_n 0, 1) := by decide +kernel
theorem d_Md_join_116 : decode prog_8_method_27_code 116 = .ok (.getfield 51, 3) := by decide +kernel
theorem d_Md_join_119 : decode prog_8_method_27_code 119 = .ok (.iload 5, 2) := by decide +kernel
theorem d_Md_join_121 : decode prog_8_method_27_code 121 = .ok (.aload_n 0, 1) := by decide +kernel
theorem d_Md_join_122 : decode prog_8_method_27_code 122 = .ok (.getfield 51, 3) := by decide +kernel
theorem d_Md_join_125 : decode prog_8_method_27_code 125 = .ok (.iload 5, 2) := by decide +kernel
theorem d_Md_join_127 : decode prog_8_method_27_code 127 = .ok (.baload, 1) := by decide +kernel
theorem d_Md_join_128 : decode prog_8_method_27_code 128 = .ok (.ifCond .eq 16, 3) := by decide +kernel
theorem d_Md_join_131 : decode prog_8_method_27_code 131 = .ok (.aload_n 0, 1) := by decide +kernel
theorem d_Md_join_132 : decode prog_8_method_27_code 132 = .ok (.iload 5, 2) := by decide +kernel
theorem d_Md_join_134 : decode prog_8_method_27_code 134 = .ok (.invokevirtual 113, 3) := by decide +kernel
theorem d_Md_join_137 : decode prog_8_method_27_code 137 = .ok (.ifCond .eq 7, 3) := by decide +kernel
theorem d_Md_join_140 : decode prog_8_method_27_code 140 = .ok (.iconst 1, 1) := by decide +kernel
theorem d_Md_join_141 : decode prog_8_method_27_code 141 = .ok (.goto 4, 3) := by decide +kernel
theorem d_Md_join_144 : decode prog_8_method_27_code 144 = .ok (.iconst 0, 1) := by decide +kernel
theorem d_Md_join_145 : decode prog_8_method_27_code 145 = .ok (.bastore, 1) := by decide +kernel
theorem d_Md_join_146 : decode prog_8_method_27_code 146 = .ok (.iload 4, 2) := by decide +kernel
theorem d_Md_join_148 : decode prog_8_method_27_code 148 = .ok (.aload_n 0, 1) := by decide +kernel
theorem d_Md_join_149 : decode prog_8_method_27_code 149 = .ok (.getfield 51, 3) := by decide +kernel
theorem d_Md_join_152 : decode prog_8_method_27_code 152 = .ok (.iload 5, 2) := by decide +kernel
theorem d_Md_join_154 : decode prog_8_method_27_code 154 = .ok (.baload, 1) := by decide +kernel
theorem d_Md_join_155 : decode prog_8_method_27_code 155 = .ok (.ifCond .eq 7, 3) := by decide +kernel
theorem d_Md_join_158 : decode prog_8_method_27_code 158 = .ok (.iconst 1, 1) := by decide +kernel
theorem d_Md_join_159 : decode prog_8_method_27_code 159 = .ok (.goto 4, 3) := by decide +kernel
theorem d_Md_join_162 : decode prog_8_method_27_code 162 = .ok (.iconst 0, 1) := by decide +kernel
theorem d_Md_join_163 : decode prog_8_method_27_code 163 = .ok (.iadd, 1) := by decide +kernel
theorem d_Md_join_164 : decode prog_8_method_27_code 164 = .ok (.istore 4, 2) := by decide +kernel
theorem d_Md_join_166 : decode prog_8_method_27_code 166 = .ok (.iinc 5 1, 3) := by decide +kernel
theorem d_Md_join_169 : decode prog_8_method_27_code 169 = .ok (.goto (-60), 3) := by decide +kernel
theorem d_Md_join_172 : decode prog_8_method_27_code 172 = .ok (.aload_n 0, 1) := by decide +kernel
theorem d_Md_join_173 : decode prog_8_method_27_code 173 = .ok (.getfield 79, 3) := by decide +kernel
theorem d_Md_join_176 : decode prog_8_method_27_code 176 = .ok (.iload 4, 2) := by decide +kernel
theorem d_Md_join_178 : decode prog_8_method_27_code 178 = .ok (.iadd, 1) := by decide +kernel
theorem d_Md_join_179 : decode prog_8_method_27_code 179 = .ok (.sipush 600, 3) := by decide +kernel
theorem d_Md_join_182 : decode prog_8_method_27_code 182 = .ok (.if_icmp .le 5, 3) := by decide +kernel
theorem d_Md_join_185 : decode prog_8_method_27_code 185 = .ok (.iconst (-1), 1) := by decide +kernel
theorem d_Md_join_186 : decode prog_8_method_27_code 186 = .ok (.ireturn, 1) := by decide +kernel
theorem d_Md_join_187 : decode prog_8_method_27_code 187 = .ok (.aload_n 0, 1) := by decide +kernel
theorem d_Md_join_188 : decode prog_8_method_27_code 188 = .ok (.invokevirtual 75, 3) := by decide +kernel
theorem d_Md_join_191 : decode prog_8_method_27_code 191 = .ok (.istore 5, 2) := by decide +kernel
theorem d_Md_join_193 : decode prog_8_method_27_code 193 = .ok (.iconst 0, 1) := by decide +kernel
theorem d_Md_join_194 : decode prog_8_method_27_code 194 = .ok (.istore 6, 2) := by decide +kernel
theorem d_Md_join_196 : decode prog_8_method_27_code 196 = .ok (.iload 6, 2) := by decide +kernel
theorem d_Md_join_198 : decode prog_8_method_27_code 198 = .ok (.iload_n 3, 1) := by decide +kernel
theorem d_Md_join_199 : decode prog_8_method_27_code 199 = .ok (.if_icmp .ge 40, 3) := by decide +kernel
theorem d_Md_join_202 : decode prog_8_method_27_code 202 = .ok (.aload_n 0, 1) := by decide +kernel
theorem d_Md_join_203 : decode prog_8_method_27_code 203 = .ok (.getfield 51, 3) := by decide +kernel
theorem d_Md_join_206 : decode prog_8_method_27_code 206 = .ok (.iload 6, 2) := by decide +kernel
theorem d_Md_join_208 : decode prog_8_method_27_code 208 = .ok (.baload, 1) := by decide +kernel
theorem d_Md_join_209 : decode prog_8_method_27_code 209 = .ok (.ifCond .eq 24, 3) := by decide +kernel
theorem d_Md_join_212 : decode prog_8_method_27_code 212 = .ok (.aload_n 0, 1) := by decide +kernel
theorem d_Md_join_213 : decode prog_8_method_27_code 213 = .ok (.iload 5, 2) := by decide +kernel
theorem d_Md_join_215 : decode prog_8_method_27_code 215 = .ok (.aload_n 0, 1) := by decide +kernel
theorem d_Md_join_216 : decode prog_8_method_27_code 216 = .ok (.getfield 39, 3) := by decide +kernel
theorem d_Md_join_219 : decode prog_8_method_27_code 219 = .ok (.iload 6, 2) := by decide +kernel
theorem d_Md_join_221 : decode prog_8_method_27_code 221 = .ok (.iaload, 1) := by decide +kernel
theorem d_Md_join_222 : decode prog_8_method_27_code 222 = .ok (.aload_n 0, 1) := by decide +kernel
theorem d_Md_join_223 : decode prog_8_method_27_code 223 = .ok (.getfield 42, 3) := by decide +kernel
theorem d_Md_join_226 : decode prog_8_method_27_code 226 = .ok (.iload 6, 2) := by decide +kernel
theorem d_Md_join_228 : decode prog_8_method_27_code 228 = .ok (.iaload, 1) := by decide +kernel
theorem d_Md_join_229 : decode prog_8_method_27_code 229 = .ok (.invokevirtual 93, 3) := by decide +kernel
theorem d_Md_join_232 : decode prog_8_method_27_code 232 = .ok (.pop, 1) := by decide +kernel
theorem d_Md_join_233 : decode prog_8_method_27_code 233 = .ok (.iinc 6 1, 3) := by decide +kernel
theorem d_Md_join_236 : decode prog_8_method_27_code 236 = .ok (.goto (-40), 3) := by decide +kernel
theorem d_Md_join_239 : decode prog_8_method_27_code 239 = .ok (.iload 5, 2) := by decide +kernel
theorem d_Md_join_241 : decode prog_8_method_27_code 241 = .ok (.ireturn, 1) := by decide +kernel
-- PlayStatesModel.join(II)I 
def ws_Md_join (G : gG) (a_t a_t_truth a_t_helped a_t_counted a_t_told a_t_runs a_t_text a_t_entries a_t_marked a_t_present a_t_whose a_t_where a_t_what a_t_before a_t_behind a_t_isOn a_t_tryEntries a_t_tryMarks : Nat)  (x_t_thrown : Int32) (x_t_places : Int32) (x_t_persons : Int32) (x_t_many : Int32) (x_t_size : Int32) (x_t_at : Int32) (x_t_sought : Int32) (x_t_found : Int32) (x_t_entries : Nat → Int32) (x_t_marked : Nat → Int32) (x_t_present : Nat → Int32) (x_t_whose : Nat → Int32) (x_t_where : Nat → Int32) (x_t_what : Nat → Int32) (x_t_before : Nat → Int32) (x_t_behind : Nat → Int32) (x_t_isOn : Nat → Int32) (x_t_tryEntries : Nat → Int32) (x_t_tryMarks : Nat → Int32) : va_W := [(a_t, .inr (6, [.int x_t_thrown, .int x_t_places, .int x_t_persons, .ref a_t_truth, .ref a_t_entries, .ref a_t_marked, .ref a_t_present, .ref a_t_helped, .ref a_t_counted, .ref a_t_told, .ref a_t_runs, .int x_t_many, .ref a_t_whose, .ref a_t_where, .ref a_t_what, .ref a_t_before, .ref a_t_behind, .ref a_t_isOn, .ref a_t_tryEntries, .ref a_t_tryMarks, .int x_t_size, .ref a_t_text, .int x_t_at, .int x_t_sought, .int x_t_found])), (a_t_entries, .inl (G.2 0, 648, .inl x_t_entries)), (a_t_marked, .inl (G.2 0, 648, .inl x_t_marked)), (a_t_present, .inl (G.2 0, 8, .inl x_t_present)), (a_t_whose, .inl (G.2 0, 600, .inl x_t_whose)), (a_t_where, .inl (G.2 0, 600, .inl x_t_where)), (a_t_what, .inl (G.2 0, 600, .inl x_t_what)), (a_t_before, .inl (G.2 0, 600, .inl x_t_before)), (a_t_behind, .inl (G.2 0, 600, .inl x_t_behind)), (a_t_isOn, .inl (G.2 1, 600, .inl x_t_isOn)), (a_t_tryEntries, .inl (G.2 0, 81, .inl x_t_tryEntries)), (a_t_tryMarks, .inl (G.2 0, 81, .inl x_t_tryMarks))]
def fb_Md_join_L196 (fu : Nat) (x_t_places : Int32) (x_t_size : Int32) (x_t_at : Int32) (x_t_sought : Int32) (x_t_found : Int32) (k39 : (Int32 → Int32 → Int32 → Int32 → Int32 → Int32 → (Nat → Int32) → (Nat → Int32) → (Nat → Int32) → (Nat → Int32) → (Nat → Int32) → (Nat → Int32) → (Nat → Int32) → (Nat → Int32) → (Nat → Int32) → (Nat → Int32) → (Nat → Int32) → Option (Int32 × Int32 × Int32 × Int32 × (Nat → Int32) × (Nat → Int32) × (Nat → Int32) × (Nat → Int32) × (Nat → Int32) × (Nat → Int32) × (Nat → Int32) × (Nat → Int32) × (Nat → Int32) × (Nat → Int32) × (Nat → Int32)))) (k72 : (Int32 → Int32 → Int32 → Int32 → Int32 → Int32 → (Nat → Int32) → (Nat → Int32) → (Nat → Int32) → (Nat → Int32) → (Nat → Int32) → (Nat → Int32) → (Nat → Int32) → (Nat → Int32) → (Nat → Int32) → (Nat → Int32) → (Nat → Int32) → Option (Int32 × Int32 × Int32 × Int32 × (Nat → Int32) × (Nat → Int32) × (Nat → Int32) × (Nat → Int32) × (Nat → Int32) × (Nat → Int32) × (Nat → Int32) × (Nat → Int32) × (Nat → Int32) × (Nat → Int32) × (Nat → Int32)))) (k109 : (Int32 → Int32 → Int32 → Int32 → Int32 → Int32 → Int32 → Int32 → (Nat → Int32) → (Nat → Int32) → (Nat → Int32) → (Nat → Int32) → (Nat → Int32) → (Nat → Int32) → (Nat → Int32) → (Nat → Int32) → (Nat → Int32) → (Nat → Int32) → (Nat → Int32) → Option (Int32 × Int32 × Int32 × Int32 × (Nat → Int32) × (Nat → Int32) × (Nat → Int32) × (Nat → Int32) × (Nat → Int32) × (Nat → Int32) × (Nat → Int32) × (Nat → Int32) × (Nat → Int32) × (Nat → Int32) × (Nat → Int32)))) (k196 : (Int32 → Int32 → Int32 → Int32 → Int32 → Int32 → Int32 → Int32 → Int32 → (Nat → Int32) → (Nat → Int32) → (Nat → Int32) → (Nat → Int32) → (Nat → Int32) → (Nat → Int32) → (Nat → Int32) → (Nat → Int32) → (Nat → Int32) → (Nat → Int32) → (Nat → Int32) → Option (Int32 × Int32 × Int32 × Int32 × (Nat → Int32) × (Nat → Int32) × (Nat → Int32) × (Nat → Int32) × (Nat → Int32) × (Nat → Int32) × (Nat → Int32) × (Nat → Int32) × (Nat → Int32) × (Nat → Int32) × (Nat → Int32)))) (l196_1 : Int32) (l196_2 : Int32) (l196_3 : Int32) (l196_4 : Int32) (l196_5 : Int32) (l196_6 : Int32) (x_t_thrown_196 : Int32) (x_t_persons_196 : Int32) (x_t_many_196 : Int32) (x_t_entries_196 : Nat → Int32) (x_t_marked_196 : Nat → Int32) (x_t_present_196 : Nat → Int32) (x_t_whose_196 : Nat → Int32) (x_t_where_196 : Nat → Int32) (x_t_what_196 : Nat → Int32) (x_t_before_196 : Nat → Int32) (x_t_behind_196 : Nat → Int32) (x_t_isOn_196 : Nat → Int32) (x_t_tryEntries_196 : Nat → Int32) (x_t_tryMarks_196 : Nat → Int32) : Option (Int32 × Int32 × Int32 × Int32 × (Nat → Int32) × (Nat → Int32) × (Nat → Int32) × (Nat → Int32) × (Nat → Int32) × (Nat → Int32) × (Nat → Int32) × (Nat → Int32) × (Nat → Int32) × (Nat → Int32) × (Nat → Int32)) :=
  (if l196_3 ≤ l196_6 then some (l196_5, x_t_thrown_196, x_t_persons_196, x_t_many_196, x_t_entries_196, x_t_marked_196, x_t_present_196, x_t_whose_196, x_t_where_196, x_t_what_196, x_t_before_196, x_t_behind_196, x_t_isOn_196, x_t_tryEntries_196, x_t_tryMarks_196) else (if inB l196_6 600 then (if (x_t_isOn_196 l196_6.toNatClampNeg) = 0 then (k196 l196_1 l196_2 l196_3 l196_4 l196_5 (l196_6 + (1 : Int32)) x_t_thrown_196 x_t_persons_196 x_t_many_196 x_t_entries_196 x_t_marked_196 x_t_present_196 x_t_whose_196 x_t_where_196 x_t_what_196 x_t_before_196 x_t_behind_196 x_t_isOn_196 x_t_tryEntries_196 x_t_tryMarks_196) else (if inB l196_6 600 then (if inB l196_6 600 then ((f_Md_addRow l196_5 (x_t_where_196 l196_6.toNatClampNeg) (x_t_what_196 l196_6.toNatClampNeg) x_t_thrown_196 x_t_places x_t_persons_196 x_t_many_196 x_t_size x_t_at x_t_sought x_t_found x_t_entries_196 x_t_marked_196 x_t_present_196 x_t_whose_196 x_t_where_196 x_t_what_196 x_t_before_196 x_t_behind_196).bind fun y19 => (k196 l196_1 l196_2 l196_3 l196_4 l196_5 (l196_6 + (1 : Int32)) x_t_thrown_196 x_t_persons_196 y19.2.1 y19.2.2.1 y19.2.2.2.1 y19.2.2.2.2.1 y19.2.2.2.2.2.1 y19.2.2.2.2.2.2.1 y19.2.2.2.2.2.2.2.1 y19.2.2.2.2.2.2.2.2.1 y19.2.2.2.2.2.2.2.2.2 x_t_isOn_196 x_t_tryEntries_196 x_t_tryMarks_196)) else none) else none)) else none))
def f_Md_join_L196 (fu : Nat) (x_t_places : Int32) (x_t_size : Int32) (x_t_at : Int32) (x_t_sought : Int32) (x_t_found : Int32) (k39 : (Int32 → Int32 → Int32 → Int32 → Int32 → Int32 → (Nat → Int32) → (Nat → Int32) → (Nat → Int32) → (Nat → Int32) → (Nat → Int32) → (Nat → Int32) → (Nat → Int32) → (Nat → Int32) → (Nat → Int32) → (Nat → Int32) → (Nat → Int32) → Option (Int32 × Int32 × Int32 × Int32 × (Nat → Int32) × (Nat → Int32) × (Nat → Int32) × (Nat → Int32) × (Nat → Int32) × (Nat → Int32) × (Nat → Int32) × (Nat → Int32) × (Nat → Int32) × (Nat → Int32) × (Nat → Int32)))) (k72 : (Int32 → Int32 → Int32 → Int32 → Int32 → Int32 → (Nat → Int32) → (Nat → Int32) → (Nat → Int32) → (Nat → Int32) → (Nat → Int32) → (Nat → Int32) → (Nat → Int32) → (Nat → Int32) → (Nat → Int32) → (Nat → Int32) → (Nat → Int32) → Option (Int32 × Int32 × Int32 × Int32 × (Nat → Int32) × (Nat → Int32) × (Nat → Int32) × (Nat → Int32) × (Nat → Int32) × (Nat → Int32) × (Nat → Int32) × (Nat → Int32) × (Nat → Int32) × (Nat → Int32) × (Nat → Int32)))) (k109 : (Int32 → Int32 → Int32 → Int32 → Int32 → Int32 → Int32 → Int32 → (Nat → Int32) → (Nat → Int32) → (Nat → Int32) → (Nat → Int32) → (Nat → Int32) → (Nat → Int32) → (Nat → Int32) → (Nat → Int32) → (Nat → Int32) → (Nat → Int32) → (Nat → Int32) → Option (Int32 × Int32 × Int32 × Int32 × (Nat → Int32) × (Nat → Int32) × (Nat → Int32) × (Nat → Int32) × (Nat → Int32) × (Nat → Int32) × (Nat → Int32) × (Nat → Int32) × (Nat → Int32) × (Nat → Int32) × (Nat → Int32)))) : Nat → Int32 → Int32 → Int32 → Int32 → Int32 → Int32 → Int32 → Int32 → Int32 → (Nat → Int32) → (Nat → Int32) → (Nat → Int32) → (Nat → Int32) → (Nat → Int32) → (Nat → Int32) → (Nat → Int32) → (Nat → Int32) → (Nat → Int32) → (Nat → Int32) → (Nat → Int32) → Option (Int32 × Int32 × Int32 × Int32 × (Nat → Int32) × (Nat → Int32) × (Nat → Int32) × (Nat → Int32) × (Nat → Int32) × (Nat → Int32) × (Nat → Int32) × (Nat → Int32) × (Nat → Int32) × (Nat → Int32) × (Nat → Int32))
  | 0 => fun _ _ _ _ _ _ _ _ _ _ _ _ _ _ _ _ _ _ _ _ => none
  | k9 + 1 => fb_Md_join_L196 fu x_t_places x_t_size x_t_at x_t_sought x_t_found k39 k72 k109 (f_Md_join_L196 fu x_t_places x_t_size x_t_at x_t_sought x_t_found k39 k72 k109 k9)
def fb_Md_join_L109 (fu : Nat) (x_t_places : Int32) (x_t_size : Int32) (x_t_at : Int32) (x_t_sought : Int32) (x_t_found : Int32) (k39 : (Int32 → Int32 → Int32 → Int32 → Int32 → Int32 → (Nat → Int32) → (Nat → Int32) → (Nat → Int32) → (Nat → Int32) → (Nat → Int32) → (Nat → Int32) → (Nat → Int32) → (Nat → Int32) → (Nat → Int32) → (Nat → Int32) → (Nat → Int32) → Option (Int32 × Int32 × Int32 × Int32 × (Nat → Int32) × (Nat → Int32) × (Nat → Int32) × (Nat → Int32) × (Nat → Int32) × (Nat → Int32) × (Nat → Int32) × (Nat → Int32) × (Nat → Int32) × (Nat → Int32) × (Nat → Int32)))) (k72 : (Int32 → Int32 → Int32 → Int32 → Int32 → Int32 → (Nat → Int32) → (Nat → Int32) → (Nat → Int32) → (Nat → Int32) → (Nat → Int32) → (Nat → Int32) → (Nat → Int32) → (Nat → Int32) → (Nat → Int32) → (Nat → Int32) → (Nat → Int32) → Option (Int32 × Int32 × Int32 × Int32 × (Nat → Int32) × (Nat → Int32) × (Nat → Int32) × (Nat → Int32) × (Nat → Int32) × (Nat → Int32) × (Nat → Int32) × (Nat → Int32) × (Nat → Int32) × (Nat → Int32) × (Nat → Int32)))) (k109 : (Int32 → Int32 → Int32 → Int32 → Int32 → Int32 → Int32 → Int32 → (Nat → Int32) → (Nat → Int32) → (Nat → Int32) → (Nat → Int32) → (Nat → Int32) → (Nat → Int32) → (Nat → Int32) → (Nat → Int32) → (Nat → Int32) → (Nat → Int32) → (Nat → Int32) → Option (Int32 × Int32 × Int32 × Int32 × (Nat → Int32) × (Nat → Int32) × (Nat → Int32) × (Nat → Int32) × (Nat → Int32) × (Nat → Int32) × (Nat → Int32) × (Nat → Int32) × (Nat → Int32) × (Nat → Int32) × (Nat → Int32)))) (l109_1 : Int32) (l109_2 : Int32) (l109_3 : Int32) (l109_4 : Int32) (l109_5 : Int32) (x_t_thrown_109 : Int32) (x_t_persons_109 : Int32) (x_t_many_109 : Int32) (x_t_entries_109 : Nat → Int32) (x_t_marked_109 : Nat → Int32) (x_t_present_109 : Nat → Int32) (x_t_whose_109 : Nat → Int32) (x_t_where_109 : Nat → Int32) (x_t_what_109 : Nat → Int32) (x_t_before_109 : Nat → Int32) (x_t_behind_109 : Nat → Int32) (x_t_isOn_109 : Nat → Int32) (x_t_tryEntries_109 : Nat → Int32) (x_t_tryMarks_109 : Nat → Int32) : Option (Int32 × Int32 × Int32 × Int32 × (Nat → Int32) × (Nat → Int32) × (Nat → Int32) × (Nat → Int32) × (Nat → Int32) × (Nat → Int32) × (Nat → Int32) × (Nat → Int32) × (Nat → Int32) × (Nat → Int32) × (Nat → Int32)) :=
  (if l109_3 ≤ l109_5 then (if (x_t_many_109 + l109_4) ≤ (600 : Int32) then ((f_Md_newPerson x_t_thrown_109 x_t_places x_t_persons_109 x_t_many_109 x_t_size x_t_at x_t_sought x_t_found x_t_present_109).bind fun y13 => (f_Md_join_L196 fu x_t_places x_t_size x_t_at x_t_sought x_t_found k39 k72 k109 fu l109_1 l109_2 l109_3 l109_4 y13.1 (0 : Int32) x_t_thrown_109 y13.2.1 x_t_many_109 x_t_entries_109 x_t_marked_109 y13.2.2 x_t_whose_109 x_t_where_109 x_t_what_109 x_t_before_109 x_t_behind_109 x_t_isOn_109 x_t_tryEntries_109 x_t_tryMarks_109)) else some ((-1 : Int32), x_t_thrown_109, x_t_persons_109, x_t_many_109, x_t_entries_109, x_t_marked_109, x_t_present_109, x_t_whose_109, x_t_where_109, x_t_what_109, x_t_before_109, x_t_behind_109, x_t_isOn_109, x_t_tryEntries_109, x_t_tryMarks_109)) else (if inB l109_5 600 then (if (x_t_isOn_109 l109_5.toNatClampNeg) = 0 then (if inB l109_5 600 then (if inB l109_5 600 then (if ((upd x_t_isOn_109 l109_5.toNatClampNeg (vp_nar .boolean (0 : Int32))) l109_5.toNatClampNeg) = 0 then (k109 l109_1 l109_2 l109_3 (l109_4 + (0 : Int32)) (l109_5 + (1 : Int32)) x_t_thrown_109 x_t_persons_109 x_t_many_109 x_t_entries_109 x_t_marked_109 x_t_present_109 x_t_whose_109 x_t_where_109 x_t_what_109 x_t_before_109 x_t_behind_109 (upd x_t_isOn_109 l109_5.toNatClampNeg (vp_nar .boolean (0 : Int32))) x_t_tryEntries_109 x_t_tryMarks_109) else (k109 l109_1 l109_2 l109_3 (l109_4 + (1 : Int32)) (l109_5 + (1 : Int32)) x_t_thrown_109 x_t_persons_109 x_t_many_109 x_t_entries_109 x_t_marked_109 x_t_present_109 x_t_whose_109 x_t_where_109 x_t_what_109 x_t_before_109 x_t_behind_109 (upd x_t_isOn_109 l109_5.toNatClampNeg (vp_nar .boolean (0 : Int32))) x_t_tryEntries_109 x_t_tryMarks_109)) else none) else none) else ((f_Md_changes l109_5 x_t_thrown_109 x_t_places x_t_persons_109 x_t_many_109 x_t_size x_t_at x_t_sought x_t_found x_t_where_109 x_t_what_109 x_t_tryEntries_109 x_t_tryMarks_109).bind fun y25 => (if y25.1 = 0 then (if inB l109_5 600 then (if inB l109_5 600 then (if ((upd x_t_isOn_109 l109_5.toNatClampNeg (vp_nar .boolean (0 : Int32))) l109_5.toNatClampNeg) = 0 then (k109 l109_1 l109_2 l109_3 (l109_4 + (0 : Int32)) (l109_5 + (1 : Int32)) x_t_thrown_109 x_t_persons_109 x_t_many_109 x_t_entries_109 x_t_marked_109 x_t_present_109 x_t_whose_109 x_t_where_109 x_t_what_109 x_t_before_109 x_t_behind_109 (upd x_t_isOn_109 l109_5.toNatClampNeg (vp_nar .boolean (0 : Int32))) y25.2.1 y25.2.2) else (k109 l109_1 l109_2 l109_3 (l109_4 + (1 : Int32)) (l109_5 + (1 : Int32)) x_t_thrown_109 x_t_persons_109 x_t_many_109 x_t_entries_109 x_t_marked_109 x_t_present_109 x_t_whose_109 x_t_where_109 x_t_what_109 x_t_before_109 x_t_behind_109 (upd x_t_isOn_109 l109_5.toNatClampNeg (vp_nar .boolean (0 : Int32))) y25.2.1 y25.2.2)) else none) else none) else (if inB l109_5 600 then (if inB l109_5 600 then (if ((upd x_t_isOn_109 l109_5.toNatClampNeg (vp_nar .boolean (1 : Int32))) l109_5.toNatClampNeg) = 0 then (k109 l109_1 l109_2 l109_3 (l109_4 + (0 : Int32)) (l109_5 + (1 : Int32)) x_t_thrown_109 x_t_persons_109 x_t_many_109 x_t_entries_109 x_t_marked_109 x_t_present_109 x_t_whose_109 x_t_where_109 x_t_what_109 x_t_before_109 x_t_behind_109 (upd x_t_isOn_109 l109_5.toNatClampNeg (vp_nar .boolean (1 : Int32))) y25.2.1 y25.2.2) else (k109 l109_1 l109_2 l109_3 (l109_4 + (1 : Int32)) (l109_5 + (1 : Int32)) x_t_thrown_109 x_t_persons_109 x_t_many_109 x_t_entries_109 x_t_marked_109 x_t_present_109 x_t_whose_109 x_t_where_109 x_t_what_109 x_t_before_109 x_t_behind_109 (upd x_t_isOn_109 l109_5.toNatClampNeg (vp_nar .boolean (1 : Int32))) y25.2.1 y25.2.2)) else none) else none)))) else none))
def f_Md_join_L109 (fu : Nat) (x_t_places : Int32) (x_t_size : Int32) (x_t_at : Int32) (x_t_sought : Int32) (x_t_found : Int32) (k39 : (Int32 → Int32 → Int32 → Int32 → Int32 → Int32 → (Nat → Int32) → (Nat → Int32) → (Nat → Int32) → (Nat → Int32) → (Nat → Int32) → (Nat → Int32) → (Nat → Int32) → (Nat → Int32) → (Nat → Int32) → (Nat → Int32) → (Nat → Int32) → Option (Int32 × Int32 × Int32 × Int32 × (Nat → Int32) × (Nat → Int32) × (Nat → Int32) × (Nat → Int32) × (Nat → Int32) × (Nat → Int32) × (Nat → Int32) × (Nat → Int32) × (Nat → Int32) × (Nat → Int32) × (Nat → Int32)))) (k72 : (Int32 → Int32 → Int32 → Int32 → Int32 → Int32 → (Nat → Int32) → (Nat → Int32) → (Nat → Int32) → (Nat → Int32) → (Nat → Int32) → (Nat → Int32) → (Nat → Int32) → (Nat → Int32) → (Nat → Int32) → (Nat → Int32) → (Nat → Int32) → Option (Int32 × Int32 × Int32 × Int32 × (Nat → Int32) × (Nat → Int32) × (Nat → Int32) × (Nat → Int32) × (Nat → Int32) × (Nat → Int32) × (Nat → Int32) × (Nat → Int32) × (Nat → Int32) × (Nat → Int32) × (Nat → Int32)))) : Nat → Int32 → Int32 → Int32 → Int32 → Int32 → Int32 → Int32 → Int32 → (Nat → Int32) → (Nat → Int32) → (Nat → Int32) → (Nat → Int32) → (Nat → Int32) → (Nat → Int32) → (Nat → Int32) → (Nat → Int32) → (Nat → Int32) → (Nat → Int32) → (Nat → Int32) → Option (Int32 × Int32 × Int32 × Int32 × (Nat → Int32) × (Nat → Int32) × (Nat → Int32) × (Nat → Int32) × (Nat → Int32) × (Nat → Int32) × (Nat → Int32) × (Nat → Int32) × (Nat → Int32) × (Nat → Int32) × (Nat → Int32))
  | 0 => fun _ _ _ _ _ _ _ _ _ _ _ _ _ _ _ _ _ _ _ => none
  | k9 + 1 => fb_Md_join_L109 fu x_t_places x_t_size x_t_at x_t_sought x_t_found k39 k72 (f_Md_join_L109 fu x_t_places x_t_size x_t_at x_t_sought x_t_found k39 k72 k9)
def fb_Md_join_L72 (fu : Nat) (x_t_places : Int32) (x_t_size : Int32) (x_t_at : Int32) (x_t_sought : Int32) (x_t_found : Int32) (k39 : (Int32 → Int32 → Int32 → Int32 → Int32 → Int32 → (Nat → Int32) → (Nat → Int32) → (Nat → Int32) → (Nat → Int32) → (Nat → Int32) → (Nat → Int32) → (Nat → Int32) → (Nat → Int32) → (Nat → Int32) → (Nat → Int32) → (Nat → Int32) → Option (Int32 × Int32 × Int32 × Int32 × (Nat → Int32) × (Nat → Int32) × (Nat → Int32) × (Nat → Int32) × (Nat → Int32) × (Nat → Int32) × (Nat → Int32) × (Nat → Int32) × (Nat → Int32) × (Nat → Int32) × (Nat → Int32)))) (k72 : (Int32 → Int32 → Int32 → Int32 → Int32 → Int32 → (Nat → Int32) → (Nat → Int32) → (Nat → Int32) → (Nat → Int32) → (Nat → Int32) → (Nat → Int32) → (Nat → Int32) → (Nat → Int32) → (Nat → Int32) → (Nat → Int32) → (Nat → Int32) → Option (Int32 × Int32 × Int32 × Int32 × (Nat → Int32) × (Nat → Int32) × (Nat → Int32) × (Nat → Int32) × (Nat → Int32) × (Nat → Int32) × (Nat → Int32) × (Nat → Int32) × (Nat → Int32) × (Nat → Int32) × (Nat → Int32)))) (l72_1 : Int32) (l72_2 : Int32) (l72_3 : Int32) (x_t_thrown_72 : Int32) (x_t_persons_72 : Int32) (x_t_many_72 : Int32) (x_t_entries_72 : Nat → Int32) (x_t_marked_72 : Nat → Int32) (x_t_present_72 : Nat → Int32) (x_t_whose_72 : Nat → Int32) (x_t_where_72 : Nat → Int32) (x_t_what_72 : Nat → Int32) (x_t_before_72 : Nat → Int32) (x_t_behind_72 : Nat → Int32) (x_t_isOn_72 : Nat → Int32) (x_t_tryEntries_72 : Nat → Int32) (x_t_tryMarks_72 : Nat → Int32) : Option (Int32 × Int32 × Int32 × Int32 × (Nat → Int32) × (Nat → Int32) × (Nat → Int32) × (Nat → Int32) × (Nat → Int32) × (Nat → Int32) × (Nat → Int32) × (Nat → Int32) × (Nat → Int32) × (Nat → Int32) × (Nat → Int32)) :=
  (if (81 : Int32) ≤ l72_3 then (f_Md_join_L109 fu x_t_places x_t_size x_t_at x_t_sought x_t_found k39 k72 fu l72_1 l72_2 x_t_many_72 (0 : Int32) (0 : Int32) x_t_thrown_72 x_t_persons_72 x_t_many_72 x_t_entries_72 x_t_marked_72 x_t_present_72 x_t_whose_72 x_t_where_72 x_t_what_72 x_t_before_72 x_t_behind_72 x_t_isOn_72 x_t_tryEntries_72 x_t_tryMarks_72) else (if inB l72_3 81 then (if inB l72_3 81 then (k72 l72_1 l72_2 (l72_3 + (1 : Int32)) x_t_thrown_72 x_t_persons_72 x_t_many_72 x_t_entries_72 x_t_marked_72 x_t_present_72 x_t_whose_72 x_t_where_72 x_t_what_72 x_t_before_72 x_t_behind_72 x_t_isOn_72 (upd x_t_tryEntries_72 l72_3.toNatClampNeg (0 : Int32)) (upd x_t_tryMarks_72 l72_3.toNatClampNeg (0 : Int32))) else none) else none))
def f_Md_join_L72 (fu : Nat) (x_t_places : Int32) (x_t_size : Int32) (x_t_at : Int32) (x_t_sought : Int32) (x_t_found : Int32) (k39 : (Int32 → Int32 → Int32 → Int32 → Int32 → Int32 → (Nat → Int32) → (Nat → Int32) → (Nat → Int32) → (Nat → Int32) → (Nat → Int32) → (Nat → Int32) → (Nat → Int32) → (Nat → Int32) → (Nat → Int32) → (Nat → Int32) → (Nat → Int32) → Option (Int32 × Int32 × Int32 × Int32 × (Nat → Int32) × (Nat → Int32) × (Nat → Int32) × (Nat → Int32) × (Nat → Int32) × (Nat → Int32) × (Nat → Int32) × (Nat → Int32) × (Nat → Int32) × (Nat → Int32) × (Nat → Int32)))) : Nat → Int32 → Int32 → Int32 → Int32 → Int32 → Int32 → (Nat → Int32) → (Nat → Int32) → (Nat → Int32) → (Nat → Int32) → (Nat → Int32) → (Nat → Int32) → (Nat → Int32) → (Nat → Int32) → (Nat → Int32) → (Nat → Int32) → (Nat → Int32) → Option (Int32 × Int32 × Int32 × Int32 × (Nat → Int32) × (Nat → Int32) × (Nat → Int32) × (Nat → Int32) × (Nat → Int32) × (Nat → Int32) × (Nat → Int32) × (Nat → Int32) × (Nat → Int32) × (Nat → Int32) × (Nat → Int32))
  | 0 => fun _ _ _ _ _ _ _ _ _ _ _ _ _ _ _ _ _ => none
  | k9 + 1 => fb_Md_join_L72 fu x_t_places x_t_size x_t_at x_t_sought x_t_found k39 (f_Md_join_L72 fu x_t_places x_t_size x_t_at x_t_sought x_t_found k39 k9)
def fb_Md_join_L39 (fu : Nat) (x_t_places : Int32) (x_t_size : Int32) (x_t_at : Int32) (x_t_sought : Int32) (x_t_found : Int32)  (k39 : (Int32 → Int32 → Int32 → Int32 → Int32 → Int32 → (Nat → Int32) → (Nat → Int32) → (Nat → Int32) → (Nat → Int32) → (Nat → Int32) → (Nat → Int32) → (Nat → Int32) → (Nat → Int32) → (Nat → Int32) → (Nat → Int32) → (Nat → Int32) → Option (Int32 × Int32 × Int32 × Int32 × (Nat → Int32) × (Nat → Int32) × (Nat → Int32) × (Nat → Int32) × (Nat → Int32) × (Nat → Int32) × (Nat → Int32) × (Nat → Int32) × (Nat → Int32) × (Nat → Int32) × (Nat → Int32)))) (l39_1 : Int32) (l39_2 : Int32) (l39_3 : Int32) (x_t_thrown_39 : Int32) (x_t_persons_39 : Int32) (x_t_many_39 : Int32) (x_t_entries_39 : Nat → Int32) (x_t_marked_39 : Nat → Int32) (x_t_present_39 : Nat → Int32) (x_t_whose_39 : Nat → Int32) (x_t_where_39 : Nat → Int32) (x_t_what_39 : Nat → Int32) (x_t_before_39 : Nat → Int32) (x_t_behind_39 : Nat → Int32) (x_t_isOn_39 : Nat → Int32) (x_t_tryEntries_39 : Nat → Int32) (x_t_tryMarks_39 : Nat → Int32) : Option (Int32 × Int32 × Int32 × Int32 × (Nat → Int32) × (Nat → Int32) × (Nat → Int32) × (Nat → Int32) × (Nat → Int32) × (Nat → Int32) × (Nat → Int32) × (Nat → Int32) × (Nat → Int32) × (Nat → Int32) × (Nat → Int32)) :=
  (if x_t_many_39 ≤ l39_3 then ((f_Md_walk fu l39_1 x_t_thrown_39 x_t_places x_t_persons_39 x_t_many_39 x_t_size x_t_at x_t_sought x_t_found x_t_present_39 x_t_behind_39 x_t_isOn_39).bind fun y8 => ((f_Md_walk fu l39_2 x_t_thrown_39 x_t_places x_t_persons_39 x_t_many_39 x_t_size x_t_at x_t_sought x_t_found x_t_present_39 x_t_behind_39 y8).bind fun y9 => (f_Md_join_L72 fu x_t_places x_t_size x_t_at x_t_sought x_t_found k39 fu l39_1 l39_2 (0 : Int32) x_t_thrown_39 x_t_persons_39 x_t_many_39 x_t_entries_39 x_t_marked_39 x_t_present_39 x_t_whose_39 x_t_where_39 x_t_what_39 x_t_before_39 x_t_behind_39 y9 x_t_tryEntries_39 x_t_tryMarks_39))) else (if inB l39_3 600 then (k39 l39_1 l39_2 (l39_3 + (1 : Int32)) x_t_thrown_39 x_t_persons_39 x_t_many_39 x_t_entries_39 x_t_marked_39 x_t_present_39 x_t_whose_39 x_t_where_39 x_t_what_39 x_t_before_39 x_t_behind_39 (upd x_t_isOn_39 l39_3.toNatClampNeg (vp_nar .boolean (0 : Int32))) x_t_tryEntries_39 x_t_tryMarks_39) else none))
def f_Md_join_L39 (fu : Nat) (x_t_places : Int32) (x_t_size : Int32) (x_t_at : Int32) (x_t_sought : Int32) (x_t_found : Int32)  : Nat → Int32 → Int32 → Int32 → Int32 → Int32 → Int32 → (Nat → Int32) → (Nat → Int32) → (Nat → Int32) → (Nat → Int32) → (Nat → Int32) → (Nat → Int32) → (Nat → Int32) → (Nat → Int32) → (Nat → Int32) → (Nat → Int32) → (Nat → Int32) → Option (Int32 × Int32 × Int32 × Int32 × (Nat → Int32) × (Nat → Int32) × (Nat → Int32) × (Nat → Int32) × (Nat → Int32) × (Nat → Int32) × (Nat → Int32) × (Nat → Int32) × (Nat → Int32) × (Nat → Int32) × (Nat → Int32))
  | 0 => fun _ _ _ _ _ _ _ _ _ _ _ _ _ _ _ _ _ => none
  | k9 + 1 => fb_Md_join_L39 fu x_t_places x_t_size x_t_at x_t_sought x_t_found (f_Md_join_L39 fu x_t_places x_t_size x_t_at x_t_sought x_t_found k9)
def f_Md_join (fu : Nat)  (p0 : Int32) (p1 : Int32) (x_t_thrown : Int32) (x_t_places : Int32) (x_t_persons : Int32) (x_t_many : Int32) (x_t_size : Int32) (x_t_at : Int32) (x_t_sought : Int32) (x_t_found : Int32) (x_t_entries : Nat → Int32) (x_t_marked : Nat → Int32) (x_t_present : Nat → Int32) (x_t_whose : Nat → Int32) (x_t_where : Nat → Int32) (x_t_what : Nat → Int32) (x_t_before : Nat → Int32) (x_t_behind : Nat → Int32) (x_t_isOn : Nat → Int32) (x_t_tryEntries : Nat → Int32) (x_t_tryMarks : Nat → Int32) : Option (Int32 × Int32 × Int32 × Int32 × (Nat → Int32) × (Nat → Int32) × (Nat → Int32) × (Nat → Int32) × (Nat → Int32) × (Nat → Int32) × (Nat → Int32) × (Nat → Int32) × (Nat → Int32) × (Nat → Int32) × (Nat → Int32)) :=
  ((f_Md_isPerson p0 (0 : Int32) x_t_places x_t_persons x_t_many x_t_size x_t_at x_t_sought x_t_found).bind fun y1 => (if y1 = 0 then some ((-1 : Int32), (0 : Int32), x_t_persons, x_t_many, x_t_entries, x_t_marked, x_t_present, x_t_whose, x_t_where, x_t_what, x_t_before, x_t_behind, x_t_isOn, x_t_tryEntries, x_t_tryMarks) else ((f_Md_isPerson p1 (0 : Int32) x_t_places x_t_persons x_t_many x_t_size x_t_at x_t_sought x_t_found).bind fun y3 => (if y3 = 0 then some ((-1 : Int32), (0 : Int32), x_t_persons, x_t_many, x_t_entries, x_t_marked, x_t_present, x_t_whose, x_t_where, x_t_what, x_t_before, x_t_behind, x_t_isOn, x_t_tryEntries, x_t_tryMarks) else (if p0 = p1 then some ((-1 : Int32), (0 : Int32), x_t_persons, x_t_many, x_t_entries, x_t_marked, x_t_present, x_t_whose, x_t_where, x_t_what, x_t_before, x_t_behind, x_t_isOn, x_t_tryEntries, x_t_tryMarks) else (if x_t_persons = (8 : Int32) then some ((-1 : Int32), (0 : Int32), x_t_persons, x_t_many, x_t_entries, x_t_marked, x_t_present, x_t_whose, x_t_where, x_t_what, x_t_before, x_t_behind, x_t_isOn, x_t_tryEntries, x_t_tryMarks) else (f_Md_join_L39 fu x_t_places x_t_size x_t_at x_t_sought x_t_found fu p0 p1 (0 : Int32) (0 : Int32) x_t_persons x_t_many x_t_entries x_t_marked x_t_present x_t_whose x_t_where x_t_what x_t_before x_t_behind x_t_isOn x_t_tryEntries x_t_tryMarks)))))))
set_option maxHeartbeats 4000000 in
set_option maxRecDepth 100000 in
theorem c_Md_join (l : Launch) (G : gG) (sz : Nat) (a_t a_t_truth a_t_helped a_t_counted a_t_told a_t_runs a_t_text a_t_entries a_t_marked a_t_present a_t_whose a_t_where a_t_what a_t_before a_t_behind a_t_isOn a_t_tryEntries a_t_tryMarks : Nat) (fu : Nat)  (p0 : Int32) (p1 : Int32) (x_t_thrown : Int32) (x_t_places : Int32) (x_t_persons : Int32) (x_t_many : Int32) (x_t_size : Int32) (x_t_at : Int32) (x_t_sought : Int32) (x_t_found : Int32) (x_t_entries : Nat → Int32) (x_t_marked : Nat → Int32) (x_t_present : Nat → Int32) (x_t_whose : Nat → Int32) (x_t_where : Nat → Int32) (x_t_what : Nat → Int32) (x_t_before : Nat → Int32) (x_t_behind : Nat → Int32) (x_t_isOn : Nat → Int32) (x_t_tryEntries : Nat → Int32) (x_t_tryMarks : Nat → Int32) (r : Int32) (x_t_thrown' : Int32) (x_t_persons' : Int32) (x_t_many' : Int32) (x_t_entries' : Nat → Int32) (x_t_marked' : Nat → Int32) (x_t_present' : Nat → Int32) (x_t_whose' : Nat → Int32) (x_t_where' : Nat → Int32) (x_t_what' : Nat → Int32) (x_t_before' : Nat → Int32) (x_t_behind' : Nat → Int32) (x_t_isOn' : Nat → Int32) (x_t_tryEntries' : Nat → Int32) (x_t_tryMarks' : Nat → Int32) (h : f_Md_join fu p0 p1 x_t_thrown x_t_places x_t_persons x_t_many x_t_size x_t_at x_t_sought x_t_found x_t_entries x_t_marked x_t_present x_t_whose x_t_where x_t_what x_t_before x_t_behind x_t_isOn x_t_tryEntries x_t_tryMarks = some (r, x_t_thrown', x_t_persons', x_t_many', x_t_entries', x_t_marked', x_t_present', x_t_whose', x_t_where', x_t_what', x_t_before', x_t_behind', x_t_isOn', x_t_tryEntries', x_t_tryMarks'))  : cN l y_Md_join w_Md_join { frames := 2, cells := 0, slots := 0, locals := 47 } G sz [.ref a_t, .int p0, .int p1] (ws_Md_join G a_t a_t_truth a_t_helped a_t_counted a_t_told a_t_runs a_t_text a_t_entries a_t_marked a_t_present a_t_whose a_t_where a_t_what a_t_before a_t_behind a_t_isOn a_t_tryEntries a_t_tryMarks x_t_thrown x_t_places x_t_persons x_t_many x_t_size x_t_at x_t_sought x_t_found x_t_entries x_t_marked x_t_present x_t_whose x_t_where x_t_what x_t_before x_t_behind x_t_isOn x_t_tryEntries x_t_tryMarks) (some (.int r)) (wB G (ws_Md_join G a_t a_t_truth a_t_helped a_t_counted a_t_told a_t_runs a_t_text a_t_entries a_t_marked a_t_present a_t_whose a_t_where a_t_what a_t_before a_t_behind a_t_isOn a_t_tryEntries a_t_tryMarks x_t_thrown' x_t_places x_t_persons' x_t_many' x_t_size x_t_at x_t_sought x_t_found x_t_entries' x_t_marked' x_t_present' x_t_whose' x_t_where' x_t_what' x_t_before' x_t_behind' x_t_isOn' x_t_tryEntries' x_t_tryMarks')) 0 0 := by
  refine cN_ofW (cc := prog_8_method_27_code) (maxL := 7) (ret := (some .int)) (by decide) rfl (Nat.le_of_ble_eq_true rfl) ?_
  intro p e s m args below meth c A H locs ls hx hb hr hts hown hlocks hin hml hK hN hP hD hA hS hl
  replace hl : lv_has ls 7 [(0, .ref a_t), (1, .int p0), (2, .int p1)] := hl
  replace hown : s.vm.findClass "PlayStatesModel" = some m.cls := hown
  unfold f_Md_join at h
  refine lv_aload_n hx hb d_Md_join_0 rfl (lv_at hl 0 rfl) ?_
  refine lv_iconst (v := (0 : Int32)) hx hb d_Md_join_1 (by decide) ?_
  refine va_put (D := G.1) (ci := 6) (v := .int (0 : Int32)) (ty := .int) (C := "PlayStatesModel") (T := TMd) (N := 25) hx hb hts iw_6 tyMd tyMd_ok nmMd hown hK hP hD hS 0 rfl rfl 0 (by decide) (hts _ gw_379) (fun _ h9 => h9) rfl (by decide +kernel) (by rfl) (by rfl) (Nat.le_of_ble_eq_true rfl) d_Md_join_2 (fun H locs hP hD hS => ?_)
  replace hP : va_P G.1 vwCl (ws_Md_join G a_t a_t_truth a_t_helped a_t_counted a_t_told a_t_runs a_t_text a_t_entries a_t_marked a_t_present a_t_whose a_t_where a_t_what a_t_before a_t_behind a_t_isOn a_t_tryEntries a_t_tryMarks (0 : Int32) x_t_places x_t_persons x_t_many x_t_size x_t_at x_t_sought x_t_found x_t_entries x_t_marked x_t_present x_t_whose x_t_where x_t_what x_t_before x_t_behind x_t_isOn x_t_tryEntries x_t_tryMarks) H := hP
  replace hD : va_D A (ws_Md_join G a_t a_t_truth a_t_helped a_t_counted a_t_told a_t_runs a_t_text a_t_entries a_t_marked a_t_present a_t_whose a_t_where a_t_what a_t_before a_t_behind a_t_isOn a_t_tryEntries a_t_tryMarks (0 : Int32) x_t_places x_t_persons x_t_many x_t_size x_t_at x_t_sought x_t_found x_t_entries x_t_marked x_t_present x_t_whose x_t_where x_t_what x_t_before x_t_behind x_t_isOn x_t_tryEntries x_t_tryMarks) := hD
  refine lv_aload_n hx hb d_Md_join_5 rfl (lv_at hl 0 rfl) ?_
  refine lv_iload_n hx hb d_Md_join_6 rfl (lv_at hl 1 rfl) ?_
  obtain ⟨y1, hy1, h⟩ := o_bind h
  have hPc := hP.sub (ws' := (ws_Md_isPerson G a_t a_t_truth a_t_entries a_t_marked a_t_present a_t_helped a_t_counted a_t_told a_t_runs a_t_whose a_t_where a_t_what a_t_before a_t_behind a_t_isOn a_t_tryEntries a_t_tryMarks a_t_text (0 : Int32) x_t_places x_t_persons x_t_many x_t_size x_t_at x_t_sought x_t_found)) [0] rfl
  have hDc := hD.sub (ws' := (ws_Md_isPerson G a_t a_t_truth a_t_entries a_t_marked a_t_present a_t_helped a_t_counted a_t_told a_t_runs a_t_whose a_t_where a_t_what a_t_before a_t_behind a_t_isOn a_t_tryEntries a_t_tryMarks a_t_text (0 : Int32) x_t_places x_t_persons x_t_many x_t_size x_t_at x_t_sought x_t_found)) [0] (by decide) rfl
  have hFc := va_free (wc := (ws_Md_isPerson G a_t a_t_truth a_t_entries a_t_marked a_t_present a_t_helped a_t_counted a_t_told a_t_runs a_t_whose a_t_where a_t_what a_t_before a_t_behind a_t_isOn a_t_tryEntries a_t_tryMarks a_t_text (0 : Int32) x_t_places x_t_persons x_t_many x_t_size x_t_at x_t_sought x_t_found)) hD hS hA [0] rfl
  refine q_call1 (va_runV (As := [.int p0]) (rest := []) ⟨hx, hb, hml, hown, hts⟩ (c_Md_isPerson l G H.size a_t a_t_truth a_t_entries a_t_marked a_t_present a_t_helped a_t_counted a_t_told a_t_runs a_t_whose a_t_where a_t_what a_t_before a_t_behind a_t_isOn a_t_tryEntries a_t_tryMarks a_t_text p0 (0 : Int32) x_t_places x_t_persons x_t_many x_t_size x_t_at x_t_sought x_t_found _ hy1) (cwV 1 hts (gV gw_441 gw_442 gw_17 gw_36 gw_443) rfl rfl rfl (by decide +kernel) ⟨Nat.le_of_ble_eq_true rfl, Nat.le_of_ble_eq_true rfl⟩) (pV hK hN hPc hDc (ci := 6) (q0 := 0) rfl rfl) rfl rfl hl.1 rfl (lv_room (Nat.le_of_ble_eq_true rfl)) d_Md_join_7 ⟨Nat.le_of_ble_eq_true rfl, Nat.le_of_ble_eq_true rfl⟩) hS (fun q _ h => hFc q h) hFc (fun H1 locs hB hz hk hS => ?_)
  obtain ⟨hP, hD⟩ := q_join (wr := [(a_t_entries, .inl (G.2 0, 648, .inl x_t_entries)), (a_t_marked, .inl (G.2 0, 648, .inl x_t_marked)), (a_t_present, .inl (G.2 0, 8, .inl x_t_present)), (a_t_whose, .inl (G.2 0, 600, .inl x_t_whose)), (a_t_where, .inl (G.2 0, 600, .inl x_t_where)), (a_t_what, .inl (G.2 0, 600, .inl x_t_what)), (a_t_before, .inl (G.2 0, 600, .inl x_t_before)), (a_t_behind, .inl (G.2 0, 600, .inl x_t_behind)), (a_t_isOn, .inl (G.2 1, 600, .inl x_t_isOn)), (a_t_tryEntries, .inl (G.2 0, 81, .inl x_t_tryEntries)), (a_t_tryMarks, .inl (G.2 0, 81, .inl x_t_tryMarks))]) (wn := (ws_Md_join G a_t a_t_truth a_t_helped a_t_counted a_t_told a_t_runs a_t_text a_t_entries a_t_marked a_t_present a_t_whose a_t_where a_t_what a_t_before a_t_behind a_t_isOn a_t_tryEntries a_t_tryMarks (0 : Int32) x_t_places x_t_persons x_t_many x_t_size x_t_at x_t_sought x_t_found x_t_entries x_t_marked x_t_present x_t_whose x_t_where x_t_what x_t_before x_t_behind x_t_isOn x_t_tryEntries x_t_tryMarks)) hP hD [0] [1, 2, 3, 4, 5, 6, 7, 8, 9, 10, 11] [11, 0, 1, 2, 3, 4, 5, 6, 7, 8, 9, 10] rfl rfl (by decide) (by decide) rfl (by decide) hk hFc hB.1 hB.2
  generalize H1 = H at hP hS ⊢
  replace hP : va_P G.1 vwCl (ws_Md_join G a_t a_t_truth a_t_helped a_t_counted a_t_told a_t_runs a_t_text a_t_entries a_t_marked a_t_present a_t_whose a_t_where a_t_what a_t_before a_t_behind a_t_isOn a_t_tryEntries a_t_tryMarks (0 : Int32) x_t_places x_t_persons x_t_many x_t_size x_t_at x_t_sought x_t_found x_t_entries x_t_marked x_t_present x_t_whose x_t_where x_t_what x_t_before x_t_behind x_t_isOn x_t_tryEntries x_t_tryMarks) H := hP
  replace hD : va_D A (ws_Md_join G a_t a_t_truth a_t_helped a_t_counted a_t_told a_t_runs a_t_text a_t_entries a_t_marked a_t_present a_t_whose a_t_where a_t_what a_t_before a_t_behind a_t_isOn a_t_tryEntries a_t_tryMarks (0 : Int32) x_t_places x_t_persons x_t_many x_t_size x_t_at x_t_sought x_t_found x_t_entries x_t_marked x_t_present x_t_whose x_t_where x_t_what x_t_before x_t_behind x_t_isOn x_t_tryEntries x_t_tryMarks) := hD
  refine lv_if_eq (tgt := 35) hx hb d_Md_join_10 (by decide) (fun c2 => ?_) (fun c2 => ?_)
  · replace h := (if_pos c2).symm.trans h
    refine lv_iconst (v := (-1 : Int32)) hx hb d_Md_join_35 (by decide) ?_
    simp only [Option.some.injEq, Prod.mk.injEq] at h
    obtain ⟨rfl, rfl, rfl, rfl, rfl, rfl, rfl, rfl, rfl, rfl, rfl, rfl, rfl, rfl, rfl⟩ := h
    exact q_iretW hx hb hr hlocks hP hD hS d_Md_join_36
  · replace h := (if_neg c2).symm.trans h
    refine lv_aload_n hx hb d_Md_join_13 rfl (lv_at hl 0 rfl) ?_
    refine lv_iload_n hx hb d_Md_join_14 rfl (lv_at hl 2 rfl) ?_
    obtain ⟨y3, hy3, h⟩ := o_bind h
    have hPc := hP.sub (ws' := (ws_Md_isPerson G a_t a_t_truth a_t_entries a_t_marked a_t_present a_t_helped a_t_counted a_t_told a_t_runs a_t_whose a_t_where a_t_what a_t_before a_t_behind a_t_isOn a_t_tryEntries a_t_tryMarks a_t_text (0 : Int32) x_t_places x_t_persons x_t_many x_t_size x_t_at x_t_sought x_t_found)) [0] rfl
    have hDc := hD.sub (ws' := (ws_Md_isPerson G a_t a_t_truth a_t_entries a_t_marked a_t_present a_t_helped a_t_counted a_t_told a_t_runs a_t_whose a_t_where a_t_what a_t_before a_t_behind a_t_isOn a_t_tryEntries a_t_tryMarks a_t_text (0 : Int32) x_t_places x_t_persons x_t_many x_t_size x_t_at x_t_sought x_t_found)) [0] (by decide) rfl
    have hFc := va_free (wc := (ws_Md_isPerson G a_t a_t_truth a_t_entries a_t_marked a_t_present a_t_helped a_t_counted a_t_told a_t_runs a_t_whose a_t_where a_t_what a_t_before a_t_behind a_t_isOn a_t_tryEntries a_t_tryMarks a_t_text (0 : Int32) x_t_places x_t_persons x_t_many x_t_size x_t_at x_t_sought x_t_found)) hD hS hA [0] rfl
    refine q_call1 (va_runV (As := [.int p1]) (rest := []) ⟨hx, hb, hml, hown, hts⟩ (c_Md_isPerson l G H.size a_t a_t_truth a_t_entries a_t_marked a_t_present a_t_helped a_t_counted a_t_told a_t_runs a_t_whose a_t_where a_t_what a_t_before a_t_behind a_t_isOn a_t_tryEntries a_t_tryMarks a_t_text p1 (0 : Int32) x_t_places x_t_persons x_t_many x_t_size x_t_at x_t_sought x_t_found _ hy3) (cwV 1 hts (gV gw_441 gw_442 gw_17 gw_36 gw_443) rfl rfl rfl (by decide +kernel) ⟨Nat.le_of_ble_eq_true rfl, Nat.le_of_ble_eq_true rfl⟩) (pV hK hN hPc hDc (ci := 6) (q0 := 0) rfl rfl) rfl rfl hl.1 rfl (lv_room (Nat.le_of_ble_eq_true rfl)) d_Md_join_15 ⟨Nat.le_of_ble_eq_true rfl, Nat.le_of_ble_eq_true rfl⟩) hS (fun q _ h => hFc q h) hFc (fun H1 locs hB hz hk hS => ?_)
    obtain ⟨hP, hD⟩ := q_join (wr := [(a_t_entries, .inl (G.2 0, 648, .inl x_t_entries)), (a_t_marked, .inl (G.2 0, 648, .inl x_t_marked)), (a_t_present, .inl (G.2 0, 8, .inl x_t_present)), (a_t_whose, .inl (G.2 0, 600, .inl x_t_whose)), (a_t_where, .inl (G.2 0, 600, .inl x_t_where)), (a_t_what, .inl (G.2 0, 600, .inl x_t_what)), (a_t_before, .inl (G.2 0, 600, .inl x_t_before)), (a_t_behind, .inl (G.2 0, 600, .inl x_t_behind)), (a_t_isOn, .inl (G.2 1, 600, .inl x_t_isOn)), (a_t_tryEntries, .inl (G.2 0, 81, .inl x_t_tryEntries)), (a_t_tryMarks, .inl (G.2 0, 81, .inl x_t_tryMarks))]) (wn := (ws_Md_join G a_t a_t_truth a_t_helped a_t_counted a_t_told a_t_runs a_t_text a_t_entries a_t_marked a_t_present a_t_whose a_t_where a_t_what a_t_before a_t_behind a_t_isOn a_t_tryEntries a_t_tryMarks (0 : Int32) x_t_places x_t_persons x_t_many x_t_size x_t_at x_t_sought x_t_found x_t_entries x_t_marked x_t_present x_t_whose x_t_where x_t_what x_t_before x_t_behind x_t_isOn x_t_tryEntries x_t_tryMarks)) hP hD [0] [1, 2, 3, 4, 5, 6, 7, 8, 9, 10, 11] [11, 0, 1, 2, 3, 4, 5, 6, 7, 8, 9, 10] rfl rfl (by decide) (by decide) rfl (by decide) hk hFc hB.1 hB.2
    generalize H1 = H at hP hS ⊢
    replace hP : va_P G.1 vwCl (ws_Md_join G a_t a_t_truth a_t_helped a_t_counted a_t_told a_t_runs a_t_text a_t_entries a_t_marked a_t_present a_t_whose a_t_where a_t_what a_t_before a_t_behind a_t_isOn a_t_tryEntries a_t_tryMarks (0 : Int32) x_t_places x_t_persons x_t_many x_t_size x_t_at x_t_sought x_t_found x_t_entries x_t_marked x_t_present x_t_whose x_t_where x_t_what x_t_before x_t_behind x_t_isOn x_t_tryEntries x_t_tryMarks) H := hP
    replace hD : va_D A (ws_Md_join G a_t a_t_truth a_t_helped a_t_counted a_t_told a_t_runs a_t_text a_t_entries a_t_marked a_t_present a_t_whose a_t_where a_t_what a_t_before a_t_behind a_t_isOn a_t_tryEntries a_t_tryMarks (0 : Int32) x_t_places x_t_persons x_t_many x_t_size x_t_at x_t_sought x_t_found x_t_entries x_t_marked x_t_present x_t_whose x_t_where x_t_what x_t_before x_t_behind x_t_isOn x_t_tryEntries x_t_tryMarks) := hD
    refine lv_if_eq (tgt := 35) hx hb d_Md_join_18 (by decide) (fun c4 => ?_) (fun c4 => ?_)
    · replace h := (if_pos c4).symm.trans h
      refine lv_iconst (v := (-1 : Int32)) hx hb d_Md_join_35 (by decide) ?_
      simp only [Option.some.injEq, Prod.mk.injEq] at h
      obtain ⟨rfl, rfl, rfl, rfl, rfl, rfl, rfl, rfl, rfl, rfl, rfl, rfl, rfl, rfl, rfl⟩ := h
      exact q_iretW hx hb hr hlocks hP hD hS d_Md_join_36
    · replace h := (if_neg c4).symm.trans h
      refine lv_iload_n hx hb d_Md_join_21 rfl (lv_at hl 1 rfl) ?_
      refine lv_iload_n hx hb d_Md_join_22 rfl (lv_at hl 2 rfl) ?_
      refine lv_icmp_eq (tgt := 35) hx hb d_Md_join_23 (by decide) (fun c5 => ?_) (fun c5 => ?_)
      · replace h := (if_pos c5).symm.trans h
        refine lv_iconst (v := (-1 : Int32)) hx hb d_Md_join_35 (by decide) ?_
        simp only [Option.some.injEq, Prod.mk.injEq] at h
        obtain ⟨rfl, rfl, rfl, rfl, rfl, rfl, rfl, rfl, rfl, rfl, rfl, rfl, rfl, rfl, rfl⟩ := h
        exact q_iretW hx hb hr hlocks hP hD hS d_Md_join_36
      · replace h := (if_neg c5).symm.trans h
        refine lv_aload_n hx hb d_Md_join_26 rfl (lv_at hl 0 rfl) ?_
        refine va_get (D := G.1) (ci := 6) (v := .int x_t_persons) (C := "PlayStatesModel") (T := TMd) (N := 25) hx hb hts iw_6 hown hK hP 0 rfl rfl 2 (by decide) (hts _ gw_381) (fun _ h9 => h9) rfl d_Md_join_27 ?_
        refine lv_bipush (v := (8 : Int32)) hx hb d_Md_join_30 (by decide) ?_
        refine lv_icmp_ne (tgt := 37) hx hb d_Md_join_32 (by decide) (fun c6 => ?_) (fun c6 => ?_)
        · replace h := (if_neg c6).symm.trans h
          refine lv_iconst (v := (0 : Int32)) hx hb d_Md_join_37 (by decide) ?_
          refine lv_istore_n (lv' := [(3, .int (0 : Int32)), (0, .ref a_t), (1, .int p0), (2, .int p1)]) hx hb d_Md_join_38 rfl hl (by decide) rfl (fun ls hl => ?_)
          have L39 : ∀ (nf : Nat) (l39_1 : Int32) (l39_2 : Int32) (l39_3 : Int32) (x_t_thrown_39 : Int32) (x_t_persons_39 : Int32) (x_t_many_39 : Int32) (x_t_entries_39 : Nat → Int32) (x_t_marked_39 : Nat → Int32) (x_t_present_39 : Nat → Int32) (x_t_whose_39 : Nat → Int32) (x_t_where_39 : Nat → Int32) (x_t_what_39 : Nat → Int32) (x_t_before_39 : Nat → Int32) (x_t_behind_39 : Nat → Int32) (x_t_isOn_39 : Nat → Int32) (x_t_tryEntries_39 : Nat → Int32) (x_t_tryMarks_39 : Nat → Int32) (H : Heap) (locs : List Loc) (ls : Array Slot), f_Md_join_L39 fu x_t_places x_t_size x_t_at x_t_sought x_t_found nf l39_1 l39_2 l39_3 x_t_thrown_39 x_t_persons_39 x_t_many_39 x_t_entries_39 x_t_marked_39 x_t_present_39 x_t_whose_39 x_t_where_39 x_t_what_39 x_t_before_39 x_t_behind_39 x_t_isOn_39 x_t_tryEntries_39 x_t_tryMarks_39 = some (r, x_t_thrown', x_t_persons', x_t_many', x_t_entries', x_t_marked', x_t_present', x_t_whose', x_t_where', x_t_what', x_t_before', x_t_behind', x_t_isOn', x_t_tryEntries', x_t_tryMarks') → va_P G.1 vwCl (ws_Md_join G a_t a_t_truth a_t_helped a_t_counted a_t_told a_t_runs a_t_text a_t_entries a_t_marked a_t_present a_t_whose a_t_where a_t_what a_t_before a_t_behind a_t_isOn a_t_tryEntries a_t_tryMarks x_t_thrown_39 x_t_places x_t_persons_39 x_t_many_39 x_t_size x_t_at x_t_sought x_t_found x_t_entries_39 x_t_marked_39 x_t_present_39 x_t_whose_39 x_t_where_39 x_t_what_39 x_t_before_39 x_t_behind_39 x_t_isOn_39 x_t_tryEntries_39 x_t_tryMarks_39) H → va_D A (ws_Md_join G a_t a_t_truth a_t_helped a_t_counted a_t_told a_t_runs a_t_text a_t_entries a_t_marked a_t_present a_t_whose a_t_where a_t_what a_t_before a_t_behind a_t_isOn a_t_tryEntries a_t_tryMarks x_t_thrown_39 x_t_places x_t_persons_39 x_t_many_39 x_t_size x_t_at x_t_sought x_t_found x_t_entries_39 x_t_marked_39 x_t_present_39 x_t_whose_39 x_t_where_39 x_t_what_39 x_t_before_39 x_t_behind_39 x_t_isOn_39 x_t_tryEntries_39 x_t_tryMarks_39) → va_S A s.heap H locs → lv_has ls 7 [(0, .ref a_t), (1, .int l39_1), (2, .int l39_2), (3, .int l39_3)] → W p l e { frames := 2, cells := 0, slots := 0, locals := 47 } s m args below meth c H locs 0 0 (MQ below (qQ (some (.int r)) (wB G (ws_Md_join G a_t a_t_truth a_t_helped a_t_counted a_t_told a_t_runs a_t_text a_t_entries a_t_marked a_t_present a_t_whose a_t_where a_t_what a_t_before a_t_behind a_t_isOn a_t_tryEntries a_t_tryMarks x_t_thrown' x_t_places x_t_persons' x_t_many' x_t_size x_t_at x_t_sought x_t_found x_t_entries' x_t_marked' x_t_present' x_t_whose' x_t_where' x_t_what' x_t_before' x_t_behind' x_t_isOn' x_t_tryEntries' x_t_tryMarks') A) A) args s 0 0 A) (F0 m 39 ls []) := by
            clear h hP hD hS hl
            intro n39
            induction n39 with
            | zero => intro _ _ _ _ _ _ _ _ _ _ _ _ _ _ _ _ _ H locs ls h; exact nomatch (show none = some _ from h)
            | succ n39 ih39 =>
              intro l39_1 l39_2 l39_3 x_t_thrown_39 x_t_persons_39 x_t_many_39 x_t_entries_39 x_t_marked_39 x_t_present_39 x_t_whose_39 x_t_where_39 x_t_what_39 x_t_before_39 x_t_behind_39 x_t_isOn_39 x_t_tryEntries_39 x_t_tryMarks_39 H locs ls h hP hD hS hl
              replace h : fb_Md_join_L39 fu x_t_places x_t_size x_t_at x_t_sought x_t_found (f_Md_join_L39 fu x_t_places x_t_size x_t_at x_t_sought x_t_found n39) l39_1 l39_2 l39_3 x_t_thrown_39 x_t_persons_39 x_t_many_39 x_t_entries_39 x_t_marked_39 x_t_present_39 x_t_whose_39 x_t_where_39 x_t_what_39 x_t_before_39 x_t_behind_39 x_t_isOn_39 x_t_tryEntries_39 x_t_tryMarks_39 = some (r, x_t_thrown', x_t_persons', x_t_many', x_t_entries', x_t_marked', x_t_present', x_t_whose', x_t_where', x_t_what', x_t_before', x_t_behind', x_t_isOn', x_t_tryEntries', x_t_tryMarks') := h
              unfold fb_Md_join_L39 at h
              refine lv_iload_n hx hb d_Md_join_39 rfl (lv_at hl 3 rfl) ?_
              refine lv_aload_n hx hb d_Md_join_40 rfl (lv_at hl 0 rfl) ?_
              refine va_get (D := G.1) (ci := 6) (v := .int x_t_many_39) (C := "PlayStatesModel") (T := TMd) (N := 25) hx hb hts iw_6 hown hK hP 0 rfl rfl 11 (by decide) (hts _ gw_390) (fun _ h9 => h9) rfl d_Md_join_41 ?_
              refine lv_icmp_ge (tgt := 60) hx hb d_Md_join_44 (by decide) (fun c7 => ?_) (fun c7 => ?_)
              · replace h := (if_pos c7).symm.trans h
                refine lv_aload_n hx hb d_Md_join_60 rfl (lv_at hl 0 rfl) ?_
                refine lv_iload_n hx hb d_Md_join_61 rfl (lv_at hl 1 rfl) ?_
                obtain ⟨y8, hy8, h⟩ := o_bind h
                have hPc := hP.sub (ws' := (ws_Md_walk G a_t a_t_truth a_t_entries a_t_marked a_t_helped a_t_counted a_t_told a_t_runs a_t_whose a_t_where a_t_what a_t_before a_t_tryEntries a_t_tryMarks a_t_text a_t_present a_t_behind a_t_isOn x_t_thrown_39 x_t_places x_t_persons_39 x_t_many_39 x_t_size x_t_at x_t_sought x_t_found x_t_present_39 x_t_behind_39 x_t_isOn_39)) [0, 3, 8, 9] rfl
                have hDc := hD.sub (ws' := (ws_Md_walk G a_t a_t_truth a_t_entries a_t_marked a_t_helped a_t_counted a_t_told a_t_runs a_t_whose a_t_where a_t_what a_t_before a_t_tryEntries a_t_tryMarks a_t_text a_t_present a_t_behind a_t_isOn x_t_thrown_39 x_t_places x_t_persons_39 x_t_many_39 x_t_size x_t_at x_t_sought x_t_found x_t_present_39 x_t_behind_39 x_t_isOn_39)) [0, 3, 8, 9] (by decide) rfl
                have hFc := va_free (wc := (ws_Md_walk G a_t a_t_truth a_t_entries a_t_marked a_t_helped a_t_counted a_t_told a_t_runs a_t_whose a_t_where a_t_what a_t_before a_t_tryEntries a_t_tryMarks a_t_text a_t_present a_t_behind a_t_isOn x_t_thrown_39 x_t_places x_t_persons_39 x_t_many_39 x_t_size x_t_at x_t_sought x_t_found x_t_present_39 x_t_behind_39 x_t_isOn_39)) hD hS hA [0, 3, 8, 9] rfl
                refine q_call0 (va_runV (As := [.int l39_1]) (rest := []) ⟨hx, hb, hml, hown, hts⟩ (c_Md_walk l G H.size a_t a_t_truth a_t_entries a_t_marked a_t_helped a_t_counted a_t_told a_t_runs a_t_whose a_t_where a_t_what a_t_before a_t_tryEntries a_t_tryMarks a_t_text a_t_present a_t_behind a_t_isOn fu l39_1 x_t_thrown_39 x_t_places x_t_persons_39 x_t_many_39 x_t_size x_t_at x_t_sought x_t_found x_t_present_39 x_t_behind_39 x_t_isOn_39 _ hy8) (cwV 1 hts (gV gw_514 gw_515 gw_24 gw_36 gw_516) rfl rfl rfl (by decide +kernel) ⟨Nat.le_of_ble_eq_true rfl, Nat.le_of_ble_eq_true rfl⟩) (pV hK hN hPc hDc (ci := 6) (q0 := 0) rfl rfl) rfl rfl hl.1 rfl (lv_room (Nat.le_of_ble_eq_true rfl)) d_Md_join_62 ⟨Nat.le_of_ble_eq_true rfl, Nat.le_of_ble_eq_true rfl⟩) hS (fun q _ h => hFc q h) hFc (fun H1 locs hB hz hk hS => ?_)
                obtain ⟨hP, hD⟩ := q_join (wr := [(a_t_entries, .inl (G.2 0, 648, .inl x_t_entries_39)), (a_t_marked, .inl (G.2 0, 648, .inl x_t_marked_39)), (a_t_whose, .inl (G.2 0, 600, .inl x_t_whose_39)), (a_t_where, .inl (G.2 0, 600, .inl x_t_where_39)), (a_t_what, .inl (G.2 0, 600, .inl x_t_what_39)), (a_t_before, .inl (G.2 0, 600, .inl x_t_before_39)), (a_t_tryEntries, .inl (G.2 0, 81, .inl x_t_tryEntries_39)), (a_t_tryMarks, .inl (G.2 0, 81, .inl x_t_tryMarks_39))]) (wn := (ws_Md_join G a_t a_t_truth a_t_helped a_t_counted a_t_told a_t_runs a_t_text a_t_entries a_t_marked a_t_present a_t_whose a_t_where a_t_what a_t_before a_t_behind a_t_isOn a_t_tryEntries a_t_tryMarks x_t_thrown_39 x_t_places x_t_persons_39 x_t_many_39 x_t_size x_t_at x_t_sought x_t_found x_t_entries_39 x_t_marked_39 x_t_present_39 x_t_whose_39 x_t_where_39 x_t_what_39 x_t_before_39 x_t_behind_39 y8 x_t_tryEntries_39 x_t_tryMarks_39)) hP hD [0, 3, 8, 9] [1, 2, 4, 5, 6, 7, 10, 11] [8, 0, 1, 9, 2, 3, 4, 5, 10, 11, 6, 7] rfl rfl (by decide) (by decide) rfl (by decide) hk hFc hB.1 hB.2
                generalize H1 = H at hP hS ⊢
                replace hP : va_P G.1 vwCl (ws_Md_join G a_t a_t_truth a_t_helped a_t_counted a_t_told a_t_runs a_t_text a_t_entries a_t_marked a_t_present a_t_whose a_t_where a_t_what a_t_before a_t_behind a_t_isOn a_t_tryEntries a_t_tryMarks x_t_thrown_39 x_t_places x_t_persons_39 x_t_many_39 x_t_size x_t_at x_t_sought x_t_found x_t_entries_39 x_t_marked_39 x_t_present_39 x_t_whose_39 x_t_where_39 x_t_what_39 x_t_before_39 x_t_behind_39 y8 x_t_tryEntries_39 x_t_tryMarks_39) H := hP
                replace hD : va_D A (ws_Md_join G a_t a_t_truth a_t_helped a_t_counted a_t_told a_t_runs a_t_text a_t_entries a_t_marked a_t_present a_t_whose a_t_where a_t_what a_t_before a_t_behind a_t_isOn a_t_tryEntries a_t_tryMarks x_t_thrown_39 x_t_places x_t_persons_39 x_t_many_39 x_t_size x_t_at x_t_sought x_t_found x_t_entries_39 x_t_marked_39 x_t_present_39 x_t_whose_39 x_t_where_39 x_t_what_39 x_t_before_39 x_t_behind_39 y8 x_t_tryEntries_39 x_t_tryMarks_39) := hD
                refine lv_aload_n hx hb d_Md_join_65 rfl (lv_at hl 0 rfl) ?_
                refine lv_iload_n hx hb d_Md_join_66 rfl (lv_at hl 2 rfl) ?_
                obtain ⟨y9, hy9, h⟩ := o_bind h
                have hPc := hP.sub (ws' := (ws_Md_walk G a_t a_t_truth a_t_entries a_t_marked a_t_helped a_t_counted a_t_told a_t_runs a_t_whose a_t_where a_t_what a_t_before a_t_tryEntries a_t_tryMarks a_t_text a_t_present a_t_behind a_t_isOn x_t_thrown_39 x_t_places x_t_persons_39 x_t_many_39 x_t_size x_t_at x_t_sought x_t_found x_t_present_39 x_t_behind_39 y8)) [0, 3, 8, 9] rfl
                have hDc := hD.sub (ws' := (ws_Md_walk G a_t a_t_truth a_t_entries a_t_marked a_t_helped a_t_counted a_t_told a_t_runs a_t_whose a_t_where a_t_what a_t_before a_t_tryEntries a_t_tryMarks a_t_text a_t_present a_t_behind a_t_isOn x_t_thrown_39 x_t_places x_t_persons_39 x_t_many_39 x_t_size x_t_at x_t_sought x_t_found x_t_present_39 x_t_behind_39 y8)) [0, 3, 8, 9] (by decide) rfl
                have hFc := va_free (wc := (ws_Md_walk G a_t a_t_truth a_t_entries a_t_marked a_t_helped a_t_counted a_t_told a_t_runs a_t_whose a_t_where a_t_what a_t_before a_t_tryEntries a_t_tryMarks a_t_text a_t_present a_t_behind a_t_isOn x_t_thrown_39 x_t_places x_t_persons_39 x_t_many_39 x_t_size x_t_at x_t_sought x_t_found x_t_present_39 x_t_behind_39 y8)) hD hS hA [0, 3, 8, 9] rfl
                refine q_call0 (va_runV (As := [.int l39_2]) (rest := []) ⟨hx, hb, hml, hown, hts⟩ (c_Md_walk l G H.size a_t a_t_truth a_t_entries a_t_marked a_t_helped a_t_counted a_t_told a_t_runs a_t_whose a_t_where a_t_what a_t_before a_t_tryEntries a_t_tryMarks a_t_text a_t_present a_t_behind a_t_isOn fu l39_2 x_t_thrown_39 x_t_places x_t_persons_39 x_t_many_39 x_t_size x_t_at x_t_sought x_t_found x_t_present_39 x_t_behind_39 y8 _ hy9) (cwV 1 hts (gV gw_514 gw_515 gw_24 gw_36 gw_516) rfl rfl rfl (by decide +kernel) ⟨Nat.le_of_ble_eq_true rfl, Nat.le_of_ble_eq_true rfl⟩) (pV hK hN hPc hDc (ci := 6) (q0 := 0) rfl rfl) rfl rfl hl.1 rfl (lv_room (Nat.le_of_ble_eq_true rfl)) d_Md_join_67 ⟨Nat.le_of_ble_eq_true rfl, Nat.le_of_ble_eq_true rfl⟩) hS (fun q _ h => hFc q h) hFc (fun H1 locs hB hz hk hS => ?_)
                obtain ⟨hP, hD⟩ := q_join (wr := [(a_t_entries, .inl (G.2 0, 648, .inl x_t_entries_39)), (a_t_marked, .inl (G.2 0, 648, .inl x_t_marked_39)), (a_t_whose, .inl (G.2 0, 600, .inl x_t_whose_39)), (a_t_where, .inl (G.2 0, 600, .inl x_t_where_39)), (a_t_what, .inl (G.2 0, 600, .inl x_t_what_39)), (a_t_before, .inl (G.2 0, 600, .inl x_t_before_39)), (a_t_tryEntries, .inl (G.2 0, 81, .inl x_t_tryEntries_39)), (a_t_tryMarks, .inl (G.2 0, 81, .inl x_t_tryMarks_39))]) (wn := (ws_Md_join G a_t a_t_truth a_t_helped a_t_counted a_t_told a_t_runs a_t_text a_t_entries a_t_marked a_t_present a_t_whose a_t_where a_t_what a_t_before a_t_behind a_t_isOn a_t_tryEntries a_t_tryMarks x_t_thrown_39 x_t_places x_t_persons_39 x_t_many_39 x_t_size x_t_at x_t_sought x_t_found x_t_entries_39 x_t_marked_39 x_t_present_39 x_t_whose_39 x_t_where_39 x_t_what_39 x_t_before_39 x_t_behind_39 y9 x_t_tryEntries_39 x_t_tryMarks_39)) hP hD [0, 3, 8, 9] [1, 2, 4, 5, 6, 7, 10, 11] [8, 0, 1, 9, 2, 3, 4, 5, 10, 11, 6, 7] rfl rfl (by decide) (by decide) rfl (by decide) hk hFc hB.1 hB.2
                generalize H1 = H at hP hS ⊢
                replace hP : va_P G.1 vwCl (ws_Md_join G a_t a_t_truth a_t_helped a_t_counted a_t_told a_t_runs a_t_text a_t_entries a_t_marked a_t_present a_t_whose a_t_where a_t_what a_t_before a_t_behind a_t_isOn a_t_tryEntries a_t_tryMarks x_t_thrown_39 x_t_places x_t_persons_39 x_t_many_39 x_t_size x_t_at x_t_sought x_t_found x_t_entries_39 x_t_marked_39 x_t_present_39 x_t_whose_39 x_t_where_39 x_t_what_39 x_t_before_39 x_t_behind_39 y9 x_t_tryEntries_39 x_t_tryMarks_39) H := hP
                replace hD : va_D A (ws_Md_join G a_t a_t_truth a_t_helped a_t_counted a_t_told a_t_runs a_t_text a_t_entries a_t_marked a_t_present a_t_whose a_t_where a_t_what a_t_before a_t_behind a_t_isOn a_t_tryEntries a_t_tryMarks x_t_thrown_39 x_t_places x_t_persons_39 x_t_many_39 x_t_size x_t_at x_t_sought x_t_found x_t_entries_39 x_t_marked_39 x_t_present_39 x_t_whose_39 x_t_where_39 x_t_what_39 x_t_before_39 x_t_behind_39 y9 x_t_tryEntries_39 x_t_tryMarks_39) := hD
                refine lv_iconst (v := (0 : Int32)) hx hb d_Md_join_70 (by decide) ?_
                refine lv_istore_n (lv' := [(3, .int (0 : Int32)), (0, .ref a_t), (1, .int l39_1), (2, .int l39_2)]) hx hb d_Md_join_71 rfl hl (by decide) rfl (fun ls hl => ?_)
                have L72 : ∀ (nf : Nat) (l72_1 : Int32) (l72_2 : Int32) (l72_3 : Int32) (x_t_thrown_72 : Int32) (x_t_persons_72 : Int32) (x_t_many_72 : Int32) (x_t_entries_72 : Nat → Int32) (x_t_marked_72 : Nat → Int32) (x_t_present_72 : Nat → Int32) (x_t_whose_72 : Nat → Int32) (x_t_where_72 : Nat → Int32) (x_t_what_72 : Nat → Int32) (x_t_before_72 : Nat → Int32) (x_t_behind_72 : Nat → Int32) (x_t_isOn_72 : Nat → Int32) (x_t_tryEntries_72 : Nat → Int32) (x_t_tryMarks_72 : Nat → Int32) (H : Heap) (locs : List Loc) (ls : Array Slot), f_Md_join_L72 fu x_t_places x_t_size x_t_at x_t_sought x_t_found (f_Md_join_L39 fu x_t_places x_t_size x_t_at x_t_sought x_t_found n39) nf l72_1 l72_2 l72_3 x_t_thrown_72 x_t_persons_72 x_t_many_72 x_t_entries_72 x_t_marked_72 x_t_present_72 x_t_whose_72 x_t_where_72 x_t_what_72 x_t_before_72 x_t_behind_72 x_t_isOn_72 x_t_tryEntries_72 x_t_tryMarks_72 = some (r, x_t_thrown', x_t_persons', x_t_many', x_t_entries', x_t_marked', x_t_present', x_t_whose', x_t_where', x_t_what', x_t_before', x_t_behind', x_t_isOn', x_t_tryEntries', x_t_tryMarks') → va_P G.1 vwCl (ws_Md_join G a_t a_t_truth a_t_helped a_t_counted a_t_told a_t_runs a_t_text a_t_entries a_t_marked a_t_present a_t_whose a_t_where a_t_what a_t_before a_t_behind a_t_isOn a_t_tryEntries a_t_tryMarks x_t_thrown_72 x_t_places x_t_persons_72 x_t_many_72 x_t_size x_t_at x_t_sought x_t_found x_t_entries_72 x_t_marked_72 x_t_present_72 x_t_whose_72 x_t_where_72 x_t_what_72 x_t_before_72 x_t_behind_72 x_t_isOn_72 x_t_tryEntries_72 x_t_tryMarks_72) H → va_D A (ws_Md_join G a_t a_t_truth a_t_helped a_t_counted a_t_told a_t_runs a_t_text a_t_entries a_t_marked a_t_present a_t_whose a_t_where a_t_what a_t_before a_t_behind a_t_isOn a_t_tryEntries a_t_tryMarks x_t_thrown_72 x_t_places x_t_persons_72 x_t_many_72 x_t_size x_t_at x_t_sought x_t_found x_t_entries_72 x_t_marked_72 x_t_present_72 x_t_whose_72 x_t_where_72 x_t_what_72 x_t_before_72 x_t_behind_72 x_t_isOn_72 x_t_tryEntries_72 x_t_tryMarks_72) → va_S A s.heap H locs → lv_has ls 7 [(0, .ref a_t), (1, .int l72_1), (2, .int l72_2), (3, .int l72_3)] → W p l e { frames := 2, cells := 0, slots := 0, locals := 47 } s m args below meth c H locs 0 0 (MQ below (qQ (some (.int r)) (wB G (ws_Md_join G a_t a_t_truth a_t_helped a_t_counted a_t_told a_t_runs a_t_text a_t_entries a_t_marked a_t_present a_t_whose a_t_where a_t_what a_t_before a_t_behind a_t_isOn a_t_tryEntries a_t_tryMarks x_t_thrown' x_t_places x_t_persons' x_t_many' x_t_size x_t_at x_t_sought x_t_found x_t_entries' x_t_marked' x_t_present' x_t_whose' x_t_where' x_t_what' x_t_before' x_t_behind' x_t_isOn' x_t_tryEntries' x_t_tryMarks') A) A) args s 0 0 A) (F0 m 72 ls []) := by
                  clear h hP hD hS hl
                  intro n72
                  induction n72 with
                  | zero => intro _ _ _ _ _ _ _ _ _ _ _ _ _ _ _ _ _ H locs ls h; exact nomatch (show none = some _ from h)
                  | succ n72 ih72 =>
                    intro l72_1 l72_2 l72_3 x_t_thrown_72 x_t_persons_72 x_t_many_72 x_t_entries_72 x_t_marked_72 x_t_present_72 x_t_whose_72 x_t_where_72 x_t_what_72 x_t_before_72 x_t_behind_72 x_t_isOn_72 x_t_tryEntries_72 x_t_tryMarks_72 H locs ls h hP hD hS hl
                    replace h : fb_Md_join_L72 fu x_t_places x_t_size x_t_at x_t_sought x_t_found (f_Md_join_L39 fu x_t_places x_t_size x_t_at x_t_sought x_t_found n39) (f_Md_join_L72 fu x_t_places x_t_size x_t_at x_t_sought x_t_found (f_Md_join_L39 fu x_t_places x_t_size x_t_at x_t_sought x_t_found n39) n72) l72_1 l72_2 l72_3 x_t_thrown_72 x_t_persons_72 x_t_many_72 x_t_entries_72 x_t_marked_72 x_t_present_72 x_t_whose_72 x_t_where_72 x_t_what_72 x_t_before_72 x_t_behind_72 x_t_isOn_72 x_t_tryEntries_72 x_t_tryMarks_72 = some (r, x_t_thrown', x_t_persons', x_t_many', x_t_entries', x_t_marked', x_t_present', x_t_whose', x_t_where', x_t_what', x_t_before', x_t_behind', x_t_isOn', x_t_tryEntries', x_t_tryMarks') := h
                    unfold fb_Md_join_L72 at h
                    refine lv_iload_n hx hb d_Md_join_72 rfl (lv_at hl 3 rfl) ?_
                    refine lv_bipush (v := (81 : Int32)) hx hb d_Md_join_73 (by decide) ?_
                    refine lv_icmp_ge (tgt := 98) hx hb d_Md_join_75 (by decide) (fun c10 => ?_) (fun c10 => ?_)
                    · replace h := (if_pos c10).symm.trans h
                      refine lv_aload_n hx hb d_Md_join_98 rfl (lv_at hl 0 rfl) ?_
                      refine va_get (D := G.1) (ci := 6) (v := .int x_t_many_72) (C := "PlayStatesModel") (T := TMd) (N := 25) hx hb hts iw_6 hown hK hP 0 rfl rfl 11 (by decide) (hts _ gw_390) (fun _ h9 => h9) rfl d_Md_join_99 ?_
                      refine lv_istore_n (lv' := [(3, .int x_t_many_72), (0, .ref a_t), (1, .int l72_1), (2, .int l72_2)]) hx hb d_Md_join_102 rfl hl (by decide) rfl (fun ls hl => ?_)
                      refine lv_iconst (v := (0 : Int32)) hx hb d_Md_join_103 (by decide) ?_
                      refine lv_istore (lv' := [(4, .int (0 : Int32)), (3, .int x_t_many_72), (0, .ref a_t), (1, .int l72_1), (2, .int l72_2)]) hx hb d_Md_join_104 hl (by decide) rfl (fun ls hl => ?_)
                      refine lv_iconst (v := (0 : Int32)) hx hb d_Md_join_106 (by decide) ?_
                      refine lv_istore (lv' := [(5, .int (0 : Int32)), (4, .int (0 : Int32)), (3, .int x_t_many_72), (0, .ref a_t), (1, .int l72_1), (2, .int l72_2)]) hx hb d_Md_join_107 hl (by decide) rfl (fun ls hl => ?_)
                      have L109 : ∀ (nf : Nat) (l109_1 : Int32) (l109_2 : Int32) (l109_3 : Int32) (l109_4 : Int32) (l109_5 : Int32) (x_t_thrown_109 : Int32) (x_t_persons_109 : Int32) (x_t_many_109 : Int32) (x_t_entries_109 : Nat → Int32) (x_t_marked_109 : Nat → Int32) (x_t_present_109 : Nat → Int32) (x_t_whose_109 : Nat → Int32) (x_t_where_109 : Nat → Int32) (x_t_what_109 : Nat → Int32) (x_t_before_109 : Nat → Int32) (x_t_behind_109 : Nat → Int32) (x_t_isOn_109 : Nat → Int32) (x_t_tryEntries_109 : Nat → Int32) (x_t_tryMarks_109 : Nat → Int32) (H : Heap) (locs : List Loc) (ls : Array Slot), f_Md_join_L109 fu x_t_places x_t_size x_t_at x_t_sought x_t_found (f_Md_join_L39 fu x_t_places x_t_size x_t_at x_t_sought x_t_found n39) (f_Md_join_L72 fu x_t_places x_t_size x_t_at x_t_sought x_t_found (f_Md_join_L39 fu x_t_places x_t_size x_t_at x_t_sought x_t_found n39) n72) nf l109_1 l109_2 l109_3 l109_4 l109_5 x_t_thrown_109 x_t_persons_109 x_t_many_109 x_t_entries_109 x_t_marked_109 x_t_present_109 x_t_whose_109 x_t_where_109 x_t_what_109 x_t_before_109 x_t_behind_109 x_t_isOn_109 x_t_tryEntries_109 x_t_tryMarks_109 = some (r, x_t_thrown', x_t_persons', x_t_many', x_t_entries', x_t_marked', x_t_present', x_t_whose', x_t_where', x_t_what', x_t_before', x_t_behind', x_t_isOn', x_t_tryEntries', x_t_tryMarks') → va_P G.1 vwCl (ws_Md_join G a_t a_t_truth a_t_helped a_t_counted a_t_told a_t_runs a_t_text a_t_entries a_t_marked a_t_present a_t_whose a_t_where a_t_what a_t_before a_t_behind a_t_isOn a_t_tryEntries a_t_tryMarks x_t_thrown_109 x_t_places x_t_persons_109 x_t_many_109 x_t_size x_t_at x_t_sought x_t_found x_t_entries_109 x_t_marked_109 x_t_present_109 x_t_whose_109 x_t_where_109 x_t_what_109 x_t_before_109 x_t_behind_109 x_t_isOn_109 x_t_tryEntries_109 x_t_tryMarks_109) H → va_D A (ws_Md_join G a_t a_t_truth a_t_helped a_t_counted a_t_told a_t_runs a_t_text a_t_entries a_t_marked a_t_present a_t_whose a_t_where a_t_what a_t_before a_t_behind a_t_isOn a_t_tryEntries a_t_tryMarks x_t_thrown_109 x_t_places x_t_persons_109 x_t_many_109 x_t_size x_t_at x_t_sought x_t_found x_t_entries_109 x_t_marked_109 x_t_present_109 x_t_whose_109 x_t_where_109 x_t_what_109 x_t_before_109 x_t_behind_109 x_t_isOn_109 x_t_tryEntries_109 x_t_tryMarks_109) → va_S A s.heap H locs → lv_has ls 7 [(0, .ref a_t), (1, .int l109_1), (2, .int l109_2), (3, .int l109_3), (4, .int l109_4), (5, .int l109_5)] → W p l e { frames := 2, cells := 0, slots := 0, locals := 47 } s m args below meth c H locs 0 0 (MQ below (qQ (some (.int r)) (wB G (ws_Md_join G a_t a_t_truth a_t_helped a_t_counted a_t_told a_t_runs a_t_text a_t_entries a_t_marked a_t_present a_t_whose a_t_where a_t_what a_t_before a_t_behind a_t_isOn a_t_tryEntries a_t_tryMarks x_t_thrown' x_t_places x_t_persons' x_t_many' x_t_size x_t_at x_t_sought x_t_found x_t_entries' x_t_marked' x_t_present' x_t_whose' x_t_where' x_t_what' x_t_before' x_t_behind' x_t_isOn' x_t_tryEntries' x_t_tryMarks') A) A) args s 0 0 A) (F0 m 109 ls []) := by
                        clear h hP hD hS hl
                        intro n109
                        induction n109 with
                        | zero => intro _ _ _ _ _ _ _ _ _ _ _ _ _ _ _ _ _ _ _ H locs ls h; exact nomatch (show none = some _ from h)
                        | succ n109 ih109 =>
                          intro l109_1 l109_2 l109_3 l109_4 l109_5 x_t_thrown_109 x_t_persons_109 x_t_many_109 x_t_entries_109 x_t_marked_109 x_t_present_109 x_t_whose_109 x_t_where_109 x_t_what_109 x_t_before_109 x_t_behind_109 x_t_isOn_109 x_t_tryEntries_109 x_t_tryMarks_109 H locs ls h hP hD hS hl
                          replace h : fb_Md_join_L109 fu x_t_places x_t_size x_t_at x_t_sought x_t_found (f_Md_join_L39 fu x_t_places x_t_size x_t_at x_t_sought x_t_found n39) (f_Md_join_L72 fu x_t_places x_t_size x_t_at x_t_sought x_t_found (f_Md_join_L39 fu x_t_places x_t_size x_t_at x_t_sought x_t_found n39) n72) (f_Md_join_L109 fu x_t_places x_t_size x_t_at x_t_sought x_t_found (f_Md_join_L39 fu x_t_places x_t_size x_t_at x_t_sought x_t_found n39) (f_Md_join_L72 fu x_t_places x_t_size x_t_at x_t_sought x_t_found (f_Md_join_L39 fu x_t_places x_t_size x_t_at x_t_sought x_t_found n39) n72) n109) l109_1 l109_2 l109_3 l109_4 l109_5 x_t_thrown_109 x_t_persons_109 x_t_many_109 x_t_entries_109 x_t_marked_109 x_t_present_109 x_t_whose_109 x_t_where_109 x_t_what_109 x_t_before_109 x_t_behind_109 x_t_isOn_109 x_t_tryEntries_109 x_t_tryMarks_109 = some (r, x_t_thrown', x_t_persons', x_t_many', x_t_entries', x_t_marked', x_t_present', x_t_whose', x_t_where', x_t_what', x_t_before', x_t_behind', x_t_isOn', x_t_tryEntries', x_t_tryMarks') := h
                          unfold fb_Md_join_L109 at h
                          refine lv_iload hx hb d_Md_join_109 (lv_at hl 5 rfl) ?_
                          refine lv_iload_n hx hb d_Md_join_111 rfl (lv_at hl 3 rfl) ?_
                          refine lv_icmp_ge (tgt := 172) hx hb d_Md_join_112 (by decide) (fun c11 => ?_) (fun c11 => ?_)
                          · replace h := (if_pos c11).symm.trans h
                            refine lv_aload_n hx hb d_Md_join_172 rfl (lv_at hl 0 rfl) ?_
                            refine va_get (D := G.1) (ci := 6) (v := .int x_t_many_109) (C := "PlayStatesModel") (T := TMd) (N := 25) hx hb hts iw_6 hown hK hP 0 rfl rfl 11 (by decide) (hts _ gw_390) (fun _ h9 => h9) rfl d_Md_join_173 ?_
                            refine lv_iload hx hb d_Md_join_176 (lv_at hl 4 rfl) ?_
                            refine lv_iadd hx hb d_Md_join_178 ?_
                            refine lv_sipush (v := (600 : Int32)) hx hb d_Md_join_179 (by decide) ?_
                            refine lv_icmp_le (tgt := 187) hx hb d_Md_join_182 (by decide) (fun c12 => ?_) (fun c12 => ?_)
                            · replace h := (if_pos c12).symm.trans h
                              refine lv_aload_n hx hb d_Md_join_187 rfl (lv_at hl 0 rfl) ?_
                              obtain ⟨y13, hy13, h⟩ := o_bind h
                              have hPc := hP.sub (ws' := (ws_Md_newPerson G a_t a_t_truth a_t_entries a_t_marked a_t_helped a_t_counted a_t_told a_t_runs a_t_whose a_t_where a_t_what a_t_before a_t_behind a_t_isOn a_t_tryEntries a_t_tryMarks a_t_text a_t_present x_t_thrown_109 x_t_places x_t_persons_109 x_t_many_109 x_t_size x_t_at x_t_sought x_t_found x_t_present_109)) [0, 3] rfl
                              have hDc := hD.sub (ws' := (ws_Md_newPerson G a_t a_t_truth a_t_entries a_t_marked a_t_helped a_t_counted a_t_told a_t_runs a_t_whose a_t_where a_t_what a_t_before a_t_behind a_t_isOn a_t_tryEntries a_t_tryMarks a_t_text a_t_present x_t_thrown_109 x_t_places x_t_persons_109 x_t_many_109 x_t_size x_t_at x_t_sought x_t_found x_t_present_109)) [0, 3] (by decide) rfl
                              have hFc := va_free (wc := (ws_Md_newPerson G a_t a_t_truth a_t_entries a_t_marked a_t_helped a_t_counted a_t_told a_t_runs a_t_whose a_t_where a_t_what a_t_before a_t_behind a_t_isOn a_t_tryEntries a_t_tryMarks a_t_text a_t_present x_t_thrown_109 x_t_places x_t_persons_109 x_t_many_109 x_t_size x_t_at x_t_sought x_t_found x_t_present_109)) hD hS hA [0, 3] rfl
                              refine q_call1 (va_runV (As := []) (rest := []) ⟨hx, hb, hml, hown, hts⟩ (c_Md_newPerson l G H.size a_t a_t_truth a_t_entries a_t_marked a_t_helped a_t_counted a_t_told a_t_runs a_t_whose a_t_where a_t_what a_t_before a_t_behind a_t_isOn a_t_tryEntries a_t_tryMarks a_t_text a_t_present x_t_thrown_109 x_t_places x_t_persons_109 x_t_many_109 x_t_size x_t_at x_t_sought x_t_found x_t_present_109 _ _ _ hy13) (cwV 0 hts (gV gw_434 gw_435 gw_16 gw_36 gw_436) rfl rfl rfl (by decide +kernel) ⟨Nat.le_of_ble_eq_true rfl, Nat.le_of_ble_eq_true rfl⟩) (pV hK hN hPc hDc (ci := 6) (q0 := 0) rfl rfl) rfl rfl hl.1 rfl (lv_room (Nat.le_of_ble_eq_true rfl)) d_Md_join_188 ⟨Nat.le_of_ble_eq_true rfl, Nat.le_of_ble_eq_true rfl⟩) hS (fun q _ h => hFc q h) hFc (fun H1 locs hB hz hk hS => ?_)
                              obtain ⟨hP, hD⟩ := q_join (wr := [(a_t_entries, .inl (G.2 0, 648, .inl x_t_entries_109)), (a_t_marked, .inl (G.2 0, 648, .inl x_t_marked_109)), (a_t_whose, .inl (G.2 0, 600, .inl x_t_whose_109)), (a_t_where, .inl (G.2 0, 600, .inl x_t_where_109)), (a_t_what, .inl (G.2 0, 600, .inl x_t_what_109)), (a_t_before, .inl (G.2 0, 600, .inl x_t_before_109)), (a_t_behind, .inl (G.2 0, 600, .inl x_t_behind_109)), (a_t_isOn, .inl (G.2 1, 600, .inl x_t_isOn_109)), (a_t_tryEntries, .inl (G.2 0, 81, .inl x_t_tryEntries_109)), (a_t_tryMarks, .inl (G.2 0, 81, .inl x_t_tryMarks_109))]) (wn := (ws_Md_join G a_t a_t_truth a_t_helped a_t_counted a_t_told a_t_runs a_t_text a_t_entries a_t_marked a_t_present a_t_whose a_t_where a_t_what a_t_before a_t_behind a_t_isOn a_t_tryEntries a_t_tryMarks x_t_thrown_109 x_t_places y13.2.1 x_t_many_109 x_t_size x_t_at x_t_sought x_t_found x_t_entries_109 x_t_marked_109 y13.2.2 x_t_whose_109 x_t_where_109 x_t_what_109 x_t_before_109 x_t_behind_109 x_t_isOn_109 x_t_tryEntries_109 x_t_tryMarks_109)) hP hD [0, 3] [1, 2, 4, 5, 6, 7, 8, 9, 10, 11] [10, 0, 1, 11, 2, 3, 4, 5, 6, 7, 8, 9] rfl rfl (by decide) (by decide) rfl (by decide) hk hFc hB.1 hB.2
                              generalize H1 = H at hP hS ⊢
                              replace hP : va_P G.1 vwCl (ws_Md_join G a_t a_t_truth a_t_helped a_t_counted a_t_told a_t_runs a_t_text a_t_entries a_t_marked a_t_present a_t_whose a_t_where a_t_what a_t_before a_t_behind a_t_isOn a_t_tryEntries a_t_tryMarks x_t_thrown_109 x_t_places y13.2.1 x_t_many_109 x_t_size x_t_at x_t_sought x_t_found x_t_entries_109 x_t_marked_109 y13.2.2 x_t_whose_109 x_t_where_109 x_t_what_109 x_t_before_109 x_t_behind_109 x_t_isOn_109 x_t_tryEntries_109 x_t_tryMarks_109) H := hP
                              replace hD : va_D A (ws_Md_join G a_t a_t_truth a_t_helped a_t_counted a_t_told a_t_runs a_t_text a_t_entries a_t_marked a_t_present a_t_whose a_t_where a_t_what a_t_before a_t_behind a_t_isOn a_t_tryEntries a_t_tryMarks x_t_thrown_109 x_t_places y13.2.1 x_t_many_109 x_t_size x_t_at x_t_sought x_t_found x_t_entries_109 x_t_marked_109 y13.2.2 x_t_whose_109 x_t_where_109 x_t_what_109 x_t_before_109 x_t_behind_109 x_t_isOn_109 x_t_tryEntries_109 x_t_tryMarks_109) := hD
                              refine lv_istore (lv' := [(5, .int y13.1), (0, .ref a_t), (1, .int l109_1), (2, .int l109_2), (3, .int l109_3), (4, .int l109_4)]) hx hb d_Md_join_191 hl (by decide) rfl (fun ls hl => ?_)
                              refine lv_iconst (v := (0 : Int32)) hx hb d_Md_join_193 (by decide) ?_
                              refine lv_istore (lv' := [(6, .int (0 : Int32)), (5, .int y13.1), (0, .ref a_t), (1, .int l109_1), (2, .int l109_2), (3, .int l109_3), (4, .int l109_4)]) hx hb d_Md_join_194 hl (by decide) rfl (fun ls hl => ?_)
                              have L196 : ∀ (nf : Nat) (l196_1 : Int32) (l196_2 : Int32) (l196_3 : Int32) (l196_4 : Int32) (l196_5 : Int32) (l196_6 : Int32) (x_t_thrown_196 : Int32) (x_t_persons_196 : Int32) (x_t_many_196 : Int32) (x_t_entries_196 : Nat → Int32) (x_t_marked_196 : Nat → Int32) (x_t_present_196 : Nat → Int32) (x_t_whose_196 : Nat → Int32) (x_t_where_196 : Nat → Int32) (x_t_what_196 : Nat → Int32) (x_t_before_196 : Nat → Int32) (x_t_behind_196 : Nat → Int32) (x_t_isOn_196 : Nat → Int32) (x_t_tryEntries_196 : Nat → Int32) (x_t_tryMarks_196 : Nat → Int32) (H : Heap) (locs : List Loc) (ls : Array Slot), f_Md_join_L196 fu x_t_places x_t_size x_t_at x_t_sought x_t_found (f_Md_join_L39 fu x_t_places x_t_size x_t_at x_t_sought x_t_found n39) (f_Md_join_L72 fu x_t_places x_t_size x_t_at x_t_sought x_t_found (f_Md_join_L39 fu x_t_places x_t_size x_t_at x_t_sought x_t_found n39) n72) (f_Md_join_L109 fu x_t_places x_t_size x_t_at x_t_sought x_t_found (f_Md_join_L39 fu x_t_places x_t_size x_t_at x_t_sought x_t_found n39) (f_Md_join_L72 fu x_t_places x_t_size x_t_at x_t_sought x_t_found (f_Md_join_L39 fu x_t_places x_t_size x_t_at x_t_sought x_t_found n39) n72) n109) nf l196_1 l196_2 l196_3 l196_4 l196_5 l196_6 x_t_thrown_196 x_t_persons_196 x_t_many_196 x_t_entries_196 x_t_marked_196 x_t_present_196 x_t_whose_196 x_t_where_196 x_t_what_196 x_t_before_196 x_t_behind_196 x_t_isOn_196 x_t_tryEntries_196 x_t_tryMarks_196 = some (r, x_t_thrown', x_t_persons', x_t_many', x_t_entries', x_t_marked', x_t_present', x_t_whose', x_t_where', x_t_what', x_t_before', x_t_behind', x_t_isOn', x_t_tryEntries', x_t_tryMarks') → va_P G.1 vwCl (ws_Md_join G a_t a_t_truth a_t_helped a_t_counted a_t_told a_t_runs a_t_text a_t_entries a_t_marked a_t_present a_t_whose a_t_where a_t_what a_t_before a_t_behind a_t_isOn a_t_tryEntries a_t_tryMarks x_t_thrown_196 x_t_places x_t_persons_196 x_t_many_196 x_t_size x_t_at x_t_sought x_t_found x_t_entries_196 x_t_marked_196 x_t_present_196 x_t_whose_196 x_t_where_196 x_t_what_196 x_t_before_196 x_t_behind_196 x_t_isOn_196 x_t_tryEntries_196 x_t_tryMarks_196) H → va_D A (ws_Md_join G a_t a_t_truth a_t_helped a_t_counted a_t_told a_t_runs a_t_text a_t_entries a_t_marked a_t_present a_t_whose a_t_where a_t_what a_t_before a_t_behind a_t_isOn a_t_tryEntries a_t_tryMarks x_t_thrown_196 x_t_places x_t_persons_196 x_t_many_196 x_t_size x_t_at x_t_sought x_t_found x_t_entries_196 x_t_marked_196 x_t_present_196 x_t_whose_196 x_t_where_196 x_t_what_196 x_t_before_196 x_t_behind_196 x_t_isOn_196 x_t_tryEntries_196 x_t_tryMarks_196) → va_S A s.heap H locs → lv_has ls 7 [(0, .ref a_t), (1, .int l196_1), (2, .int l196_2), (3, .int l196_3), (4, .int l196_4), (5, .int l196_5), (6, .int l196_6)] → W p l e { frames := 2, cells := 0, slots := 0, locals := 47 } s m args below meth c H locs 0 0 (MQ below (qQ (some (.int r)) (wB G (ws_Md_join G a_t a_t_truth a_t_helped a_t_counted a_t_told a_t_runs a_t_text a_t_entries a_t_marked a_t_present a_t_whose a_t_where a_t_what a_t_before a_t_behind a_t_isOn a_t_tryEntries a_t_tryMarks x_t_thrown' x_t_places x_t_persons' x_t_many' x_t_size x_t_at x_t_sought x_t_found x_t_entries' x_t_marked' x_t_present' x_t_whose' x_t_where' x_t_what' x_t_before' x_t_behind' x_t_isOn' x_t_tryEntries' x_t_tryMarks') A) A) args s 0 0 A) (F0 m 196 ls []) := by
                                clear h hP hD hS hl
                                intro n196
                                induction n196 with
                                | zero => intro _ _ _ _ _ _ _ _ _ _ _ _ _ _ _ _ _ _ _ _ H locs ls h; exact nomatch (show none = some _ from h)
                                | succ n196 ih196 =>
                                  intro l196_1 l196_2 l196_3 l196_4 l196_5 l196_6 x_t_thrown_196 x_t_persons_196 x_t_many_196 x_t_entries_196 x_t_marked_196 x_t_present_196 x_t_whose_196 x_t_where_196 x_t_what_196 x_t_before_196 x_t_behind_196 x_t_isOn_196 x_t_tryEntries_196 x_t_tryMarks_196 H locs ls h hP hD hS hl
                                  replace h : fb_Md_join_L196 fu x_t_places x_t_size x_t_at x_t_sought x_t_found (f_Md_join_L39 fu x_t_places x_t_size x_t_at x_t_sought x_t_found n39) (f_Md_join_L72 fu x_t_places x_t_size x_t_at x_t_sought x_t_found (f_Md_join_L39 fu x_t_places x_t_size x_t_at x_t_sought x_t_found n39) n72) (f_Md_join_L109 fu x_t_places x_t_size x_t_at x_t_sought x_t_found (f_Md_join_L39 fu x_t_places x_t_size x_t_at x_t_sought x_t_found n39) (f_Md_join_L72 fu x_t_places x_t_size x_t_at x_t_sought x_t_found (f_Md_join_L39 fu x_t_places x_t_size x_t_at x_t_sought x_t_found n39) n72) n109) (f_Md_join_L196 fu x_t_places x_t_size x_t_at x_t_sought x_t_found (f_Md_join_L39 fu x_t_places x_t_size x_t_at x_t_sought x_t_found n39) (f_Md_join_L72 fu x_t_places x_t_size x_t_at x_t_sought x_t_found (f_Md_join_L39 fu x_t_places x_t_size x_t_at x_t_sought x_t_found n39) n72) (f_Md_join_L109 fu x_t_places x_t_size x_t_at x_t_sought x_t_found (f_Md_join_L39 fu x_t_places x_t_size x_t_at x_t_sought x_t_found n39) (f_Md_join_L72 fu x_t_places x_t_size x_t_at x_t_sought x_t_found (f_Md_join_L39 fu x_t_places x_t_size x_t_at x_t_sought x_t_found n39) n72) n109) n196) l196_1 l196_2 l196_3 l196_4 l196_5 l196_6 x_t_thrown_196 x_t_persons_196 x_t_many_196 x_t_entries_196 x_t_marked_196 x_t_present_196 x_t_whose_196 x_t_where_196 x_t_what_196 x_t_before_196 x_t_behind_196 x_t_isOn_196 x_t_tryEntries_196 x_t_tryMarks_196 = some (r, x_t_thrown', x_t_persons', x_t_many', x_t_entries', x_t_marked', x_t_present', x_t_whose', x_t_where', x_t_what', x_t_before', x_t_behind', x_t_isOn', x_t_tryEntries', x_t_tryMarks') := h
                                  unfold fb_Md_join_L196 at h
                                  refine lv_iload hx hb d_Md_join_196 (lv_at hl 6 rfl) ?_
                                  refine lv_iload_n hx hb d_Md_join_198 rfl (lv_at hl 3 rfl) ?_
                                  refine lv_icmp_ge (tgt := 239) hx hb d_Md_join_199 (by decide) (fun c14 => ?_) (fun c14 => ?_)
                                  · replace h := (if_pos c14).symm.trans h
                                    refine lv_iload hx hb d_Md_join_239 (lv_at hl 5 rfl) ?_
                                    simp only [Option.some.injEq, Prod.mk.injEq] at h
                                    obtain ⟨rfl, rfl, rfl, rfl, rfl, rfl, rfl, rfl, rfl, rfl, rfl, rfl, rfl, rfl, rfl⟩ := h
                                    exact q_iretW hx hb hr hlocks hP hD hS d_Md_join_241
                                  · replace h := (if_neg c14).symm.trans h
                                    refine lv_aload_n hx hb d_Md_join_202 rfl (lv_at hl 0 rfl) ?_
                                    refine va_get (D := G.1) (ci := 6) (v := .ref a_t_isOn) (C := "PlayStatesModel") (T := TMd) (N := 25) hx hb hts iw_6 hown hK hP 0 rfl rfl 17 (by decide) (hts _ gw_396) (fun _ h9 => h9) rfl d_Md_join_203 ?_
                                    refine lv_iload hx hb d_Md_join_206 (lv_at hl 6 rfl) ?_
                                    obtain ⟨i15, h⟩ := o_if h
                                    refine va_zald (n := 600) (f := x_t_isOn_196) hx hb hK hP 9 1 rfl rfl i15 d_Md_join_208 ?_
                                    refine lv_if_eq (tgt := 233) hx hb d_Md_join_209 (by decide) (fun c16 => ?_) (fun c16 => ?_)
                                    · replace h := (if_pos c16).symm.trans h
                                      refine lv_iinc (v := (l196_6 + (1 : Int32))) (lv' := [(6, .int (l196_6 + (1 : Int32))), (0, .ref a_t), (1, .int l196_1), (2, .int l196_2), (3, .int l196_3), (4, .int l196_4), (5, .int l196_5)]) hx hb d_Md_join_233 hl (k := 6) rfl rfl (by decide) rfl (fun ls hl => ?_)
                                      refine lv_goto (tgt := 196) hx hb d_Md_join_236 (by decide) ?_
                                      exact ih196 l196_1 l196_2 l196_3 l196_4 l196_5 (l196_6 + (1 : Int32)) x_t_thrown_196 x_t_persons_196 x_t_many_196 x_t_entries_196 x_t_marked_196 x_t_present_196 x_t_whose_196 x_t_where_196 x_t_what_196 x_t_before_196 x_t_behind_196 x_t_isOn_196 x_t_tryEntries_196 x_t_tryMarks_196 _ _ _ h hP hD hS (lv_sub hl [1, 2, 3, 4, 5, 6, 0] rfl)
                                    · replace h := (if_neg c16).symm.trans h
                                      refine lv_aload_n hx hb d_Md_join_212 rfl (lv_at hl 0 rfl) ?_
                                      refine lv_iload hx hb d_Md_join_213 (lv_at hl 5 rfl) ?_
                                      refine lv_aload_n hx hb d_Md_join_215 rfl (lv_at hl 0 rfl) ?_
                                      refine va_get (D := G.1) (ci := 6) (v := .ref a_t_where) (C := "PlayStatesModel") (T := TMd) (N := 25) hx hb hts iw_6 hown hK hP 0 rfl rfl 13 (by decide) (hts _ gw_392) (fun _ h9 => h9) rfl d_Md_join_216 ?_
                                      refine lv_iload hx hb d_Md_join_219 (lv_at hl 6 rfl) ?_
                                      obtain ⟨i17, h⟩ := o_if h
                                      refine va_iald (n := 600) (f := x_t_where_196) hx hb hK hP 5 0 rfl rfl i17 d_Md_join_221 ?_
                                      refine lv_aload_n hx hb d_Md_join_222 rfl (lv_at hl 0 rfl) ?_
                                      refine va_get (D := G.1) (ci := 6) (v := .ref a_t_what) (C := "PlayStatesModel") (T := TMd) (N := 25) hx hb hts iw_6 hown hK hP 0 rfl rfl 14 (by decide) (hts _ gw_393) (fun _ h9 => h9) rfl d_Md_join_223 ?_
                                      refine lv_iload hx hb d_Md_join_226 (lv_at hl 6 rfl) ?_
                                      obtain ⟨i18, h⟩ := o_if h
                                      refine va_iald (n := 600) (f := x_t_what_196) hx hb hK hP 6 0 rfl rfl i18 d_Md_join_228 ?_
                                      obtain ⟨y19, hy19, h⟩ := o_bind h
                                      have hPc := hP.sub (ws' := (ws_Md_addRow G a_t a_t_truth a_t_helped a_t_counted a_t_told a_t_runs a_t_isOn a_t_tryEntries a_t_tryMarks a_t_text a_t_entries a_t_marked a_t_present a_t_whose a_t_where a_t_what a_t_before a_t_behind x_t_thrown_196 x_t_places x_t_persons_196 x_t_many_196 x_t_size x_t_at x_t_sought x_t_found x_t_entries_196 x_t_marked_196 x_t_present_196 x_t_whose_196 x_t_where_196 x_t_what_196 x_t_before_196 x_t_behind_196)) [0, 1, 2, 3, 4, 5, 6, 7, 8] rfl
                                      have hDc := hD.sub (ws' := (ws_Md_addRow G a_t a_t_truth a_t_helped a_t_counted a_t_told a_t_runs a_t_isOn a_t_tryEntries a_t_tryMarks a_t_text a_t_entries a_t_marked a_t_present a_t_whose a_t_where a_t_what a_t_before a_t_behind x_t_thrown_196 x_t_places x_t_persons_196 x_t_many_196 x_t_size x_t_at x_t_sought x_t_found x_t_entries_196 x_t_marked_196 x_t_present_196 x_t_whose_196 x_t_where_196 x_t_what_196 x_t_before_196 x_t_behind_196)) [0, 1, 2, 3, 4, 5, 6, 7, 8] (by decide) rfl
                                      have hFc := va_free (wc := (ws_Md_addRow G a_t a_t_truth a_t_helped a_t_counted a_t_told a_t_runs a_t_isOn a_t_tryEntries a_t_tryMarks a_t_text a_t_entries a_t_marked a_t_present a_t_whose a_t_where a_t_what a_t_before a_t_behind x_t_thrown_196 x_t_places x_t_persons_196 x_t_many_196 x_t_size x_t_at x_t_sought x_t_found x_t_entries_196 x_t_marked_196 x_t_present_196 x_t_whose_196 x_t_where_196 x_t_what_196 x_t_before_196 x_t_behind_196)) hD hS hA [0, 1, 2, 3, 4, 5, 6, 7, 8] rfl
                                      refine q_call1 (va_runV (As := [.int l196_5, .int (x_t_where_196 l196_6.toNatClampNeg), .int (x_t_what_196 l196_6.toNatClampNeg)]) (rest := []) ⟨hx, hb, hml, hown, hts⟩ (c_Md_addRow l G H.size a_t a_t_truth a_t_helped a_t_counted a_t_told a_t_runs a_t_isOn a_t_tryEntries a_t_tryMarks a_t_text a_t_entries a_t_marked a_t_present a_t_whose a_t_where a_t_what a_t_before a_t_behind l196_5 (x_t_where_196 l196_6.toNatClampNeg) (x_t_what_196 l196_6.toNatClampNeg) x_t_thrown_196 x_t_places x_t_persons_196 x_t_many_196 x_t_size x_t_at x_t_sought x_t_found x_t_entries_196 x_t_marked_196 x_t_present_196 x_t_whose_196 x_t_where_196 x_t_what_196 x_t_before_196 x_t_behind_196 _ _ _ _ _ _ _ _ _ _ hy19) (cwV 3 hts (gV gw_447 gw_448 gw_19 gw_36 gw_449) rfl rfl rfl (by decide +kernel) ⟨Nat.le_of_ble_eq_true rfl, Nat.le_of_ble_eq_true rfl⟩) (pV hK hN hPc hDc (ci := 6) (q0 := 0) rfl rfl) rfl rfl hl.1 rfl (lv_room (Nat.le_of_ble_eq_true rfl)) d_Md_join_229 ⟨Nat.le_of_ble_eq_true rfl, Nat.le_of_ble_eq_true rfl⟩) hS (fun q _ h => hFc q h) hFc (fun H1 locs hB hz hk hS => ?_)
                                      obtain ⟨hP, hD⟩ := q_join (wr := [(a_t_isOn, .inl (G.2 1, 600, .inl x_t_isOn_196)), (a_t_tryEntries, .inl (G.2 0, 81, .inl x_t_tryEntries_196)), (a_t_tryMarks, .inl (G.2 0, 81, .inl x_t_tryMarks_196))]) (wn := (ws_Md_join G a_t a_t_truth a_t_helped a_t_counted a_t_told a_t_runs a_t_text a_t_entries a_t_marked a_t_present a_t_whose a_t_where a_t_what a_t_before a_t_behind a_t_isOn a_t_tryEntries a_t_tryMarks x_t_thrown_196 x_t_places x_t_persons_196 y19.2.1 x_t_size x_t_at x_t_sought x_t_found y19.2.2.1 y19.2.2.2.1 y19.2.2.2.2.1 y19.2.2.2.2.2.1 y19.2.2.2.2.2.2.1 y19.2.2.2.2.2.2.2.1 y19.2.2.2.2.2.2.2.2.1 y19.2.2.2.2.2.2.2.2.2 x_t_isOn_196 x_t_tryEntries_196 x_t_tryMarks_196)) hP hD [0, 1, 2, 3, 4, 5, 6, 7, 8] [9, 10, 11] [3, 4, 5, 6, 7, 8, 9, 10, 11, 0, 1, 2] rfl rfl (by decide) (by decide) rfl (by decide) hk hFc hB.1 hB.2
                                      generalize H1 = H at hP hS ⊢
                                      replace hP : va_P G.1 vwCl (ws_Md_join G a_t a_t_truth a_t_helped a_t_counted a_t_told a_t_runs a_t_text a_t_entries a_t_marked a_t_present a_t_whose a_t_where a_t_what a_t_before a_t_behind a_t_isOn a_t_tryEntries a_t_tryMarks x_t_thrown_196 x_t_places x_t_persons_196 y19.2.1 x_t_size x_t_at x_t_sought x_t_found y19.2.2.1 y19.2.2.2.1 y19.2.2.2.2.1 y19.2.2.2.2.2.1 y19.2.2.2.2.2.2.1 y19.2.2.2.2.2.2.2.1 y19.2.2.2.2.2.2.2.2.1 y19.2.2.2.2.2.2.2.2.2 x_t_isOn_196 x_t_tryEntries_196 x_t_tryMarks_196) H := hP
                                      replace hD : va_D A (ws_Md_join G a_t a_t_truth a_t_helped a_t_counted a_t_told a_t_runs a_t_text a_t_entries a_t_marked a_t_present a_t_whose a_t_where a_t_what a_t_before a_t_behind a_t_isOn a_t_tryEntries a_t_tryMarks x_t_thrown_196 x_t_places x_t_persons_196 y19.2.1 x_t_size x_t_at x_t_sought x_t_found y19.2.2.1 y19.2.2.2.1 y19.2.2.2.2.1 y19.2.2.2.2.2.1 y19.2.2.2.2.2.2.1 y19.2.2.2.2.2.2.2.1 y19.2.2.2.2.2.2.2.2.1 y19.2.2.2.2.2.2.2.2.2 x_t_isOn_196 x_t_tryEntries_196 x_t_tryMarks_196) := hD
                                      refine lv_pop hx hb d_Md_join_232 rfl ?_
                                      refine lv_iinc (v := (l196_6 + (1 : Int32))) (lv' := [(6, .int (l196_6 + (1 : Int32))), (0, .ref a_t), (1, .int l196_1), (2, .int l196_2), (3, .int l196_3), (4, .int l196_4), (5, .int l196_5)]) hx hb d_Md_join_233 hl (k := 6) rfl rfl (by decide) rfl (fun ls hl => ?_)
                                      refine lv_goto (tgt := 196) hx hb d_Md_join_236 (by decide) ?_
                                      exact ih196 l196_1 l196_2 l196_3 l196_4 l196_5 (l196_6 + (1 : Int32)) x_t_thrown_196 x_t_persons_196 y19.2.1 y19.2.2.1 y19.2.2.2.1 y19.2.2.2.2.1 y19.2.2.2.2.2.1 y19.2.2.2.2.2.2.1 y19.2.2.2.2.2.2.2.1 y19.2.2.2.2.2.2.2.2.1 y19.2.2.2.2.2.2.2.2.2 x_t_isOn_196 x_t_tryEntries_196 x_t_tryMarks_196 _ _ _ h hP hD hS (lv_sub hl [1, 2, 3, 4, 5, 6, 0] rfl)
                              exact L196 fu l109_1 l109_2 l109_3 l109_4 y13.1 (0 : Int32) x_t_thrown_109 y13.2.1 x_t_many_109 x_t_entries_109 x_t_marked_109 y13.2.2 x_t_whose_109 x_t_where_109 x_t_what_109 x_t_before_109 x_t_behind_109 x_t_isOn_109 x_t_tryEntries_109 x_t_tryMarks_109 _ _ _ h hP hD hS (lv_sub hl [2, 3, 4, 5, 6, 1, 0] rfl)
                            · replace h := (if_neg c12).symm.trans h
                              refine lv_iconst (v := (-1 : Int32)) hx hb d_Md_join_185 (by decide) ?_
                              simp only [Option.some.injEq, Prod.mk.injEq] at h
                              obtain ⟨rfl, rfl, rfl, rfl, rfl, rfl, rfl, rfl, rfl, rfl, rfl, rfl, rfl, rfl, rfl⟩ := h
                              exact q_iretW hx hb hr hlocks hP hD hS d_Md_join_186
                          · replace h := (if_neg c11).symm.trans h
                            refine lv_aload_n hx hb d_Md_join_115 rfl (lv_at hl 0 rfl) ?_
                            refine va_get (D := G.1) (ci := 6) (v := .ref a_t_isOn) (C := "PlayStatesModel") (T := TMd) (N := 25) hx hb hts iw_6 hown hK hP 0 rfl rfl 17 (by decide) (hts _ gw_396) (fun _ h9 => h9) rfl d_Md_join_116 ?_
                            refine lv_iload hx hb d_Md_join_119 (lv_at hl 5 rfl) ?_
                            refine lv_aload_n hx hb d_Md_join_121 rfl (lv_at hl 0 rfl) ?_
                            refine va_get (D := G.1) (ci := 6) (v := .ref a_t_isOn) (C := "PlayStatesModel") (T := TMd) (N := 25) hx hb hts iw_6 hown hK hP 0 rfl rfl 17 (by decide) (hts _ gw_396) (fun _ h9 => h9) rfl d_Md_join_122 ?_
                            refine lv_iload hx hb d_Md_join_125 (lv_at hl 5 rfl) ?_
                            obtain ⟨i20, h⟩ := o_if h
                            refine va_zald (n := 600) (f := x_t_isOn_109) hx hb hK hP 9 1 rfl rfl i20 d_Md_join_127 ?_
                            refine lv_if_eq (tgt := 144) hx hb d_Md_join_128 (by decide) (fun c21 => ?_) (fun c21 => ?_)
                            · replace h := (if_pos c21).symm.trans h
                              refine lv_iconst (v := (0 : Int32)) hx hb d_Md_join_144 (by decide) ?_
                              obtain ⟨i22, h⟩ := o_if h
                              refine va_zast (n := 600) (f := x_t_isOn_109) hx hb hK hP hD hS 9 1 rfl rfl i22 d_Md_join_145 (fun H locs hP hD hS => ?_)
                              replace hP : va_P G.1 vwCl (ws_Md_join G a_t a_t_truth a_t_helped a_t_counted a_t_told a_t_runs a_t_text a_t_entries a_t_marked a_t_present a_t_whose a_t_where a_t_what a_t_before a_t_behind a_t_isOn a_t_tryEntries a_t_tryMarks x_t_thrown_109 x_t_places x_t_persons_109 x_t_many_109 x_t_size x_t_at x_t_sought x_t_found x_t_entries_109 x_t_marked_109 x_t_present_109 x_t_whose_109 x_t_where_109 x_t_what_109 x_t_before_109 x_t_behind_109 (upd x_t_isOn_109 l109_5.toNatClampNeg (vp_nar .boolean (0 : Int32))) x_t_tryEntries_109 x_t_tryMarks_109) H := hP
                              replace hD : va_D A (ws_Md_join G a_t a_t_truth a_t_helped a_t_counted a_t_told a_t_runs a_t_text a_t_entries a_t_marked a_t_present a_t_whose a_t_where a_t_what a_t_before a_t_behind a_t_isOn a_t_tryEntries a_t_tryMarks x_t_thrown_109 x_t_places x_t_persons_109 x_t_many_109 x_t_size x_t_at x_t_sought x_t_found x_t_entries_109 x_t_marked_109 x_t_present_109 x_t_whose_109 x_t_where_109 x_t_what_109 x_t_before_109 x_t_behind_109 (upd x_t_isOn_109 l109_5.toNatClampNeg (vp_nar .boolean (0 : Int32))) x_t_tryEntries_109 x_t_tryMarks_109) := hD
                              refine lv_iload hx hb d_Md_join_146 (lv_at hl 4 rfl) ?_
                              refine lv_aload_n hx hb d_Md_join_148 rfl (lv_at hl 0 rfl) ?_
                              refine va_get (D := G.1) (ci := 6) (v := .ref a_t_isOn) (C := "PlayStatesModel") (T := TMd) (N := 25) hx hb hts iw_6 hown hK hP 0 rfl rfl 17 (by decide) (hts _ gw_396) (fun _ h9 => h9) rfl d_Md_join_149 ?_
                              refine lv_iload hx hb d_Md_join_152 (lv_at hl 5 rfl) ?_
                              obtain ⟨i23, h⟩ := o_if h
                              refine va_zald (n := 600) (f := (upd x_t_isOn_109 l109_5.toNatClampNeg (vp_nar .boolean (0 : Int32)))) hx hb hK hP 9 1 rfl rfl i23 d_Md_join_154 ?_
                              refine lv_if_eq (tgt := 162) hx hb d_Md_join_155 (by decide) (fun c24 => ?_) (fun c24 => ?_)
                              · replace h := (if_pos c24).symm.trans h
                                refine lv_iconst (v := (0 : Int32)) hx hb d_Md_join_162 (by decide) ?_
                                refine lv_iadd hx hb d_Md_join_163 ?_
                                refine lv_istore (lv' := [(4, .int (l109_4 + (0 : Int32))), (0, .ref a_t), (1, .int l109_1), (2, .int l109_2), (3, .int l109_3), (5, .int l109_5)]) hx hb d_Md_join_164 hl (by decide) rfl (fun ls hl => ?_)
                                refine lv_iinc (v := (l109_5 + (1 : Int32))) (lv' := [(5, .int (l109_5 + (1 : Int32))), (4, .int (l109_4 + (0 : Int32))), (0, .ref a_t), (1, .int l109_1), (2, .int l109_2), (3, .int l109_3)]) hx hb d_Md_join_166 hl (k := 5) rfl rfl (by decide) rfl (fun ls hl => ?_)
                                refine lv_goto (tgt := 109) hx hb d_Md_join_169 (by decide) ?_
                                exact ih109 l109_1 l109_2 l109_3 (l109_4 + (0 : Int32)) (l109_5 + (1 : Int32)) x_t_thrown_109 x_t_persons_109 x_t_many_109 x_t_entries_109 x_t_marked_109 x_t_present_109 x_t_whose_109 x_t_where_109 x_t_what_109 x_t_before_109 x_t_behind_109 (upd x_t_isOn_109 l109_5.toNatClampNeg (vp_nar .boolean (0 : Int32))) x_t_tryEntries_109 x_t_tryMarks_109 _ _ _ h hP hD hS (lv_sub hl [2, 3, 4, 5, 1, 0] rfl)
                              · replace h := (if_neg c24).symm.trans h
                                refine lv_iconst (v := (1 : Int32)) hx hb d_Md_join_158 (by decide) ?_
                                refine lv_goto (tgt := 163) hx hb d_Md_join_159 (by decide) ?_
                                refine lv_iadd hx hb d_Md_join_163 ?_
                                refine lv_istore (lv' := [(4, .int (l109_4 + (1 : Int32))), (0, .ref a_t), (1, .int l109_1), (2, .int l109_2), (3, .int l109_3), (5, .int l109_5)]) hx hb d_Md_join_164 hl (by decide) rfl (fun ls hl => ?_)
                                refine lv_iinc (v := (l109_5 + (1 : Int32))) (lv' := [(5, .int (l109_5 + (1 : Int32))), (4, .int (l109_4 + (1 : Int32))), (0, .ref a_t), (1, .int l109_1), (2, .int l109_2), (3, .int l109_3)]) hx hb d_Md_join_166 hl (k := 5) rfl rfl (by decide) rfl (fun ls hl => ?_)
                                refine lv_goto (tgt := 109) hx hb d_Md_join_169 (by decide) ?_
                                exact ih109 l109_1 l109_2 l109_3 (l109_4 + (1 : Int32)) (l109_5 + (1 : Int32)) x_t_thrown_109 x_t_persons_109 x_t_many_109 x_t_entries_109 x_t_marked_109 x_t_present_109 x_t_whose_109 x_t_where_109 x_t_what_109 x_t_before_109 x_t_behind_109 (upd x_t_isOn_109 l109_5.toNatClampNeg (vp_nar .boolean (0 : Int32))) x_t_tryEntries_109 x_t_tryMarks_109 _ _ _ h hP hD hS (lv_sub hl [2, 3, 4, 5, 1, 0] rfl)
                            · replace h := (if_neg c21).symm.trans h
                              refine lv_aload_n hx hb d_Md_join_131 rfl (lv_at hl 0 rfl) ?_
                              refine lv_iload hx hb d_Md_join_132 (lv_at hl 5 rfl) ?_
                              obtain ⟨y25, hy25, h⟩ := o_bind h
                              have hPc := hP.sub (ws' := (ws_Md_changes G a_t a_t_truth a_t_entries a_t_marked a_t_present a_t_helped a_t_counted a_t_told a_t_runs a_t_whose a_t_before a_t_behind a_t_isOn a_t_text a_t_where a_t_what a_t_tryEntries a_t_tryMarks x_t_thrown_109 x_t_places x_t_persons_109 x_t_many_109 x_t_size x_t_at x_t_sought x_t_found x_t_where_109 x_t_what_109 x_t_tryEntries_109 x_t_tryMarks_109)) [0, 5, 6, 10, 11] rfl
                              have hDc := hD.sub (ws' := (ws_Md_changes G a_t a_t_truth a_t_entries a_t_marked a_t_present a_t_helped a_t_counted a_t_told a_t_runs a_t_whose a_t_before a_t_behind a_t_isOn a_t_text a_t_where a_t_what a_t_tryEntries a_t_tryMarks x_t_thrown_109 x_t_places x_t_persons_109 x_t_many_109 x_t_size x_t_at x_t_sought x_t_found x_t_where_109 x_t_what_109 x_t_tryEntries_109 x_t_tryMarks_109)) [0, 5, 6, 10, 11] (by decide) rfl
                              have hFc := va_free (wc := (ws_Md_changes G a_t a_t_truth a_t_entries a_t_marked a_t_present a_t_helped a_t_counted a_t_told a_t_runs a_t_whose a_t_before a_t_behind a_t_isOn a_t_text a_t_where a_t_what a_t_tryEntries a_t_tryMarks x_t_thrown_109 x_t_places x_t_persons_109 x_t_many_109 x_t_size x_t_at x_t_sought x_t_found x_t_where_109 x_t_what_109 x_t_tryEntries_109 x_t_tryMarks_109)) hD hS hA [0, 5, 6, 10, 11] rfl
                              refine q_call1 (va_runV (As := [.int l109_5]) (rest := [.int l109_5, .ref a_t_isOn]) ⟨hx, hb, hml, hown, hts⟩ (c_Md_changes l G H.size a_t a_t_truth a_t_entries a_t_marked a_t_present a_t_helped a_t_counted a_t_told a_t_runs a_t_whose a_t_before a_t_behind a_t_isOn a_t_text a_t_where a_t_what a_t_tryEntries a_t_tryMarks l109_5 x_t_thrown_109 x_t_places x_t_persons_109 x_t_many_109 x_t_size x_t_at x_t_sought x_t_found x_t_where_109 x_t_what_109 x_t_tryEntries_109 x_t_tryMarks_109 _ _ _ hy25) (cwV 1 hts (gV gw_517 gw_518 gw_25 gw_36 gw_519) rfl rfl rfl (by decide +kernel) ⟨Nat.le_of_ble_eq_true rfl, Nat.le_of_ble_eq_true rfl⟩) (pV hK hN hPc hDc (ci := 6) (q0 := 0) rfl rfl) rfl rfl hl.1 rfl (lv_room (Nat.le_of_ble_eq_true rfl)) d_Md_join_134 ⟨Nat.le_of_ble_eq_true rfl, Nat.le_of_ble_eq_true rfl⟩) hS (fun q _ h => hFc q h) hFc (fun H1 locs hB hz hk hS => ?_)
                              obtain ⟨hP, hD⟩ := q_join (wr := [(a_t_entries, .inl (G.2 0, 648, .inl x_t_entries_109)), (a_t_marked, .inl (G.2 0, 648, .inl x_t_marked_109)), (a_t_present, .inl (G.2 0, 8, .inl x_t_present_109)), (a_t_whose, .inl (G.2 0, 600, .inl x_t_whose_109)), (a_t_before, .inl (G.2 0, 600, .inl x_t_before_109)), (a_t_behind, .inl (G.2 0, 600, .inl x_t_behind_109)), (a_t_isOn, .inl (G.2 1, 600, .inl x_t_isOn_109))]) (wn := (ws_Md_join G a_t a_t_truth a_t_helped a_t_counted a_t_told a_t_runs a_t_text a_t_entries a_t_marked a_t_present a_t_whose a_t_where a_t_what a_t_before a_t_behind a_t_isOn a_t_tryEntries a_t_tryMarks x_t_thrown_109 x_t_places x_t_persons_109 x_t_many_109 x_t_size x_t_at x_t_sought x_t_found x_t_entries_109 x_t_marked_109 x_t_present_109 x_t_whose_109 x_t_where_109 x_t_what_109 x_t_before_109 x_t_behind_109 x_t_isOn_109 y25.2.1 y25.2.2)) hP hD [0, 5, 6, 10, 11] [1, 2, 3, 4, 7, 8, 9] [7, 0, 1, 2, 3, 8, 9, 4, 5, 6, 10, 11] rfl rfl (by decide) (by decide) rfl (by decide) hk hFc hB.1 hB.2
                              generalize H1 = H at hP hS ⊢
                              replace hP : va_P G.1 vwCl (ws_Md_join G a_t a_t_truth a_t_helped a_t_counted a_t_told a_t_runs a_t_text a_t_entries a_t_marked a_t_present a_t_whose a_t_where a_t_what a_t_before a_t_behind a_t_isOn a_t_tryEntries a_t_tryMarks x_t_thrown_109 x_t_places x_t_persons_109 x_t_many_109 x_t_size x_t_at x_t_sought x_t_found x_t_entries_109 x_t_marked_109 x_t_present_109 x_t_whose_109 x_t_where_109 x_t_what_109 x_t_before_109 x_t_behind_109 x_t_isOn_109 y25.2.1 y25.2.2) H := hP
                              replace hD : va_D A (ws_Md_join G a_t a_t_truth a_t_helped a_t_counted a_t_told a_t_runs a_t_text a_t_entries a_t_marked a_t_present a_t_whose a_t_where a_t_what a_t_before a_t_behind a_t_isOn a_t_tryEntries a_t_tryMarks x_t_thrown_109 x_t_places x_t_persons_109 x_t_many_109 x_t_size x_t_at x_t_sought x_t_found x_t_entries_109 x_t_marked_109 x_t_present_109 x_t_whose_109 x_t_where_109 x_t_what_109 x_t_before_109 x_t_behind_109 x_t_isOn_109 y25.2.1 y25.2.2) := hD
                              refine lv_if_eq (tgt := 144) hx hb d_Md_join_137 (by decide) (fun c26 => ?_) (fun c26 => ?_)
                              · replace h := (if_pos c26).symm.trans h
                                refine lv_iconst (v := (0 : Int32)) hx hb d_Md_join_144 (by decide) ?_
                                obtain ⟨i27, h⟩ := o_if h
                                refine va_zast (n := 600) (f := x_t_isOn_109) hx hb hK hP hD hS 9 1 rfl rfl i27 d_Md_join_145 (fun H locs hP hD hS => ?_)
                                replace hP : va_P G.1 vwCl (ws_Md_join G a_t a_t_truth a_t_helped a_t_counted a_t_told a_t_runs a_t_text a_t_entries a_t_marked a_t_present a_t_whose a_t_where a_t_what a_t_before a_t_behind a_t_isOn a_t_tryEntries a_t_tryMarks x_t_thrown_109 x_t_places x_t_persons_109 x_t_many_109 x_t_size x_t_at x_t_sought x_t_found x_t_entries_109 x_t_marked_109 x_t_present_109 x_t_whose_109 x_t_where_109 x_t_what_109 x_t_before_109 x_t_behind_109 (upd x_t_isOn_109 l109_5.toNatClampNeg (vp_nar .boolean (0 : Int32))) y25.2.1 y25.2.2) H := hP
                                replace hD : va_D A (ws_Md_join G a_t a_t_truth a_t_helped a_t_counted a_t_told a_t_runs a_t_text a_t_entries a_t_marked a_t_present a_t_whose a_t_where a_t_what a_t_before a_t_behind a_t_isOn a_t_tryEntries a_t_tryMarks x_t_thrown_109 x_t_places x_t_persons_109 x_t_many_109 x_t_size x_t_at x_t_sought x_t_found x_t_entries_109 x_t_marked_109 x_t_present_109 x_t_whose_109 x_t_where_109 x_t_what_109 x_t_before_109 x_t_behind_109 (upd x_t_isOn_109 l109_5.toNatClampNeg (vp_nar .boolean (0 : Int32))) y25.2.1 y25.2.2) := hD
                                refine lv_iload hx hb d_Md_join_146 (lv_at hl 4 rfl) ?_
                                refine lv_aload_n hx hb d_Md_join_148 rfl (lv_at hl 0 rfl) ?_
                                refine va_get (D := G.1) (ci := 6) (v := .ref a_t_isOn) (C := "PlayStatesModel") (T := TMd) (N := 25) hx hb hts iw_6 hown hK hP 0 rfl rfl 17 (by decide) (hts _ gw_396) (fun _ h9 => h9) rfl d_Md_join_149 ?_
                                refine lv_iload hx hb d_Md_join_152 (lv_at hl 5 rfl) ?_
                                obtain ⟨i28, h⟩ := o_if h
                                refine va_zald (n := 600) (f := (upd x_t_isOn_109 l109_5.toNatClampNeg (vp_nar .boolean (0 : Int32)))) hx hb hK hP 9 1 rfl rfl i28 d_Md_join_154 ?_
                                refine lv_if_eq (tgt := 162) hx hb d_Md_join_155 (by decide) (fun c29 => ?_) (fun c29 => ?_)
                                · replace h := (if_pos c29).symm.trans h
                                  refine lv_iconst (v := (0 : Int32)) hx hb d_Md_join_162 (by decide) ?_
                                  refine lv_iadd hx hb d_Md_join_163 ?_
                                  refine lv_istore (lv' := [(4, .int (l109_4 + (0 : Int32))), (0, .ref a_t), (1, .int l109_1), (2, .int l109_2), (3, .int l109_3), (5, .int l109_5)]) hx hb d_Md_join_164 hl (by decide) rfl (fun ls hl => ?_)
                                  refine lv_iinc (v := (l109_5 + (1 : Int32))) (lv' := [(5, .int (l109_5 + (1 : Int32))), (4, .int (l109_4 + (0 : Int32))), (0, .ref a_t), (1, .int l109_1), (2, .int l109_2), (3, .int l109_3)]) hx hb d_Md_join_166 hl (k := 5) rfl rfl (by decide) rfl (fun ls hl => ?_)
                                  refine lv_goto (tgt := 109) hx hb d_Md_join_169 (by decide) ?_
                                  exact ih109 l109_1 l109_2 l109_3 (l109_4 + (0 : Int32)) (l109_5 + (1 : Int32)) x_t_thrown_109 x_t_persons_109 x_t_many_109 x_t_entries_109 x_t_marked_109 x_t_present_109 x_t_whose_109 x_t_where_109 x_t_what_109 x_t_before_109 x_t_behind_109 (upd x_t_isOn_109 l109_5.toNatClampNeg (vp_nar .boolean (0 : Int32))) y25.2.1 y25.2.2 _ _ _ h hP hD hS (lv_sub hl [2, 3, 4, 5, 1, 0] rfl)
                                · replace h := (if_neg c29).symm.trans h
                                  refine lv_iconst (v := (1 : Int32)) hx hb d_Md_join_158 (by decide) ?_
                                  refine lv_goto (tgt := 163) hx hb d_Md_join_159 (by decide) ?_
                                  refine lv_iadd hx hb d_Md_join_163 ?_
                                  refine lv_istore (lv' := [(4, .int (l109_4 + (1 : Int32))), (0, .ref a_t), (1, .int l109_1), (2, .int l109_2), (3, .int l109_3), (5, .int l109_5)]) hx hb d_Md_join_164 hl (by decide) rfl (fun ls hl => ?_)
                                  refine lv_iinc (v := (l109_5 + (1 : Int32))) (lv' := [(5, .int (l109_5 + (1 : Int32))), (4, .int (l109_4 + (1 : Int32))), (0, .ref a_t), (1, .int l109_1), (2, .int l109_2), (3, .int l109_3)]) hx hb d_Md_join_166 hl (k := 5) rfl rfl (by decide) rfl (fun ls hl => ?_)
                                  refine lv_goto (tgt := 109) hx hb d_Md_join_169 (by decide) ?_
                                  exact ih109 l109_1 l109_2 l109_3 (l109_4 + (1 : Int32)) (l109_5 + (1 : Int32)) x_t_thrown_109 x_t_persons_109 x_t_many_109 x_t_entries_109 x_t_marked_109 x_t_present_109 x_t_whose_109 x_t_where_109 x_t_what_109 x_t_before_109 x_t_behind_109 (upd x_t_isOn_109 l109_5.toNatClampNeg (vp_nar .boolean (0 : Int32))) y25.2.1 y25.2.2 _ _ _ h hP hD hS (lv_sub hl [2, 3, 4, 5, 1, 0] rfl)
                              · replace h := (if_neg c26).symm.trans h
                                refine lv_iconst (v := (1 : Int32)) hx hb d_Md_join_140 (by decide) ?_
                                refine lv_goto (tgt := 145) hx hb d_Md_join_141 (by decide) ?_
                                obtain ⟨i30, h⟩ := o_if h
                                refine va_zast (n := 600) (f := x_t_isOn_109) hx hb hK hP hD hS 9 1 rfl rfl i30 d_Md_join_145 (fun H locs hP hD hS => ?_)
                                replace hP : va_P G.1 vwCl (ws_Md_join G a_t a_t_truth a_t_helped a_t_counted a_t_told a_t_runs a_t_text a_t_entries a_t_marked a_t_present a_t_whose a_t_where a_t_what a_t_before a_t_behind a_t_isOn a_t_tryEntries a_t_tryMarks x_t_thrown_109 x_t_places x_t_persons_109 x_t_many_109 x_t_size x_t_at x_t_sought x_t_found x_t_entries_109 x_t_marked_109 x_t_present_109 x_t_whose_109 x_t_where_109 x_t_what_109 x_t_before_109 x_t_behind_109 (upd x_t_isOn_109 l109_5.toNatClampNeg (vp_nar .boolean (1 : Int32))) y25.2.1 y25.2.2) H := hP
                                replace hD : va_D A (ws_Md_join G a_t a_t_truth a_t_helped a_t_counted a_t_told a_t_runs a_t_text a_t_entries a_t_marked a_t_present a_t_whose a_t_where a_t_what a_t_before a_t_behind a_t_isOn a_t_tryEntries a_t_tryMarks x_t_thrown_109 x_t_places x_t_persons_109 x_t_many_109 x_t_size x_t_at x_t_sought x_t_found x_t_entries_109 x_t_marked_109 x_t_present_109 x_t_whose_109 x_t_where_109 x_t_what_109 x_t_before_109 x_t_behind_109 (upd x_t_isOn_109 l109_5.toNatClampNeg (vp_nar .boolean (1 : Int32))) y25.2.1 y25.2.2) := hD
                                refine lv_iload hx hb d_Md_join_146 (lv_at hl 4 rfl) ?_
                                refine lv_aload_n hx hb d_Md_join_148 rfl (lv_at hl 0 rfl) ?_
                                refine va_get (D := G.1) (ci := 6) (v := .ref a_t_isOn) (C := "PlayStatesModel") (T := TMd) (N := 25) hx hb hts iw_6 hown hK hP 0 rfl rfl 17 (by decide) (hts _ gw_396) (fun _ h9 => h9) rfl d_Md_join_149 ?_
                                refine lv_iload hx hb d_Md_join_152 (lv_at hl 5 rfl) ?_
                                obtain ⟨i31, h⟩ := o_if h
                                refine va_zald (n := 600) (f := (upd x_t_isOn_109 l109_5.toNatClampNeg (vp_nar .boolean (1 : Int32)))) hx hb hK hP 9 1 rfl rfl i31 d_Md_join_154 ?_
                                refine lv_if_eq (tgt := 162) hx hb d_Md_join_155 (by decide) (fun c32 => ?_) (fun c32 => ?_)
                                · replace h := (if_pos c32).symm.trans h
                                  refine lv_iconst (v := (0 : Int32)) hx hb d_Md_join_162 (by decide) ?_
                                  refine lv_iadd hx hb d_Md_join_163 ?_
                                  refine lv_istore (lv' := [(4, .int (l109_4 + (0 : Int32))), (0, .ref a_t), (1, .int l109_1), (2, .int l109_2), (3, .int l109_3), (5, .int l109_5)]) hx hb d_Md_join_164 hl (by decide) rfl (fun ls hl => ?_)
                                  refine lv_iinc (v := (l109_5 + (1 : Int32))) (lv' := [(5, .int (l109_5 + (1 : Int32))), (4, .int (l109_4 + (0 : Int32))), (0, .ref a_t), (1, .int l109_1), (2, .int l109_2), (3, .int l109_3)]) hx hb d_Md_join_166 hl (k := 5) rfl rfl (by decide) rfl (fun ls hl => ?_)
                                  refine lv_goto (tgt := 109) hx hb d_Md_join_169 (by decide) ?_
                                  exact ih109 l109_1 l109_2 l109_3 (l109_4 + (0 : Int32)) (l109_5 + (1 : Int32)) x_t_thrown_109 x_t_persons_109 x_t_many_109 x_t_entries_109 x_t_marked_109 x_t_present_109 x_t_whose_109 x_t_where_109 x_t_what_109 x_t_before_109 x_t_behind_109 (upd x_t_isOn_109 l109_5.toNatClampNeg (vp_nar .boolean (1 : Int32))) y25.2.1 y25.2.2 _ _ _ h hP hD hS (lv_sub hl [2, 3, 4, 5, 1, 0] rfl)
                                · replace h := (if_neg c32).symm.trans h
                                  refine lv_iconst (v := (1 : Int32)) hx hb d_Md_join_158 (by decide) ?_
                                  refine lv_goto (tgt := 163) hx hb d_Md_join_159 (by decide) ?_
                                  refine lv_iadd hx hb d_Md_join_163 ?_
                                  refine lv_istore (lv' := [(4, .int (l109_4 + (1 : Int32))), (0, .ref a_t), (1, .int l109_1), (2, .int l109_2), (3, .int l109_3), (5, .int l109_5)]) hx hb d_Md_join_164 hl (by decide) rfl (fun ls hl => ?_)
                                  refine lv_iinc (v := (l109_5 + (1 : Int32))) (lv' := [(5, .int (l109_5 + (1 : Int32))), (4, .int (l109_4 + (1 : Int32))), (0, .ref a_t), (1, .int l109_1), (2, .int l109_2), (3, .int l109_3)]) hx hb d_Md_join_166 hl (k := 5) rfl rfl (by decide) rfl (fun ls hl => ?_)
                                  refine lv_goto (tgt := 109) hx hb d_Md_join_169 (by decide) ?_
                                  exact ih109 l109_1 l109_2 l109_3 (l109_4 + (1 : Int32)) (l109_5 + (1 : Int32)) x_t_thrown_109 x_t_persons_109 x_t_many_109 x_t_entries_109 x_t_marked_109 x_t_present_109 x_t_whose_109 x_t_where_109 x_t_what_109 x_t_before_109 x_t_behind_109 (upd x_t_isOn_109 l109_5.toNatClampNeg (vp_nar .boolean (1 : Int32))) y25.2.1 y25.2.2 _ _ _ h hP hD hS (lv_sub hl [2, 3, 4, 5, 1, 0] rfl)
                      exact L109 fu l72_1 l72_2 x_t_many_72 (0 : Int32) (0 : Int32) x_t_thrown_72 x_t_persons_72 x_t_many_72 x_t_entries_72 x_t_marked_72 x_t_present_72 x_t_whose_72 x_t_where_72 x_t_what_72 x_t_before_72 x_t_behind_72 x_t_isOn_72 x_t_tryEntries_72 x_t_tryMarks_72 _ _ _ h hP hD hS (lv_sub hl [3, 4, 5, 2, 1, 0] rfl)
                    · replace h := (if_neg c10).symm.trans h
                      refine lv_aload_n hx hb d_Md_join_78 rfl (lv_at hl 0 rfl) ?_
                      refine va_get (D := G.1) (ci := 6) (v := .ref a_t_tryEntries) (C := "PlayStatesModel") (T := TMd) (N := 25) hx hb hts iw_6 hown hK hP 0 rfl rfl 18 (by decide) (hts _ gw_397) (fun _ h9 => h9) rfl d_Md_join_79 ?_
                      refine lv_iload_n hx hb d_Md_join_82 rfl (lv_at hl 3 rfl) ?_
                      refine lv_iconst (v := (0 : Int32)) hx hb d_Md_join_83 (by decide) ?_
                      obtain ⟨i33, h⟩ := o_if h
                      refine va_iast (n := 81) (f := x_t_tryEntries_72) hx hb hK hP hD hS 10 0 rfl rfl i33 d_Md_join_84 (fun H locs hP hD hS => ?_)
                      replace hP : va_P G.1 vwCl (ws_Md_join G a_t a_t_truth a_t_helped a_t_counted a_t_told a_t_runs a_t_text a_t_entries a_t_marked a_t_present a_t_whose a_t_where a_t_what a_t_before a_t_behind a_t_isOn a_t_tryEntries a_t_tryMarks x_t_thrown_72 x_t_places x_t_persons_72 x_t_many_72 x_t_size x_t_at x_t_sought x_t_found x_t_entries_72 x_t_marked_72 x_t_present_72 x_t_whose_72 x_t_where_72 x_t_what_72 x_t_before_72 x_t_behind_72 x_t_isOn_72 (upd x_t_tryEntries_72 l72_3.toNatClampNeg (0 : Int32)) x_t_tryMarks_72) H := hP
                      replace hD : va_D A (ws_Md_join G a_t a_t_truth a_t_helped a_t_counted a_t_told a_t_runs a_t_text a_t_entries a_t_marked a_t_present a_t_whose a_t_where a_t_what a_t_before a_t_behind a_t_isOn a_t_tryEntries a_t_tryMarks x_t_thrown_72 x_t_places x_t_persons_72 x_t_many_72 x_t_size x_t_at x_t_sought x_t_found x_t_entries_72 x_t_marked_72 x_t_present_72 x_t_whose_72 x_t_where_72 x_t_what_72 x_t_before_72 x_t_behind_72 x_t_isOn_72 (upd x_t_tryEntries_72 l72_3.toNatClampNeg (0 : Int32)) x_t_tryMarks_72) := hD
                      refine lv_aload_n hx hb d_Md_join_85 rfl (lv_at hl 0 rfl) ?_
                      refine va_get (D := G.1) (ci := 6) (v := .ref a_t_tryMarks) (C := "PlayStatesModel") (T := TMd) (N := 25) hx hb hts iw_6 hown hK hP 0 rfl rfl 19 (by decide) (hts _ gw_398) (fun _ h9 => h9) rfl d_Md_join_86 ?_
                      refine lv_iload_n hx hb d_Md_join_89 rfl (lv_at hl 3 rfl) ?_
                      refine lv_iconst (v := (0 : Int32)) hx hb d_Md_join_90 (by decide) ?_
                      obtain ⟨i34, h⟩ := o_if h
                      refine va_iast (n := 81) (f := x_t_tryMarks_72) hx hb hK hP hD hS 11 0 rfl rfl i34 d_Md_join_91 (fun H locs hP hD hS => ?_)
                      replace hP : va_P G.1 vwCl (ws_Md_join G a_t a_t_truth a_t_helped a_t_counted a_t_told a_t_runs a_t_text a_t_entries a_t_marked a_t_present a_t_whose a_t_where a_t_what a_t_before a_t_behind a_t_isOn a_t_tryEntries a_t_tryMarks x_t_thrown_72 x_t_places x_t_persons_72 x_t_many_72 x_t_size x_t_at x_t_sought x_t_found x_t_entries_72 x_t_marked_72 x_t_present_72 x_t_whose_72 x_t_where_72 x_t_what_72 x_t_before_72 x_t_behind_72 x_t_isOn_72 (upd x_t_tryEntries_72 l72_3.toNatClampNeg (0 : Int32)) (upd x_t_tryMarks_72 l72_3.toNatClampNeg (0 : Int32))) H := hP
                      replace hD : va_D A (ws_Md_join G a_t a_t_truth a_t_helped a_t_counted a_t_told a_t_runs a_t_text a_t_entries a_t_marked a_t_present a_t_whose a_t_where a_t_what a_t_before a_t_behind a_t_isOn a_t_tryEntries a_t_tryMarks x_t_thrown_72 x_t_places x_t_persons_72 x_t_many_72 x_t_size x_t_at x_t_sought x_t_found x_t_entries_72 x_t_marked_72 x_t_present_72 x_t_whose_72 x_t_where_72 x_t_what_72 x_t_before_72 x_t_behind_72 x_t_isOn_72 (upd x_t_tryEntries_72 l72_3.toNatClampNeg (0 : Int32)) (upd x_t_tryMarks_72 l72_3.toNatClampNeg (0 : Int32))) := hD
                      refine lv_iinc (v := (l72_3 + (1 : Int32))) (lv' := [(3, .int (l72_3 + (1 : Int32))), (0, .ref a_t), (1, .int l72_1), (2, .int l72_2)]) hx hb d_Md_join_92 hl (k := 3) rfl rfl (by decide) rfl (fun ls hl => ?_)
                      refine lv_goto (tgt := 72) hx hb d_Md_join_95 (by decide) ?_
                      exact ih72 l72_1 l72_2 (l72_3 + (1 : Int32)) x_t_thrown_72 x_t_persons_72 x_t_many_72 x_t_entries_72 x_t_marked_72 x_t_present_72 x_t_whose_72 x_t_where_72 x_t_what_72 x_t_before_72 x_t_behind_72 x_t_isOn_72 (upd x_t_tryEntries_72 l72_3.toNatClampNeg (0 : Int32)) (upd x_t_tryMarks_72 l72_3.toNatClampNeg (0 : Int32)) _ _ _ h hP hD hS (lv_sub hl [1, 2, 3, 0] rfl)
                exact L72 fu l39_1 l39_2 (0 : Int32) x_t_thrown_39 x_t_persons_39 x_t_many_39 x_t_entries_39 x_t_marked_39 x_t_present_39 x_t_whose_39 x_t_where_39 x_t_what_39 x_t_before_39 x_t_behind_39 y9 x_t_tryEntries_39 x_t_tryMarks_39 _ _ _ h hP hD hS (lv_sub hl [1, 2, 3, 0] rfl)
              · replace h := (if_neg c7).symm.trans h
                refine lv_aload_n hx hb d_Md_join_47 rfl (lv_at hl 0 rfl) ?_
                refine va_get (D := G.1) (ci := 6) (v := .ref a_t_isOn) (C := "PlayStatesModel") (T := TMd) (N := 25) hx hb hts iw_6 hown hK hP 0 rfl rfl 17 (by decide) (hts _ gw_396) (fun _ h9 => h9) rfl d_Md_join_48 ?_
                refine lv_iload_n hx hb d_Md_join_51 rfl (lv_at hl 3 rfl) ?_
                refine lv_iconst (v := (0 : Int32)) hx hb d_Md_join_52 (by decide) ?_
                obtain ⟨i35, h⟩ := o_if h
                refine va_zast (n := 600) (f := x_t_isOn_39) hx hb hK hP hD hS 9 1 rfl rfl i35 d_Md_join_53 (fun H locs hP hD hS => ?_)
                replace hP : va_P G.1 vwCl (ws_Md_join G a_t a_t_truth a_t_helped a_t_counted a_t_told a_t_runs a_t_text a_t_entries a_t_marked a_t_present a_t_whose a_t_where a_t_what a_t_before a_t_behind a_t_isOn a_t_tryEntries a_t_tryMarks x_t_thrown_39 x_t_places x_t_persons_39 x_t_many_39 x_t_size x_t_at x_t_sought x_t_found x_t_entries_39 x_t_marked_39 x_t_present_39 x_t_whose_39 x_t_where_39 x_t_what_39 x_t_before_39 x_t_behind_39 (upd x_t_isOn_39 l39_3.toNatClampNeg (vp_nar .boolean (0 : Int32))) x_t_tryEntries_39 x_t_tryMarks_39) H := hP
                replace hD : va_D A (ws_Md_join G a_t a_t_truth a_t_helped a_t_counted a_t_told a_t_runs a_t_text a_t_entries a_t_marked a_t_present a_t_whose a_t_where a_t_what a_t_before a_t_behind a_t_isOn a_t_tryEntries a_t_tryMarks x_t_thrown_39 x_t_places x_t_persons_39 x_t_many_39 x_t_size x_t_at x_t_sought x_t_found x_t_entries_39 x_t_marked_39 x_t_present_39 x_t_whose_39 x_t_where_39 x_t_what_39 x_t_before_39 x_t_behind_39 (upd x_t_isOn_39 l39_3.toNatClampNeg (vp_nar .boolean (0 : Int32))) x_t_tryEntries_39 x_t_tryMarks_39) := hD
                refine lv_iinc (v := (l39_3 + (1 : Int32))) (lv' := [(3, .int (l39_3 + (1 : Int32))), (0, .ref a_t), (1, .int l39_1), (2, .int l39_2)]) hx hb d_Md_join_54 hl (k := 3) rfl rfl (by decide) rfl (fun ls hl => ?_)
                refine lv_goto (tgt := 39) hx hb d_Md_join_57 (by decide) ?_
                exact ih39 l39_1 l39_2 (l39_3 + (1 : Int32)) x_t_thrown_39 x_t_persons_39 x_t_many_39 x_t_entries_39 x_t_marked_39 x_t_present_39 x_t_whose_39 x_t_where_39 x_t_what_39 x_t_before_39 x_t_behind_39 (upd x_t_isOn_39 l39_3.toNatClampNeg (vp_nar .boolean (0 : Int32))) x_t_tryEntries_39 x_t_tryMarks_39 _ _ _ h hP hD hS (lv_sub hl [1, 2, 3, 0] rfl)
          exact L39 fu p0 p1 (0 : Int32) (0 : Int32) x_t_persons x_t_many x_t_entries x_t_marked x_t_present x_t_whose x_t_where x_t_what x_t_before x_t_behind x_t_isOn x_t_tryEntries x_t_tryMarks _ _ _ h hP hD hS (lv_sub hl [1, 2, 3, 0] rfl)
        · replace h := (if_pos c6).symm.trans h
          refine lv_iconst (v := (-1 : Int32)) hx hb d_Md_join_35 (by decide) ?_
          simp only [Option.some.injEq, Prod.mk.injEq] at h
          obtain ⟨rfl, rfl, rfl, rfl, rfl, rfl, rfl, rfl, rfl, rfl, rfl, rfl, rfl, rfl, rfl⟩ := h
          exact q_iretW hx hb hr hlocks hP hD hS d_Md_join_36
