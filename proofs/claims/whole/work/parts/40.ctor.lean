theorem gw_78 : (.methodLink "PlayStates$Board" 3 ⟨"java/lang/Object", "<init>", "()V"⟩ : Cond) ∈ GW := gT 60 (by decide +kernel) (by decide +kernel)
theorem gw_47 : (.instanceMethod ⟨"java/lang/Object", "<init>", "()V"⟩ : Cond) ∈ GW := gT 17 (by decide +kernel) (by decide +kernel)
theorem gw_oc : Cond.code objectInit ⟨#[0xb1]⟩ 1 none ∈ GW := gT 18 (by decide +kernel) (by decide +kernel)
theorem gw_72 : (.arrayClass .int : Cond) ∈ GW := gT 54 (by decide +kernel) (by decide +kernel)
theorem d_Bd_init_0 : decode prog_2_method_1_code 0 = .ok (.aload_n 0, 1) := by decide +kernel
theorem d_Bd_init_1 : decode prog_2_method_1_code 1 = .ok (.invokespecial 3, 3) := by decide +kernel
theorem d_Bd_init_4 : decode prog_2_method_1_code 4 = .ok (.aload_n 0, 1) := by decide +kernel
theorem d_Bd_init_5 : decode prog_2_method_1_code 5 = .ok (.iload_n 1, 1) := by decide +kernel
theorem d_Bd_init_6 : decode prog_2_method_1_code 6 = .ok (.newarray .int, 2) := by decide +kernel
theorem d_Bd_init_8 : decode prog_2_method_1_code 8 = .ok (.putfield 9, 3) := by decide +kernel
theorem d_Bd_init_11 : decode prog_2_method_1_code 11 = .ok (.aload_n 0, 1) := by decide +kernel
theorem d_Bd_init_12 : decode prog_2_method_1_code 12 = .ok (.iload_n 1, 1) := by decide +kernel
theorem d_Bd_init_13 : decode prog_2_method_1_code 13 = .ok (.newarray .int, 2) := by decide +kernel
theorem d_Bd_init_15 : decode prog_2_method_1_code 15 = .ok (.putfield 15, 3) := by decide +kernel
theorem d_Bd_init_18 : decode prog_2_method_1_code 18 = .ok (.return_, 1) := by decide +kernel
-- PlayStates$Board.<init>(I)V 
set_option maxHeartbeats 4000000 in
set_option maxRecDepth 100000 in
theorem c_Bd_init (l : Launch) (G : gG) (sz : Nat) (a_t : Nat) (n : Nat) (h81 : n ≤ 81)     : cN l y_Bd_init w_Bd_init { frames := 1, cells := 2, slots := 162, locals := 20 } G sz [.ref a_t, .int (nI n)] [(a_t, .inr (0, [.null, .null]))] none (fun (A : Nat → Prop) (H : Heap) => ∃ q1 q2 : Nat, va_P G.1 vwCl [(a_t, .inr (0, [.ref q1, .ref q2])), (q1, .inl (G.2 0, n, .inl (fun _ => 0))), (q2, .inl (G.2 0, n, .inl (fun _ => 0)))] H ∧ va_D A [(a_t, .inr (0, [.ref q1, .ref q2])), (q1, .inl (G.2 0, n, .inl (fun _ => 0))), (q2, .inl (G.2 0, n, .inl (fun _ => 0)))]) 2 162 := by
  refine cN_ofW (cc := prog_2_method_1_code) (maxL := 2) (ret := none) (by decide) rfl (Nat.le_of_ble_eq_true rfl) ?_
  intro p e s m args below meth c A H locs ls hx hb hr hts hown hlocks hin hml hK hN hP hD hA hS hl
  replace hl : lv_has ls 2 [(0, .ref a_t), (1, .int (nI n))] := hl
  replace hown : s.vm.findClass "PlayStates$Board" = some m.cls := hown
  refine lv_aload_n hx hb d_Bd_init_0 rfl (lv_at hl 0 rfl) ?_
  refine W.objInit hx hb hown (hts _ gw_78) (hts _ gw_47) (hts _ gw_oc) rfl (by rw [hml]; exact hl.1) rfl d_Bd_init_1 (Nat.le_of_ble_eq_true rfl) (Nat.le_of_ble_eq_true rfl) ?_
  refine W.eq (g2 := F0 m 4 ls []) rfl ?_
  refine lv_aload_n hx hb d_Bd_init_4 rfl (lv_at hl 0 rfl) ?_
  refine lv_iload_n hx hb d_Bd_init_5 rfl (lv_at hl 1 rfl) ?_
  refine q_newI (N := n) hx hb (hts _ gw_72) hK hP hD hS hA (nI_pos (by omega)) (nI_clamp (by omega)) (show n * 4 ≤ 536870912 by omega) (by decide) (show 0 + n ≤ 162 by omega) d_Bd_init_6 (fun q1 H hP hD hS => ?_)
  refine W.widen (k := 1) (n := 81) (by omega) (by omega) ?_
  replace hP : va_P G.1 vwCl [(a_t, .inr (0, [.null, .null])), (q1, .inl (G.2 0, n, .inl (fun _ => 0)))] H := hP
  replace hD : va_D A [(a_t, .inr (0, [.null, .null])), (q1, .inl (G.2 0, n, .inl (fun _ => 0)))] := hD
  refine va_putF (D := G.1) (ci := 0) (v := .ref q1) (ty := (.array .int)) (C := "PlayStates$Board") (T := TBd) (N := 2) hx hb hts iw_0 tyBd tyBd_ok nmBd hown hK hP hD hS 0 rfl rfl 0 (by decide) (hts _ gw_79) (fun _ h9 => h9) rfl hin rfl (by decide +kernel) (by rfl) (by rfl) (Nat.le_of_ble_eq_true rfl) d_Bd_init_8 (fun H locs hP hD hS => ?_)
  replace hP : va_P G.1 vwCl [(a_t, .inr (0, [.ref q1, .null])), (q1, .inl (G.2 0, n, .inl (fun _ => 0)))] H := hP
  replace hD : va_D A [(a_t, .inr (0, [.ref q1, .null])), (q1, .inl (G.2 0, n, .inl (fun _ => 0)))] := hD
  refine lv_aload_n hx hb d_Bd_init_11 rfl (lv_at hl 0 rfl) ?_
  refine lv_iload_n hx hb d_Bd_init_12 rfl (lv_at hl 1 rfl) ?_
  refine q_newI (N := n) hx hb (hts _ gw_72) hK hP hD hS hA (nI_pos (by omega)) (nI_clamp (by omega)) (show n * 4 ≤ 536870912 by omega) (by decide) (show 81 + n ≤ 162 by omega) d_Bd_init_13 (fun q2 H hP hD hS => ?_)
  refine W.widen (k := 2) (n := 162) (by omega) (by omega) ?_
  replace hP : va_P G.1 vwCl [(a_t, .inr (0, [.ref q1, .null])), (q1, .inl (G.2 0, n, .inl (fun _ => 0))), (q2, .inl (G.2 0, n, .inl (fun _ => 0)))] H := hP
  replace hD : va_D A [(a_t, .inr (0, [.ref q1, .null])), (q1, .inl (G.2 0, n, .inl (fun _ => 0))), (q2, .inl (G.2 0, n, .inl (fun _ => 0)))] := hD
  refine va_putF (D := G.1) (ci := 0) (v := .ref q2) (ty := (.array .int)) (C := "PlayStates$Board") (T := TBd) (N := 2) hx hb hts iw_0 tyBd tyBd_ok nmBd hown hK hP hD hS 0 rfl rfl 1 (by decide) (hts _ gw_80) (fun _ h9 => h9) rfl hin rfl (by decide +kernel) (by rfl) (by rfl) (Nat.le_of_ble_eq_true rfl) d_Bd_init_15 (fun H locs hP hD hS => ?_)
  replace hP : va_P G.1 vwCl [(a_t, .inr (0, [.ref q1, .ref q2])), (q1, .inl (G.2 0, n, .inl (fun _ => 0))), (q2, .inl (G.2 0, n, .inl (fun _ => 0)))] H := hP
  replace hD : va_D A [(a_t, .inr (0, [.ref q1, .ref q2])), (q1, .inl (G.2 0, n, .inl (fun _ => 0))), (q2, .inl (G.2 0, n, .inl (fun _ => 0)))] := hD
  refine q_vretB hx hb hr hlocks ?_ hS d_Bd_init_18
  exact ⟨q1, q2, hP, hD⟩

theorem gw_143 : (.methodLink "PlayStates$Clock" 1 ⟨"java/lang/Object", "<init>", "()V"⟩ : Cond) ∈ GW := gT 151 (by decide +kernel) (by decide +kernel)
theorem d_Ck_init_0 : decode prog_3_method_1_code 0 = .ok (.aload_n 0, 1) := by decide +kernel
theorem d_Ck_init_1 : decode prog_3_method_1_code 1 = .ok (.invokespecial 1, 3) := by decide +kernel
theorem d_Ck_init_4 : decode prog_3_method_1_code 4 = .ok (.return_, 1) := by decide +kernel
-- PlayStates$Clock.<init>()V 
set_option maxHeartbeats 4000000 in
set_option maxRecDepth 100000 in
theorem c_Ck_init (l : Launch) (G : gG) (sz : Nat) (a_t : Nat)      : cN l y_Ck_init w_Ck_init { frames := 1, cells := 0, slots := 0, locals := 20 } G sz [.ref a_t] [(a_t, .inr (1, [.int (0 : Int32), .long (0 : Int64), .long (0 : Int64)]))] none (fun (A : Nat → Prop) (H : Heap) => va_P G.1 vwCl [(a_t, .inr (1, [.int (0 : Int32), .long (0 : Int64), .long (0 : Int64)]))] H ∧ va_D A [(a_t, .inr (1, [.int (0 : Int32), .long (0 : Int64), .long (0 : Int64)]))]) 0 0 := by
  refine cN_ofW (cc := prog_3_method_1_code) (maxL := 1) (ret := none) (by decide) rfl (Nat.le_of_ble_eq_true rfl) ?_
  intro p e s m args below meth c A H locs ls hx hb hr hts hown hlocks hin hml hK hN hP hD hA hS hl
  replace hl : lv_has ls 1 [(0, .ref a_t)] := hl
  replace hown : s.vm.findClass "PlayStates$Clock" = some m.cls := hown
  refine lv_aload_n hx hb d_Ck_init_0 rfl (lv_at hl 0 rfl) ?_
  refine W.objInit hx hb hown (hts _ gw_143) (hts _ gw_47) (hts _ gw_oc) rfl (by rw [hml]; exact hl.1) rfl d_Ck_init_1 (Nat.le_of_ble_eq_true rfl) (Nat.le_of_ble_eq_true rfl) ?_
  refine W.eq (g2 := F0 m 4 ls []) rfl ?_
  refine q_vretB hx hb hr hlocks ?_ hS d_Ck_init_4
  exact ⟨hP, hD⟩

theorem gw_61 : (.methodLink "PlayStates$RowTable" 3 ⟨"java/lang/Object", "<init>", "()V"⟩ : Cond) ∈ GW := gT 32 (by decide +kernel) (by decide +kernel)
theorem d_Rt_init_0 : decode prog_5_method_1_code 0 = .ok (.aload_n 0, 1) := by decide +kernel
theorem d_Rt_init_1 : decode prog_5_method_1_code 1 = .ok (.invokespecial 3, 3) := by decide +kernel
theorem d_Rt_init_4 : decode prog_5_method_1_code 4 = .ok (.aload_n 0, 1) := by decide +kernel
theorem d_Rt_init_5 : decode prog_5_method_1_code 5 = .ok (.sipush 600, 3) := by decide +kernel
theorem d_Rt_init_8 : decode prog_5_method_1_code 8 = .ok (.newarray .int, 2) := by decide +kernel
theorem d_Rt_init_10 : decode prog_5_method_1_code 10 = .ok (.putfield 9, 3) := by decide +kernel
theorem d_Rt_init_13 : decode prog_5_method_1_code 13 = .ok (.aload_n 0, 1) := by decide +kernel
theorem d_Rt_init_14 : decode prog_5_method_1_code 14 = .ok (.sipush 600, 3) := by decide +kernel
theorem d_Rt_init_17 : decode prog_5_method_1_code 17 = .ok (.newarray .int, 2) := by decide +kernel
theorem d_Rt_init_19 : decode prog_5_method_1_code 19 = .ok (.putfield 15, 3) := by decide +kernel
theorem d_Rt_init_22 : decode prog_5_method_1_code 22 = .ok (.aload_n 0, 1) := by decide +kernel
theorem d_Rt_init_23 : decode prog_5_method_1_code 23 = .ok (.sipush 600, 3) := by decide +kernel
theorem d_Rt_init_26 : decode prog_5_method_1_code 26 = .ok (.newarray .int, 2) := by decide +kernel
theorem d_Rt_init_28 : decode prog_5_method_1_code 28 = .ok (.putfield 18, 3) := by decide +kernel
theorem d_Rt_init_31 : decode prog_5_method_1_code 31 = .ok (.aload_n 0, 1) := by decide +kernel
theorem d_Rt_init_32 : decode prog_5_method_1_code 32 = .ok (.sipush 600, 3) := by decide +kernel
theorem d_Rt_init_35 : decode prog_5_method_1_code 35 = .ok (.newarray .int, 2) := by decide +kernel
theorem d_Rt_init_37 : decode prog_5_method_1_code 37 = .ok (.putfield 21, 3) := by decide +kernel
theorem d_Rt_init_40 : decode prog_5_method_1_code 40 = .ok (.return_, 1) := by decide +kernel
-- PlayStates$RowTable.<init>()V 
set_option maxHeartbeats 4000000 in
set_option maxRecDepth 100000 in
theorem c_Rt_init (l : Launch) (G : gG) (sz : Nat) (a_t : Nat)      : cN l y_Rt_init w_Rt_init { frames := 1, cells := 4, slots := 2400, locals := 20 } G sz [.ref a_t] [(a_t, .inr (3, [.null, .null, .null, .null, .int (0 : Int32)]))] none (fun (A : Nat → Prop) (H : Heap) => ∃ q1 q2 q3 q4 : Nat, va_P G.1 vwCl [(a_t, .inr (3, [.ref q1, .ref q2, .ref q3, .ref q4, .int (0 : Int32)])), (q1, .inl (G.2 0, 600, .inl (fun _ => 0))), (q2, .inl (G.2 0, 600, .inl (fun _ => 0))), (q3, .inl (G.2 0, 600, .inl (fun _ => 0))), (q4, .inl (G.2 0, 600, .inl (fun _ => 0)))] H ∧ va_D A [(a_t, .inr (3, [.ref q1, .ref q2, .ref q3, .ref q4, .int (0 : Int32)])), (q1, .inl (G.2 0, 600, .inl (fun _ => 0))), (q2, .inl (G.2 0, 600, .inl (fun _ => 0))), (q3, .inl (G.2 0, 600, .inl (fun _ => 0))), (q4, .inl (G.2 0, 600, .inl (fun _ => 0)))]) 4 2400 := by
  refine cN_ofW (cc := prog_5_method_1_code) (maxL := 1) (ret := none) (by decide) rfl (Nat.le_of_ble_eq_true rfl) ?_
  intro p e s m args below meth c A H locs ls hx hb hr hts hown hlocks hin hml hK hN hP hD hA hS hl
  replace hl : lv_has ls 1 [(0, .ref a_t)] := hl
  replace hown : s.vm.findClass "PlayStates$RowTable" = some m.cls := hown
  refine lv_aload_n hx hb d_Rt_init_0 rfl (lv_at hl 0 rfl) ?_
  refine W.objInit hx hb hown (hts _ gw_61) (hts _ gw_47) (hts _ gw_oc) rfl (by rw [hml]; exact hl.1) rfl d_Rt_init_1 (Nat.le_of_ble_eq_true rfl) (Nat.le_of_ble_eq_true rfl) ?_
  refine W.eq (g2 := F0 m 4 ls []) rfl ?_
  refine lv_aload_n hx hb d_Rt_init_4 rfl (lv_at hl 0 rfl) ?_
  refine lv_sipush (v := (600 : Int32)) hx hb d_Rt_init_5 (by decide) ?_
  refine q_newI (N := 600) hx hb (hts _ gw_72) hK hP hD hS hA (by decide) (by decide) (by decide) (by decide) (by decide) d_Rt_init_8 (fun q1 H hP hD hS => ?_)
  refine W.widen (k := 1) (n := 600) (by omega) (by omega) ?_
  replace hP : va_P G.1 vwCl [(a_t, .inr (3, [.null, .null, .null, .null, .int (0 : Int32)])), (q1, .inl (G.2 0, 600, .inl (fun _ => 0)))] H := hP
  replace hD : va_D A [(a_t, .inr (3, [.null, .null, .null, .null, .int (0 : Int32)])), (q1, .inl (G.2 0, 600, .inl (fun _ => 0)))] := hD
  refine va_putF (D := G.1) (ci := 3) (v := .ref q1) (ty := (.array .int)) (C := "PlayStates$RowTable") (T := TRt) (N := 5) hx hb hts iw_3 tyRt tyRt_ok nmRt hown hK hP hD hS 0 rfl rfl 0 (by decide) (hts _ gw_62) (fun _ h9 => h9) rfl hin rfl (by decide +kernel) (by rfl) (by rfl) (Nat.le_of_ble_eq_true rfl) d_Rt_init_10 (fun H locs hP hD hS => ?_)
  replace hP : va_P G.1 vwCl [(a_t, .inr (3, [.ref q1, .null, .null, .null, .int (0 : Int32)])), (q1, .inl (G.2 0, 600, .inl (fun _ => 0)))] H := hP
  replace hD : va_D A [(a_t, .inr (3, [.ref q1, .null, .null, .null, .int (0 : Int32)])), (q1, .inl (G.2 0, 600, .inl (fun _ => 0)))] := hD
  refine lv_aload_n hx hb d_Rt_init_13 rfl (lv_at hl 0 rfl) ?_
  refine lv_sipush (v := (600 : Int32)) hx hb d_Rt_init_14 (by decide) ?_
  refine q_newI (N := 600) hx hb (hts _ gw_72) hK hP hD hS hA (by decide) (by decide) (by decide) (by decide) (by decide) d_Rt_init_17 (fun q2 H hP hD hS => ?_)
  refine W.widen (k := 2) (n := 1200) (by omega) (by omega) ?_
  replace hP : va_P G.1 vwCl [(a_t, .inr (3, [.ref q1, .null, .null, .null, .int (0 : Int32)])), (q1, .inl (G.2 0, 600, .inl (fun _ => 0))), (q2, .inl (G.2 0, 600, .inl (fun _ => 0)))] H := hP
  replace hD : va_D A [(a_t, .inr (3, [.ref q1, .null, .null, .null, .int (0 : Int32)])), (q1, .inl (G.2 0, 600, .inl (fun _ => 0))), (q2, .inl (G.2 0, 600, .inl (fun _ => 0)))] := hD
  refine va_putF (D := G.1) (ci := 3) (v := .ref q2) (ty := (.array .int)) (C := "PlayStates$RowTable") (T := TRt) (N := 5) hx hb hts iw_3 tyRt tyRt_ok nmRt hown hK hP hD hS 0 rfl rfl 1 (by decide) (hts _ gw_63) (fun _ h9 => h9) rfl hin rfl (by decide +kernel) (by rfl) (by rfl) (Nat.le_of_ble_eq_true rfl) d_Rt_init_19 (fun H locs hP hD hS => ?_)
  replace hP : va_P G.1 vwCl [(a_t, .inr (3, [.ref q1, .ref q2, .null, .null, .int (0 : Int32)])), (q1, .inl (G.2 0, 600, .inl (fun _ => 0))), (q2, .inl (G.2 0, 600, .inl (fun _ => 0)))] H := hP
  replace hD : va_D A [(a_t, .inr (3, [.ref q1, .ref q2, .null, .null, .int (0 : Int32)])), (q1, .inl (G.2 0, 600, .inl (fun _ => 0))), (q2, .inl (G.2 0, 600, .inl (fun _ => 0)))] := hD
  refine lv_aload_n hx hb d_Rt_init_22 rfl (lv_at hl 0 rfl) ?_
  refine lv_sipush (v := (600 : Int32)) hx hb d_Rt_init_23 (by decide) ?_
  refine q_newI (N := 600) hx hb (hts _ gw_72) hK hP hD hS hA (by decide) (by decide) (by decide) (by decide) (by decide) d_Rt_init_26 (fun q3 H hP hD hS => ?_)
  refine W.widen (k := 3) (n := 1800) (by omega) (by omega) ?_
  replace hP : va_P G.1 vwCl [(a_t, .inr (3, [.ref q1, .ref q2, .null, .null, .int (0 : Int32)])), (q1, .inl (G.2 0, 600, .inl (fun _ => 0))), (q2, .inl (G.2 0, 600, .inl (fun _ => 0))), (q3, .inl (G.2 0, 600, .inl (fun _ => 0)))] H := hP
  replace hD : va_D A [(a_t, .inr (3, [.ref q1, .ref q2, .null, .null, .int (0 : Int32)])), (q1, .inl (G.2 0, 600, .inl (fun _ => 0))), (q2, .inl (G.2 0, 600, .inl (fun _ => 0))), (q3, .inl (G.2 0, 600, .inl (fun _ => 0)))] := hD
  refine va_putF (D := G.1) (ci := 3) (v := .ref q3) (ty := (.array .int)) (C := "PlayStates$RowTable") (T := TRt) (N := 5) hx hb hts iw_3 tyRt tyRt_ok nmRt hown hK hP hD hS 0 rfl rfl 2 (by decide) (hts _ gw_64) (fun _ h9 => h9) rfl hin rfl (by decide +kernel) (by rfl) (by rfl) (Nat.le_of_ble_eq_true rfl) d_Rt_init_28 (fun H locs hP hD hS => ?_)
  replace hP : va_P G.1 vwCl [(a_t, .inr (3, [.ref q1, .ref q2, .ref q3, .null, .int (0 : Int32)])), (q1, .inl (G.2 0, 600, .inl (fun _ => 0))), (q2, .inl (G.2 0, 600, .inl (fun _ => 0))), (q3, .inl (G.2 0, 600, .inl (fun _ => 0)))] H := hP
  replace hD : va_D A [(a_t, .inr (3, [.ref q1, .ref q2, .ref q3, .null, .int (0 : Int32)])), (q1, .inl (G.2 0, 600, .inl (fun _ => 0))), (q2, .inl (G.2 0, 600, .inl (fun _ => 0))), (q3, .inl (G.2 0, 600, .inl (fun _ => 0)))] := hD
  refine lv_aload_n hx hb d_Rt_init_31 rfl (lv_at hl 0 rfl) ?_
  refine lv_sipush (v := (600 : Int32)) hx hb d_Rt_init_32 (by decide) ?_
  refine q_newI (N := 600) hx hb (hts _ gw_72) hK hP hD hS hA (by decide) (by decide) (by decide) (by decide) (by decide) d_Rt_init_35 (fun q4 H hP hD hS => ?_)
  refine W.widen (k := 4) (n := 2400) (by omega) (by omega) ?_
  replace hP : va_P G.1 vwCl [(a_t, .inr (3, [.ref q1, .ref q2, .ref q3, .null, .int (0 : Int32)])), (q1, .inl (G.2 0, 600, .inl (fun _ => 0))), (q2, .inl (G.2 0, 600, .inl (fun _ => 0))), (q3, .inl (G.2 0, 600, .inl (fun _ => 0))), (q4, .inl (G.2 0, 600, .inl (fun _ => 0)))] H := hP
  replace hD : va_D A [(a_t, .inr (3, [.ref q1, .ref q2, .ref q3, .null, .int (0 : Int32)])), (q1, .inl (G.2 0, 600, .inl (fun _ => 0))), (q2, .inl (G.2 0, 600, .inl (fun _ => 0))), (q3, .inl (G.2 0, 600, .inl (fun _ => 0))), (q4, .inl (G.2 0, 600, .inl (fun _ => 0)))] := hD
  refine va_putF (D := G.1) (ci := 3) (v := .ref q4) (ty := (.array .int)) (C := "PlayStates$RowTable") (T := TRt) (N := 5) hx hb hts iw_3 tyRt tyRt_ok nmRt hown hK hP hD hS 0 rfl rfl 3 (by decide) (hts _ gw_65) (fun _ h9 => h9) rfl hin rfl (by decide +kernel) (by rfl) (by rfl) (Nat.le_of_ble_eq_true rfl) d_Rt_init_37 (fun H locs hP hD hS => ?_)
  replace hP : va_P G.1 vwCl [(a_t, .inr (3, [.ref q1, .ref q2, .ref q3, .ref q4, .int (0 : Int32)])), (q1, .inl (G.2 0, 600, .inl (fun _ => 0))), (q2, .inl (G.2 0, 600, .inl (fun _ => 0))), (q3, .inl (G.2 0, 600, .inl (fun _ => 0))), (q4, .inl (G.2 0, 600, .inl (fun _ => 0)))] H := hP
  replace hD : va_D A [(a_t, .inr (3, [.ref q1, .ref q2, .ref q3, .ref q4, .int (0 : Int32)])), (q1, .inl (G.2 0, 600, .inl (fun _ => 0))), (q2, .inl (G.2 0, 600, .inl (fun _ => 0))), (q3, .inl (G.2 0, 600, .inl (fun _ => 0))), (q4, .inl (G.2 0, 600, .inl (fun _ => 0)))] := hD
  refine q_vretB hx hb hr hlocks ?_ hS d_Rt_init_40
  exact ⟨q1, q2, q3, q4, hP, hD⟩

theorem gw_89 : (.methodLink "PlayStates$StateReader" 3 ⟨"java/lang/Object", "<init>", "()V"⟩ : Cond) ∈ GW := gT 76 (by decide +kernel) (by decide +kernel)
theorem d_Sr_init_0 : decode prog_6_method_1_code 0 = .ok (.aload_n 0, 1) := by decide +kernel
theorem d_Sr_init_1 : decode prog_6_method_1_code 1 = .ok (.invokespecial 3, 3) := by decide +kernel
theorem d_Sr_init_4 : decode prog_6_method_1_code 4 = .ok (.aload_n 0, 1) := by decide +kernel
theorem d_Sr_init_5 : decode prog_6_method_1_code 5 = .ok (.aload_n 1, 1) := by decide +kernel
theorem d_Sr_init_6 : decode prog_6_method_1_code 6 = .ok (.putfield 9, 3) := by decide +kernel
theorem d_Sr_init_9 : decode prog_6_method_1_code 9 = .ok (.aload_n 0, 1) := by decide +kernel
theorem d_Sr_init_10 : decode prog_6_method_1_code 10 = .ok (.iload_n 2, 1) := by decide +kernel
theorem d_Sr_init_11 : decode prog_6_method_1_code 11 = .ok (.putfield 15, 3) := by decide +kernel
theorem d_Sr_init_14 : decode prog_6_method_1_code 14 = .ok (.return_, 1) := by decide +kernel
-- PlayStates$StateReader.<init>(LPlayStates$Board;I)V 
set_option maxHeartbeats 4000000 in
set_option maxRecDepth 100000 in
theorem c_Sr_init (l : Launch) (G : gG) (sz : Nat) (a_t a_b : Nat)   (p1 : Int32)   : cN l y_Sr_init w_Sr_init { frames := 1, cells := 0, slots := 0, locals := 20 } G sz [.ref a_t, .ref a_b, .int p1] [(a_t, .inr (4, [.null, .int (0 : Int32), .int (0 : Int32), .int (0 : Int32), .int (0 : Int32), .int (0 : Int32)]))] none (fun (A : Nat → Prop) (H : Heap) => va_P G.1 vwCl [(a_t, .inr (4, [.ref a_b, .int p1, .int (0 : Int32), .int (0 : Int32), .int (0 : Int32), .int (0 : Int32)]))] H ∧ va_D A [(a_t, .inr (4, [.ref a_b, .int p1, .int (0 : Int32), .int (0 : Int32), .int (0 : Int32), .int (0 : Int32)]))]) 0 0 := by
  refine cN_ofW (cc := prog_6_method_1_code) (maxL := 3) (ret := none) (by decide) rfl (Nat.le_of_ble_eq_true rfl) ?_
  intro p e s m args below meth c A H locs ls hx hb hr hts hown hlocks hin hml hK hN hP hD hA hS hl
  replace hl : lv_has ls 3 [(0, .ref a_t), (1, .ref a_b), (2, .int p1)] := hl
  replace hown : s.vm.findClass "PlayStates$StateReader" = some m.cls := hown
  refine lv_aload_n hx hb d_Sr_init_0 rfl (lv_at hl 0 rfl) ?_
  refine W.objInit hx hb hown (hts _ gw_89) (hts _ gw_47) (hts _ gw_oc) rfl (by rw [hml]; exact hl.1) rfl d_Sr_init_1 (Nat.le_of_ble_eq_true rfl) (Nat.le_of_ble_eq_true rfl) ?_
  refine W.eq (g2 := F0 m 4 ls []) rfl ?_
  refine lv_aload_n hx hb d_Sr_init_4 rfl (lv_at hl 0 rfl) ?_
  refine lv_aload_n hx hb d_Sr_init_5 rfl (lv_at hl 1 rfl) ?_
  refine va_putF (D := G.1) (ci := 4) (v := .ref a_b) (ty := (.object "PlayStates$Board")) (C := "PlayStates$StateReader") (T := TSr) (N := 6) hx hb hts iw_4 tySr tySr_ok nmSr hown hK hP hD hS 0 rfl rfl 0 (by decide) (hts _ gw_90) (fun _ h9 => h9) rfl hin rfl (by decide +kernel) (by rfl) (by rfl) (Nat.le_of_ble_eq_true rfl) d_Sr_init_6 (fun H locs hP hD hS => ?_)
  replace hP : va_P G.1 vwCl [(a_t, .inr (4, [.ref a_b, .int (0 : Int32), .int (0 : Int32), .int (0 : Int32), .int (0 : Int32), .int (0 : Int32)]))] H := hP
  replace hD : va_D A [(a_t, .inr (4, [.ref a_b, .int (0 : Int32), .int (0 : Int32), .int (0 : Int32), .int (0 : Int32), .int (0 : Int32)]))] := hD
  refine lv_aload_n hx hb d_Sr_init_9 rfl (lv_at hl 0 rfl) ?_
  refine lv_iload_n hx hb d_Sr_init_10 rfl (lv_at hl 2 rfl) ?_
  refine va_putF (D := G.1) (ci := 4) (v := .int p1) (ty := .int) (C := "PlayStates$StateReader") (T := TSr) (N := 6) hx hb hts iw_4 tySr tySr_ok nmSr hown hK hP hD hS 0 rfl rfl 1 (by decide) (hts _ gw_91) (fun _ h9 => h9) rfl hin rfl (by decide +kernel) (by rfl) (by rfl) (Nat.le_of_ble_eq_true rfl) d_Sr_init_11 (fun H locs hP hD hS => ?_)
  replace hP : va_P G.1 vwCl [(a_t, .inr (4, [.ref a_b, .int p1, .int (0 : Int32), .int (0 : Int32), .int (0 : Int32), .int (0 : Int32)]))] H := hP
  replace hD : va_D A [(a_t, .inr (4, [.ref a_b, .int p1, .int (0 : Int32), .int (0 : Int32), .int (0 : Int32), .int (0 : Int32)]))] := hD
  refine q_vretB hx hb hr hlocks ?_ hS d_Sr_init_14
  exact ⟨hP, hD⟩

theorem gw_136 : (.methodLink "PlayStates$Person" 1 ⟨"java/lang/Object", "<init>", "()V"⟩ : Cond) ∈ GW := gT 143 (by decide +kernel) (by decide +kernel)
theorem gw_150 : (.fieldLink "PlayStates$Person" 7 "PlayStates$Person" "number" "I" : Cond) ∈ GW := gT 162 (by decide +kernel) (by decide +kernel)
theorem gw_137 : (.classLink "PlayStates$Person" 13 "PlayStates$Board" : Cond) ∈ GW := gT 144 (by decide +kernel) (by decide +kernel)
theorem gw_74 : (.instantiable "PlayStates$Board" 2 : Cond) ∈ GW := gT 56 (by decide +kernel) (by decide +kernel)
theorem gw_76 : (.instanceMethod ⟨"PlayStates$Board", "<init>", "(I)V"⟩ : Cond) ∈ GW := gT 58 (by decide +kernel) (by decide +kernel)
theorem gw_77 : (.code ⟨"PlayStates$Board", "<init>", "(I)V"⟩ prog_2_method_1_code 2 none : Cond) ∈ GW := gT 59 (by decide +kernel) (by decide +kernel)
theorem gw_138 : (.methodLink "PlayStates$Person" 15 ⟨"PlayStates$Board", "<init>", "(I)V"⟩ : Cond) ∈ GW := gT 145 (by decide +kernel) (by decide +kernel)
theorem gw_151 : (.fieldLink "PlayStates$Person" 18 "PlayStates$Person" "board" "LPlayStates$Board;" : Cond) ∈ GW := gT 164 (by decide +kernel) (by decide +kernel)
theorem gw_139 : (.classLink "PlayStates$Person" 22 "PlayStates$Clock" : Cond) ∈ GW := gT 146 (by decide +kernel) (by decide +kernel)
theorem gw_140 : (.instantiable "PlayStates$Clock" 3 : Cond) ∈ GW := gT 147 (by decide +kernel) (by decide +kernel)
theorem gw_141 : (.instanceMethod ⟨"PlayStates$Clock", "<init>", "()V"⟩ : Cond) ∈ GW := gT 149 (by decide +kernel) (by decide +kernel)
theorem gw_142 : (.code ⟨"PlayStates$Clock", "<init>", "()V"⟩ prog_3_method_1_code 1 none : Cond) ∈ GW := gT 150 (by decide +kernel) (by decide +kernel)
theorem gw_152 : (.fieldLink "PlayStates$Person" 25 "PlayStates$Person" "clock" "LPlayStates$Clock;" : Cond) ∈ GW := gT 166 (by decide +kernel) (by decide +kernel)
theorem gw_153 : (.fieldLink "PlayStates$Person" 29 "PlayStates$Person" "present" "I" : Cond) ∈ GW := gT 168 (by decide +kernel) (by decide +kernel)
theorem d_Pn_init_0 : decode prog_4_method_1_code 0 = .ok (.aload_n 0, 1) := by decide +kernel
theorem d_Pn_init_1 : decode prog_4_method_1_code 1 = .ok (.invokespecial 1, 3) := by decide +kernel
theorem d_Pn_init_4 : decode prog_4_method_1_code 4 = .ok (.aload_n 0, 1) := by decide +kernel
theorem d_Pn_init_5 : decode prog_4_method_1_code 5 = .ok (.iload_n 1, 1) := by decide +kernel
theorem d_Pn_init_6 : decode prog_4_method_1_code 6 = .ok (.putfield 7, 3) := by decide +kernel
theorem d_Pn_init_9 : decode prog_4_method_1_code 9 = .ok (.aload_n 0, 1) := by decide +kernel
theorem d_Pn_init_10 : decode prog_4_method_1_code 10 = .ok (.new 13, 3) := by decide +kernel
theorem d_Pn_init_13 : decode prog_4_method_1_code 13 = .ok (.dup, 1) := by decide +kernel
theorem d_Pn_init_14 : decode prog_4_method_1_code 14 = .ok (.iload_n 2, 1) := by decide +kernel
theorem d_Pn_init_15 : decode prog_4_method_1_code 15 = .ok (.invokespecial 15, 3) := by decide +kernel
theorem d_Pn_init_18 : decode prog_4_method_1_code 18 = .ok (.putfield 18, 3) := by decide +kernel
theorem d_Pn_init_21 : decode prog_4_method_1_code 21 = .ok (.aload_n 0, 1) := by decide +kernel
theorem d_Pn_init_22 : decode prog_4_method_1_code 22 = .ok (.new 22, 3) := by decide +kernel
theorem d_Pn_init_25 : decode prog_4_method_1_code 25 = .ok (.dup, 1) := by decide +kernel
theorem d_Pn_init_26 : decode prog_4_method_1_code 26 = .ok (.invokespecial 24, 3) := by decide +kernel
theorem d_Pn_init_29 : decode prog_4_method_1_code 29 = .ok (.putfield 25, 3) := by decide +kernel
theorem d_Pn_init_32 : decode prog_4_method_1_code 32 = .ok (.aload_n 0, 1) := by decide +kernel
theorem d_Pn_init_33 : decode prog_4_method_1_code 33 = .ok (.iconst (-1), 1) := by decide +kernel
theorem d_Pn_init_34 : decode prog_4_method_1_code 34 = .ok (.iload_n 1, 1) := by decide +kernel
theorem d_Pn_init_35 : decode prog_4_method_1_code 35 = .ok (.isub, 1) := by decide +kernel
theorem d_Pn_init_36 : decode prog_4_method_1_code 36 = .ok (.putfield 29, 3) := by decide +kernel
theorem d_Pn_init_39 : decode prog_4_method_1_code 39 = .ok (.return_, 1) := by decide +kernel
-- PlayStates$Person.<init>(II)V 
set_option maxHeartbeats 4000000 in
set_option maxRecDepth 100000 in
theorem c_Pn_init (l : Launch) (G : gG) (sz : Nat) (a_t : Nat) (n : Nat) (h81 : n ≤ 81)  (p0 : Int32)   : cN l y_Pn_init w_Pn_init { frames := 2, cells := 4, slots := 167, locals := 41 } G sz [.ref a_t, .int p0, .int (nI n)] [(a_t, .inr (2, [.int (0 : Int32), .null, .null, .int (0 : Int32), .int (0 : Int32)]))] none (fun (A : Nat → Prop) (H : Heap) => ∃ q1 q2 q3 q4 : Nat, va_P G.1 vwCl [(a_t, .inr (2, [.int p0, .ref q1, .ref q4, .int ((-1 : Int32) - p0), .int (0 : Int32)])), (q1, .inr (0, [.ref q2, .ref q3])), (q2, .inl (G.2 0, n, .inl (fun _ => 0))), (q3, .inl (G.2 0, n, .inl (fun _ => 0))), (q4, .inr (1, [.int (0 : Int32), .long (0 : Int64), .long (0 : Int64)]))] H ∧ va_D A [(a_t, .inr (2, [.int p0, .ref q1, .ref q4, .int ((-1 : Int32) - p0), .int (0 : Int32)])), (q1, .inr (0, [.ref q2, .ref q3])), (q2, .inl (G.2 0, n, .inl (fun _ => 0))), (q3, .inl (G.2 0, n, .inl (fun _ => 0))), (q4, .inr (1, [.int (0 : Int32), .long (0 : Int64), .long (0 : Int64)]))]) 4 167 := by
  refine cN_ofW (cc := prog_4_method_1_code) (maxL := 3) (ret := none) (by decide) rfl (Nat.le_of_ble_eq_true rfl) ?_
  intro p e s m args below meth c A H locs ls hx hb hr hts hown hlocks hin hml hK hN hP hD hA hS hl
  replace hl : lv_has ls 3 [(0, .ref a_t), (1, .int p0), (2, .int (nI n))] := hl
  replace hown : s.vm.findClass "PlayStates$Person" = some m.cls := hown
  refine lv_aload_n hx hb d_Pn_init_0 rfl (lv_at hl 0 rfl) ?_
  refine W.objInit hx hb hown (hts _ gw_136) (hts _ gw_47) (hts _ gw_oc) rfl (by rw [hml]; exact hl.1) rfl d_Pn_init_1 (Nat.le_of_ble_eq_true rfl) (Nat.le_of_ble_eq_true rfl) ?_
  refine W.eq (g2 := F0 m 4 ls []) rfl ?_
  refine lv_aload_n hx hb d_Pn_init_4 rfl (lv_at hl 0 rfl) ?_
  refine lv_iload_n hx hb d_Pn_init_5 rfl (lv_at hl 1 rfl) ?_
  refine va_putF (D := G.1) (ci := 2) (v := .int p0) (ty := .int) (C := "PlayStates$Person") (T := TPn) (N := 5) hx hb hts iw_2 tyPn tyPn_ok nmPn hown hK hP hD hS 0 rfl rfl 0 (by decide) (hts _ gw_150) (fun _ h9 => h9) rfl hin rfl (by decide +kernel) (by rfl) (by rfl) (Nat.le_of_ble_eq_true rfl) d_Pn_init_6 (fun H locs hP hD hS => ?_)
  replace hP : va_P G.1 vwCl [(a_t, .inr (2, [.int p0, .null, .null, .int (0 : Int32), .int (0 : Int32)]))] H := hP
  replace hD : va_D A [(a_t, .inr (2, [.int p0, .null, .null, .int (0 : Int32), .int (0 : Int32)]))] := hD
  refine lv_aload_n hx hb d_Pn_init_9 rfl (lv_at hl 0 rfl) ?_
  refine va_new (ci := 0) (fs := [.null, .null]) (C := "PlayStates$Board") (T := TBd) (N := 2) hx hb hts iw_0 tyBd tyBd_ok hown (hts _ gw_137) (hts _ gw_74) (hts _ gw_34) hK hP hD hS hA rfl (by decide +kernel) (by decide) (by decide) d_Pn_init_10 (fun q1 H hP hD hS => ?_)
  refine W.widen (k := 1) (n := 2) (by omega) (by omega) ?_
  replace hP : va_P G.1 vwCl [(a_t, .inr (2, [.int p0, .null, .null, .int (0 : Int32), .int (0 : Int32)])), (q1, .inr (0, [.null, .null]))] H := hP
  replace hD : va_D A [(a_t, .inr (2, [.int p0, .null, .null, .int (0 : Int32), .int (0 : Int32)])), (q1, .inr (0, [.null, .null]))] := hD
  refine lv_dup hx hb d_Pn_init_13 rfl ?_
  refine lv_iload_n hx hb d_Pn_init_14 rfl (lv_at hl 2 rfl) ?_
  have hPc := hP.sub (ws' := [(q1, .inr (0, [.null, .null]))]) [1] rfl
  have hDc := hD.sub (ws' := [(q1, .inr (0, [.null, .null]))]) [1] (by decide) rfl
  have hFc := va_free (wc := [(q1, .inr (0, [.null, .null]))]) hD hS hA [1] rfl
  refine q_call0 (va_runI (As := [.int (nI n)]) (rest := [.ref q1, .ref a_t]) ⟨hx, hb, hml, hown, hts⟩ (c_Bd_init l G H.size q1 n h81) (cwI 1 hts (gC gw_77) rfl rfl rfl (hts _ gw_34) (hts _ gw_138) (hts _ gw_76) rfl (by decide +kernel) ⟨Nat.le_of_ble_eq_true rfl, Nat.le_of_ble_eq_true rfl⟩) (pS hK hN hPc hDc) rfl rfl hl.1 rfl (lv_room (Nat.le_of_ble_eq_true rfl)) d_Pn_init_15 ⟨(by decide), (by decide)⟩) hS (fun q _ h => hFc q h) hFc (fun H1 locs hB hz hk hS => ?_)
  obtain ⟨q2, q3, hP1, hD1⟩ := hB
  obtain ⟨hP, hD⟩ := q_join (wr := [(a_t, .inr (2, [.int p0, .null, .null, .int (0 : Int32), .int (0 : Int32)]))]) (wn := [(a_t, .inr (2, [.int p0, .null, .null, .int (0 : Int32), .int (0 : Int32)])), (q1, .inr (0, [.ref q2, .ref q3])), (q2, .inl (G.2 0, n, .inl (fun _ => 0))), (q3, .inl (G.2 0, n, .inl (fun _ => 0)))]) hP hD [1] [0] [0, 1, 2, 3] rfl rfl (by decide) (by decide) rfl (by decide) hk hFc hP1 hD1
  generalize H1 = H at hP hS ⊢
  refine W.widen (k := 3) (n := 164) (by omega) (by omega) ?_
  replace hP : va_P G.1 vwCl [(a_t, .inr (2, [.int p0, .null, .null, .int (0 : Int32), .int (0 : Int32)])), (q1, .inr (0, [.ref q2, .ref q3])), (q2, .inl (G.2 0, n, .inl (fun _ => 0))), (q3, .inl (G.2 0, n, .inl (fun _ => 0)))] H := hP
  replace hD : va_D A [(a_t, .inr (2, [.int p0, .null, .null, .int (0 : Int32), .int (0 : Int32)])), (q1, .inr (0, [.ref q2, .ref q3])), (q2, .inl (G.2 0, n, .inl (fun _ => 0))), (q3, .inl (G.2 0, n, .inl (fun _ => 0)))] := hD
  refine va_putF (D := G.1) (ci := 2) (v := .ref q1) (ty := (.object "PlayStates$Board")) (C := "PlayStates$Person") (T := TPn) (N := 5) hx hb hts iw_2 tyPn tyPn_ok nmPn hown hK hP hD hS 0 rfl rfl 1 (by decide) (hts _ gw_151) (fun _ h9 => h9) rfl hin rfl (by decide +kernel) (by rfl) (by rfl) (Nat.le_of_ble_eq_true rfl) d_Pn_init_18 (fun H locs hP hD hS => ?_)
  replace hP : va_P G.1 vwCl [(a_t, .inr (2, [.int p0, .ref q1, .null, .int (0 : Int32), .int (0 : Int32)])), (q1, .inr (0, [.ref q2, .ref q3])), (q2, .inl (G.2 0, n, .inl (fun _ => 0))), (q3, .inl (G.2 0, n, .inl (fun _ => 0)))] H := hP
  replace hD : va_D A [(a_t, .inr (2, [.int p0, .ref q1, .null, .int (0 : Int32), .int (0 : Int32)])), (q1, .inr (0, [.ref q2, .ref q3])), (q2, .inl (G.2 0, n, .inl (fun _ => 0))), (q3, .inl (G.2 0, n, .inl (fun _ => 0)))] := hD
  refine lv_aload_n hx hb d_Pn_init_21 rfl (lv_at hl 0 rfl) ?_
  refine va_new (ci := 1) (fs := [.int (0 : Int32), .long (0 : Int64), .long (0 : Int64)]) (C := "PlayStates$Clock") (T := TCk) (N := 3) hx hb hts iw_1 tyCk tyCk_ok hown (hts _ gw_139) (hts _ gw_140) (hts _ gw_38) hK hP hD hS hA rfl (by decide +kernel) (by decide) (by decide) d_Pn_init_22 (fun q4 H hP hD hS => ?_)
  refine W.widen (k := 4) (n := 167) (by omega) (by omega) ?_
  replace hP : va_P G.1 vwCl [(a_t, .inr (2, [.int p0, .ref q1, .null, .int (0 : Int32), .int (0 : Int32)])), (q1, .inr (0, [.ref q2, .ref q3])), (q2, .inl (G.2 0, n, .inl (fun _ => 0))), (q3, .inl (G.2 0, n, .inl (fun _ => 0))), (q4, .inr (1, [.int (0 : Int32), .long (0 : Int64), .long (0 : Int64)]))] H := hP
  replace hD : va_D A [(a_t, .inr (2, [.int p0, .ref q1, .null, .int (0 : Int32), .int (0 : Int32)])), (q1, .inr (0, [.ref q2, .ref q3])), (q2, .inl (G.2 0, n, .inl (fun _ => 0))), (q3, .inl (G.2 0, n, .inl (fun _ => 0))), (q4, .inr (1, [.int (0 : Int32), .long (0 : Int64), .long (0 : Int64)]))] := hD
  refine lv_dup hx hb d_Pn_init_25 rfl ?_
  have hPc := hP.sub (ws' := [(q4, .inr (1, [.int (0 : Int32), .long (0 : Int64), .long (0 : Int64)]))]) [4] rfl
  have hDc := hD.sub (ws' := [(q4, .inr (1, [.int (0 : Int32), .long (0 : Int64), .long (0 : Int64)]))]) [4] (by decide) rfl
  have hFc := va_free (wc := [(q4, .inr (1, [.int (0 : Int32), .long (0 : Int64), .long (0 : Int64)]))]) hD hS hA [4] rfl
  refine q_call0 (va_runIN (As := []) (rest := [.ref q4, .ref a_t]) ⟨hx, hb, hml, hown, hts⟩ (c_Ck_init l G H.size q4) ⟨va_cnB 0 hts (gC gw_142) rfl rfl rfl (hN.2.1 ("PlayStates$Person", 24, y_Ck_init, "PlayStates") (by decide +kernel)) (hts _ gw_38) (by decide +kernel) ⟨Nat.le_of_ble_eq_true rfl, Nat.le_of_ble_eq_true rfl⟩, rfl, (hts _ gw_141)⟩ (pS hK hN hPc hDc) rfl rfl hl.1 rfl (lv_room (Nat.le_of_ble_eq_true rfl)) d_Pn_init_26 ⟨(by decide), (by decide)⟩) hS (fun q _ h => hFc q h) hFc (fun H1 locs hB hz hk hS => ?_)
  obtain ⟨hP1, hD1⟩ := hB
  obtain ⟨hP, hD⟩ := q_join (wr := [(a_t, .inr (2, [.int p0, .ref q1, .null, .int (0 : Int32), .int (0 : Int32)])), (q1, .inr (0, [.ref q2, .ref q3])), (q2, .inl (G.2 0, n, .inl (fun _ => 0))), (q3, .inl (G.2 0, n, .inl (fun _ => 0)))]) (wn := [(a_t, .inr (2, [.int p0, .ref q1, .null, .int (0 : Int32), .int (0 : Int32)])), (q1, .inr (0, [.ref q2, .ref q3])), (q2, .inl (G.2 0, n, .inl (fun _ => 0))), (q3, .inl (G.2 0, n, .inl (fun _ => 0))), (q4, .inr (1, [.int (0 : Int32), .long (0 : Int64), .long (0 : Int64)]))]) hP hD [4] [0, 1, 2, 3] [0, 1, 2, 3, 4] rfl rfl (by decide) (by decide) rfl (by decide) hk hFc hP1 hD1
  generalize H1 = H at hP hS ⊢
  replace hP : va_P G.1 vwCl [(a_t, .inr (2, [.int p0, .ref q1, .null, .int (0 : Int32), .int (0 : Int32)])), (q1, .inr (0, [.ref q2, .ref q3])), (q2, .inl (G.2 0, n, .inl (fun _ => 0))), (q3, .inl (G.2 0, n, .inl (fun _ => 0))), (q4, .inr (1, [.int (0 : Int32), .long (0 : Int64), .long (0 : Int64)]))] H := hP
  replace hD : va_D A [(a_t, .inr (2, [.int p0, .ref q1, .null, .int (0 : Int32), .int (0 : Int32)])), (q1, .inr (0, [.ref q2, .ref q3])), (q2, .inl (G.2 0, n, .inl (fun _ => 0))), (q3, .inl (G.2 0, n, .inl (fun _ => 0))), (q4, .inr (1, [.int (0 : Int32), .long (0 : Int64), .long (0 : Int64)]))] := hD
  refine va_putF (D := G.1) (ci := 2) (v := .ref q4) (ty := (.object "PlayStates$Clock")) (C := "PlayStates$Person") (T := TPn) (N := 5) hx hb hts iw_2 tyPn tyPn_ok nmPn hown hK hP hD hS 0 rfl rfl 2 (by decide) (hts _ gw_152) (fun _ h9 => h9) rfl hin rfl (by decide +kernel) (by rfl) (by rfl) (Nat.le_of_ble_eq_true rfl) d_Pn_init_29 (fun H locs hP hD hS => ?_)
  replace hP : va_P G.1 vwCl [(a_t, .inr (2, [.int p0, .ref q1, .ref q4, .int (0 : Int32), .int (0 : Int32)])), (q1, .inr (0, [.ref q2, .ref q3])), (q2, .inl (G.2 0, n, .inl (fun _ => 0))), (q3, .inl (G.2 0, n, .inl (fun _ => 0))), (q4, .inr (1, [.int (0 : Int32), .long (0 : Int64), .long (0 : Int64)]))] H := hP
  replace hD : va_D A [(a_t, .inr (2, [.int p0, .ref q1, .ref q4, .int (0 : Int32), .int (0 : Int32)])), (q1, .inr (0, [.ref q2, .ref q3])), (q2, .inl (G.2 0, n, .inl (fun _ => 0))), (q3, .inl (G.2 0, n, .inl (fun _ => 0))), (q4, .inr (1, [.int (0 : Int32), .long (0 : Int64), .long (0 : Int64)]))] := hD
  refine lv_aload_n hx hb d_Pn_init_32 rfl (lv_at hl 0 rfl) ?_
  refine lv_iconst (v := (-1 : Int32)) hx hb d_Pn_init_33 (by decide) ?_
  refine lv_iload_n hx hb d_Pn_init_34 rfl (lv_at hl 1 rfl) ?_
  refine lv_isub hx hb d_Pn_init_35 ?_
  refine va_put (D := G.1) (ci := 2) (v := .int ((-1 : Int32) - p0)) (ty := .int) (C := "PlayStates$Person") (T := TPn) (N := 5) hx hb hts iw_2 tyPn tyPn_ok nmPn hown hK hP hD hS 0 rfl rfl 3 (by decide) (hts _ gw_153) (fun _ h9 => h9) rfl (by decide +kernel) (by rfl) (by rfl) (Nat.le_of_ble_eq_true rfl) d_Pn_init_36 (fun H locs hP hD hS => ?_)
  replace hP : va_P G.1 vwCl [(a_t, .inr (2, [.int p0, .ref q1, .ref q4, .int ((-1 : Int32) - p0), .int (0 : Int32)])), (q1, .inr (0, [.ref q2, .ref q3])), (q2, .inl (G.2 0, n, .inl (fun _ => 0))), (q3, .inl (G.2 0, n, .inl (fun _ => 0))), (q4, .inr (1, [.int (0 : Int32), .long (0 : Int64), .long (0 : Int64)]))] H := hP
  replace hD : va_D A [(a_t, .inr (2, [.int p0, .ref q1, .ref q4, .int ((-1 : Int32) - p0), .int (0 : Int32)])), (q1, .inr (0, [.ref q2, .ref q3])), (q2, .inl (G.2 0, n, .inl (fun _ => 0))), (q3, .inl (G.2 0, n, .inl (fun _ => 0))), (q4, .inr (1, [.int (0 : Int32), .long (0 : Int64), .long (0 : Int64)]))] := hD
  refine q_vretB hx hb hr hlocks ?_ hS d_Pn_init_39
  exact ⟨q1, q2, q3, q4, hP, hD⟩
