theorem gw_309 : (.constant "java/lang/Integer" 265 (1431655765 : Int32) : Cond) ∈ GW := gT 339 (by decide +kernel) (by decide +kernel)
theorem gw_310 : (.constant "java/lang/Integer" 266 (858993459 : Int32) : Cond) ∈ GW := gT 340 (by decide +kernel) (by decide +kernel)
theorem gw_311 : (.constant "java/lang/Integer" 267 (252645135 : Int32) : Cond) ∈ GW := gT 341 (by decide +kernel) (by decide +kernel)
theorem d_Jn_bitCount_0 : decode prog_9_method_49_code 0 = .ok (.iload_n 0, 1) := by decide +kernel
theorem d_Jn_bitCount_1 : decode prog_9_method_49_code 1 = .ok (.iload_n 0, 1) := by decide +kernel
theorem d_Jn_bitCount_2 : decode prog_9_method_49_code 2 = .ok (.iconst 1, 1) := by decide +kernel
theorem d_Jn_bitCount_3 : decode prog_9_method_49_code 3 = .ok (.iushr, 1) := by decide +kernel
theorem d_Jn_bitCount_4 : decode prog_9_method_49_code 4 = .ok (.ldc_w 265, 3) := by decide +kernel
theorem d_Jn_bitCount_7 : decode prog_9_method_49_code 7 = .ok (.iand, 1) := by decide +kernel
theorem d_Jn_bitCount_8 : decode prog_9_method_49_code 8 = .ok (.isub, 1) := by decide +kernel
theorem d_Jn_bitCount_9 : decode prog_9_method_49_code 9 = .ok (.istore_n 0, 1) := by decide +kernel
theorem d_Jn_bitCount_10 : decode prog_9_method_49_code 10 = .ok (.iload_n 0, 1) := by decide +kernel
theorem d_Jn_bitCount_11 : decode prog_9_method_49_code 11 = .ok (.ldc_w 266, 3) := by decide +kernel
theorem d_Jn_bitCount_14 : decode prog_9_method_49_code 14 = .ok (.iand, 1) := by decide +kernel
theorem d_Jn_bitCount_15 : decode prog_9_method_49_code 15 = .ok (.iload_n 0, 1) := by decide +kernel
theorem d_Jn_bitCount_16 : decode prog_9_method_49_code 16 = .ok (.iconst 2, 1) := by decide +kernel
theorem d_Jn_bitCount_17 : decode prog_9_method_49_code 17 = .ok (.iushr, 1) := by decide +kernel
theorem d_Jn_bitCount_18 : decode prog_9_method_49_code 18 = .ok (.ldc_w 266, 3) := by decide +kernel
theorem d_Jn_bitCount_21 : decode prog_9_method_49_code 21 = .ok (.iand, 1) := by decide +kernel
theorem d_Jn_bitCount_22 : decode prog_9_method_49_code 22 = .ok (.iadd, 1) := by decide +kernel
theorem d_Jn_bitCount_23 : decode prog_9_method_49_code 23 = .ok (.istore_n 0, 1) := by decide +kernel
theorem d_Jn_bitCount_24 : decode prog_9_method_49_code 24 = .ok (.iload_n 0, 1) := by decide +kernel
theorem d_Jn_bitCount_25 : decode prog_9_method_49_code 25 = .ok (.iload_n 0, 1) := by decide +kernel
theorem d_Jn_bitCount_26 : decode prog_9_method_49_code 26 = .ok (.iconst 4, 1) := by decide +kernel
theorem d_Jn_bitCount_27 : decode prog_9_method_49_code 27 = .ok (.iushr, 1) := by decide +kernel
theorem d_Jn_bitCount_28 : decode prog_9_method_49_code 28 = .ok (.iadd, 1) := by decide +kernel
theorem d_Jn_bitCount_29 : decode prog_9_method_49_code 29 = .ok (.ldc_w 267, 3) := by decide +kernel
theorem d_Jn_bitCount_32 : decode prog_9_method_49_code 32 = .ok (.iand, 1) := by decide +kernel
theorem d_Jn_bitCount_33 : decode prog_9_method_49_code 33 = .ok (.istore_n 0, 1) := by decide +kernel
theorem d_Jn_bitCount_34 : decode prog_9_method_49_code 34 = .ok (.iload_n 0, 1) := by decide +kernel
theorem d_Jn_bitCount_35 : decode prog_9_method_49_code 35 = .ok (.iload_n 0, 1) := by decide +kernel
theorem d_Jn_bitCount_36 : decode prog_9_method_49_code 36 = .ok (.bipush 8, 2) := by decide +kernel
theorem d_Jn_bitCount_38 : decode prog_9_method_49_code 38 = .ok (.iushr, 1) := by decide +kernel
theorem d_Jn_bitCount_39 : decode prog_9_method_49_code 39 = .ok (.iadd, 1) := by decide +kernel
theorem d_Jn_bitCount_40 : decode prog_9_method_49_code 40 = .ok (.istore_n 0, 1) := by decide +kernel
theorem d_Jn_bitCount_41 : decode prog_9_method_49_code 41 = .ok (.iload_n 0, 1) := by decide +kernel
theorem d_Jn_bitCount_42 : decode prog_9_method_49_code 42 = .ok (.iload_n 0, 1) := by decide +kernel
theorem d_Jn_bitCount_43 : decode prog_9_method_49_code 43 = .ok (.bipush 16, 2) := by decide +kernel
theorem d_Jn_bitCount_45 : decode prog_9_method_49_code 45 = .ok (.iushr, 1) := by decide +kernel
theorem d_Jn_bitCount_46 : decode prog_9_method_49_code 46 = .ok (.iadd, 1) := by decide +kernel
theorem d_Jn_bitCount_47 : decode prog_9_method_49_code 47 = .ok (.istore_n 0, 1) := by decide +kernel
theorem d_Jn_bitCount_48 : decode prog_9_method_49_code 48 = .ok (.iload_n 0, 1) := by decide +kernel
theorem d_Jn_bitCount_49 : decode prog_9_method_49_code 49 = .ok (.bipush 63, 2) := by decide +kernel
theorem d_Jn_bitCount_51 : decode prog_9_method_49_code 51 = .ok (.iand, 1) := by decide +kernel
theorem d_Jn_bitCount_52 : decode prog_9_method_49_code 52 = .ok (.ireturn, 1) := by decide +kernel
-- java/lang/Integer.bitCount(I)I 
def ws_Jn_bitCount (G : gG)    : va_W := []
def f_Jn_bitCount  (p0 : Int32)  : Option (Int32) :=
  some ((((((((p0 - ((((p0).toUInt32 >>> (((1 : Int32)).toUInt32 &&& Int32.toUInt32 31)).toInt32) &&& (1431655765 : Int32))) &&& (858993459 : Int32)) + (((((p0 - ((((p0).toUInt32 >>> (((1 : Int32)).toUInt32 &&& Int32.toUInt32 31)).toInt32) &&& (1431655765 : Int32)))).toUInt32 >>> (((2 : Int32)).toUInt32 &&& Int32.toUInt32 31)).toInt32) &&& (858993459 : Int32))) + ((((((p0 - ((((p0).toUInt32 >>> (((1 : Int32)).toUInt32 &&& Int32.toUInt32 31)).toInt32) &&& (1431655765 : Int32))) &&& (858993459 : Int32)) + (((((p0 - ((((p0).toUInt32 >>> (((1 : Int32)).toUInt32 &&& Int32.toUInt32 31)).toInt32) &&& (1431655765 : Int32)))).toUInt32 >>> (((2 : Int32)).toUInt32 &&& Int32.toUInt32 31)).toInt32) &&& (858993459 : Int32)))).toUInt32 >>> (((4 : Int32)).toUInt32 &&& Int32.toUInt32 31)).toInt32)) &&& (252645135 : Int32)) + ((((((((p0 - ((((p0).toUInt32 >>> (((1 : Int32)).toUInt32 &&& Int32.toUInt32 31)).toInt32) &&& (1431655765 : Int32))) &&& (858993459 : Int32)) + (((((p0 - ((((p0).toUInt32 >>> (((1 : Int32)).toUInt32 &&& Int32.toUInt32 31)).toInt32) &&& (1431655765 : Int32)))).toUInt32 >>> (((2 : Int32)).toUInt32 &&& Int32.toUInt32 31)).toInt32) &&& (858993459 : Int32))) + ((((((p0 - ((((p0).toUInt32 >>> (((1 : Int32)).toUInt32 &&& Int32.toUInt32 31)).toInt32) &&& (1431655765 : Int32))) &&& (858993459 : Int32)) + (((((p0 - ((((p0).toUInt32 >>> (((1 : Int32)).toUInt32 &&& Int32.toUInt32 31)).toInt32) &&& (1431655765 : Int32)))).toUInt32 >>> (((2 : Int32)).toUInt32 &&& Int32.toUInt32 31)).toInt32) &&& (858993459 : Int32)))).toUInt32 >>> (((4 : Int32)).toUInt32 &&& Int32.toUInt32 31)).toInt32)) &&& (252645135 : Int32))).toUInt32 >>> (((8 : Int32)).toUInt32 &&& Int32.toUInt32 31)).toInt32)) + (((((((((p0 - ((((p0).toUInt32 >>> (((1 : Int32)).toUInt32 &&& Int32.toUInt32 31)).toInt32) &&& (1431655765 : Int32))) &&& (858993459 : Int32)) + (((((p0 - ((((p0).toUInt32 >>> (((1 : Int32)).toUInt32 &&& Int32.toUInt32 31)).toInt32) &&& (1431655765 : Int32)))).toUInt32 >>> (((2 : Int32)).toUInt32 &&& Int32.toUInt32 31)).toInt32) &&& (858993459 : Int32))) + ((((((p0 - ((((p0).toUInt32 >>> (((1 : Int32)).toUInt32 &&& Int32.toUInt32 31)).toInt32) &&& (1431655765 : Int32))) &&& (858993459 : Int32)) + (((((p0 - ((((p0).toUInt32 >>> (((1 : Int32)).toUInt32 &&& Int32.toUInt32 31)).toInt32) &&& (1431655765 : Int32)))).toUInt32 >>> (((2 : Int32)).toUInt32 &&& Int32.toUInt32 31)).toInt32) &&& (858993459 : Int32)))).toUInt32 >>> (((4 : Int32)).toUInt32 &&& Int32.toUInt32 31)).toInt32)) &&& (252645135 : Int32)) + ((((((((p0 - ((((p0).toUInt32 >>> (((1 : Int32)).toUInt32 &&& Int32.toUInt32 31)).toInt32) &&& (1431655765 : Int32))) &&& (858993459 : Int32)) + (((((p0 - ((((p0).toUInt32 >>> (((1 : Int32)).toUInt32 &&& Int32.toUInt32 31)).toInt32) &&& (1431655765 : Int32)))).toUInt32 >>> (((2 : Int32)).toUInt32 &&& Int32.toUInt32 31)).toInt32) &&& (858993459 : Int32))) + ((((((p0 - ((((p0).toUInt32 >>> (((1 : Int32)).toUInt32 &&& Int32.toUInt32 31)).toInt32) &&& (1431655765 : Int32))) &&& (858993459 : Int32)) + (((((p0 - ((((p0).toUInt32 >>> (((1 : Int32)).toUInt32 &&& Int32.toUInt32 31)).toInt32) &&& (1431655765 : Int32)))).toUInt32 >>> (((2 : Int32)).toUInt32 &&& Int32.toUInt32 31)).toInt32) &&& (858993459 : Int32)))).toUInt32 >>> (((4 : Int32)).toUInt32 &&& Int32.toUInt32 31)).toInt32)) &&& (252645135 : Int32))).toUInt32 >>> (((8 : Int32)).toUInt32 &&& Int32.toUInt32 31)).toInt32))).toUInt32 >>> (((16 : Int32)).toUInt32 &&& Int32.toUInt32 31)).toInt32)) &&& (63 : Int32))
set_option maxHeartbeats 4000000 in
set_option maxRecDepth 100000 in
theorem c_Jn_bitCount (l : Launch) (G : gG) (sz : Nat)   (p0 : Int32)  (r : Int32) (h : f_Jn_bitCount p0 = some r)  : cN l y_Jn_bitCount w_Jn_bitCount { frames := 0, cells := 0, slots := 0, locals := 0 } G sz [.int p0] (ws_Jn_bitCount G) (some (.int r)) (wB G (ws_Jn_bitCount G)) 0 0 := by
  refine cN_ofW (cc := prog_9_method_49_code) (maxL := 1) (ret := (some .int)) (by decide) rfl (Nat.le_of_ble_eq_true rfl) ?_
  intro p e s m args below meth c A H locs ls hx hb hr hts hown hlocks hin hml hK hN hP hD hA hS hl
  replace hl : lv_has ls 1 [(0, .int p0)] := hl
  replace hown : s.vm.findClass "java/lang/Integer" = some m.cls := hown
  unfold f_Jn_bitCount at h
  refine lv_iload_n hx hb d_Jn_bitCount_0 rfl (lv_at hl 0 rfl) ?_
  refine lv_iload_n hx hb d_Jn_bitCount_1 rfl (lv_at hl 0 rfl) ?_
  refine lv_iconst (v := (1 : Int32)) hx hb d_Jn_bitCount_2 (by decide) ?_
  refine lv_iushr hx hb d_Jn_bitCount_3 rfl ?_
  refine lv_ldcw (v := (1431655765 : Int32)) hx hb hown (hts _ gw_309) d_Jn_bitCount_4 ?_
  refine lv_iand hx hb d_Jn_bitCount_7 ?_
  refine lv_isub hx hb d_Jn_bitCount_8 ?_
  refine lv_istore_n (lv' := [(0, .int (p0 - ((((p0).toUInt32 >>> (((1 : Int32)).toUInt32 &&& Int32.toUInt32 31)).toInt32) &&& (1431655765 : Int32))))]) hx hb d_Jn_bitCount_9 rfl hl (by decide) rfl (fun ls hl => ?_)
  refine lv_iload_n hx hb d_Jn_bitCount_10 rfl (lv_at hl 0 rfl) ?_
  refine lv_ldcw (v := (858993459 : Int32)) hx hb hown (hts _ gw_310) d_Jn_bitCount_11 ?_
  refine lv_iand hx hb d_Jn_bitCount_14 ?_
  refine lv_iload_n hx hb d_Jn_bitCount_15 rfl (lv_at hl 0 rfl) ?_
  refine lv_iconst (v := (2 : Int32)) hx hb d_Jn_bitCount_16 (by decide) ?_
  refine lv_iushr hx hb d_Jn_bitCount_17 rfl ?_
  refine lv_ldcw (v := (858993459 : Int32)) hx hb hown (hts _ gw_310) d_Jn_bitCount_18 ?_
  refine lv_iand hx hb d_Jn_bitCount_21 ?_
  refine lv_iadd hx hb d_Jn_bitCount_22 ?_
  refine lv_istore_n (lv' := [(0, .int (((p0 - ((((p0).toUInt32 >>> (((1 : Int32)).toUInt32 &&& Int32.toUInt32 31)).toInt32) &&& (1431655765 : Int32))) &&& (858993459 : Int32)) + (((((p0 - ((((p0).toUInt32 >>> (((1 : Int32)).toUInt32 &&& Int32.toUInt32 31)).toInt32) &&& (1431655765 : Int32)))).toUInt32 >>> (((2 : Int32)).toUInt32 &&& Int32.toUInt32 31)).toInt32) &&& (858993459 : Int32))))]) hx hb d_Jn_bitCount_23 rfl hl (by decide) rfl (fun ls hl => ?_)
  refine lv_iload_n hx hb d_Jn_bitCount_24 rfl (lv_at hl 0 rfl) ?_
  refine lv_iload_n hx hb d_Jn_bitCount_25 rfl (lv_at hl 0 rfl) ?_
  refine lv_iconst (v := (4 : Int32)) hx hb d_Jn_bitCount_26 (by decide) ?_
  refine lv_iushr hx hb d_Jn_bitCount_27 rfl ?_
  refine lv_iadd hx hb d_Jn_bitCount_28 ?_
  refine lv_ldcw (v := (252645135 : Int32)) hx hb hown (hts _ gw_311) d_Jn_bitCount_29 ?_
  refine lv_iand hx hb d_Jn_bitCount_32 ?_
  refine lv_istore_n (lv' := [(0, .int (((((p0 - ((((p0).toUInt32 >>> (((1 : Int32)).toUInt32 &&& Int32.toUInt32 31)).toInt32) &&& (1431655765 : Int32))) &&& (858993459 : Int32)) + (((((p0 - ((((p0).toUInt32 >>> (((1 : Int32)).toUInt32 &&& Int32.toUInt32 31)).toInt32) &&& (1431655765 : Int32)))).toUInt32 >>> (((2 : Int32)).toUInt32 &&& Int32.toUInt32 31)).toInt32) &&& (858993459 : Int32))) + ((((((p0 - ((((p0).toUInt32 >>> (((1 : Int32)).toUInt32 &&& Int32.toUInt32 31)).toInt32) &&& (1431655765 : Int32))) &&& (858993459 : Int32)) + (((((p0 - ((((p0).toUInt32 >>> (((1 : Int32)).toUInt32 &&& Int32.toUInt32 31)).toInt32) &&& (1431655765 : Int32)))).toUInt32 >>> (((2 : Int32)).toUInt32 &&& Int32.toUInt32 31)).toInt32) &&& (858993459 : Int32)))).toUInt32 >>> (((4 : Int32)).toUInt32 &&& Int32.toUInt32 31)).toInt32)) &&& (252645135 : Int32)))]) hx hb d_Jn_bitCount_33 rfl hl (by decide) rfl (fun ls hl => ?_)
  refine lv_iload_n hx hb d_Jn_bitCount_34 rfl (lv_at hl 0 rfl) ?_
  refine lv_iload_n hx hb d_Jn_bitCount_35 rfl (lv_at hl 0 rfl) ?_
  refine lv_bipush (v := (8 : Int32)) hx hb d_Jn_bitCount_36 (by decide) ?_
  refine lv_iushr hx hb d_Jn_bitCount_38 rfl ?_
  refine lv_iadd hx hb d_Jn_bitCount_39 ?_
  refine lv_istore_n (lv' := [(0, .int ((((((p0 - ((((p0).toUInt32 >>> (((1 : Int32)).toUInt32 &&& Int32.toUInt32 31)).toInt32) &&& (1431655765 : Int32))) &&& (858993459 : Int32)) + (((((p0 - ((((p0).toUInt32 >>> (((1 : Int32)).toUInt32 &&& Int32.toUInt32 31)).toInt32) &&& (1431655765 : Int32)))).toUInt32 >>> (((2 : Int32)).toUInt32 &&& Int32.toUInt32 31)).toInt32) &&& (858993459 : Int32))) + ((((((p0 - ((((p0).toUInt32 >>> (((1 : Int32)).toUInt32 &&& Int32.toUInt32 31)).toInt32) &&& (1431655765 : Int32))) &&& (858993459 : Int32)) + (((((p0 - ((((p0).toUInt32 >>> (((1 : Int32)).toUInt32 &&& Int32.toUInt32 31)).toInt32) &&& (1431655765 : Int32)))).toUInt32 >>> (((2 : Int32)).toUInt32 &&& Int32.toUInt32 31)).toInt32) &&& (858993459 : Int32)))).toUInt32 >>> (((4 : Int32)).toUInt32 &&& Int32.toUInt32 31)).toInt32)) &&& (252645135 : Int32)) + ((((((((p0 - ((((p0).toUInt32 >>> (((1 : Int32)).toUInt32 &&& Int32.toUInt32 31)).toInt32) &&& (1431655765 : Int32))) &&& (858993459 : Int32)) + (((((p0 - ((((p0).toUInt32 >>> (((1 : Int32)).toUInt32 &&& Int32.toUInt32 31)).toInt32) &&& (1431655765 : Int32)))).toUInt32 >>> (((2 : Int32)).toUInt32 &&& Int32.toUInt32 31)).toInt32) &&& (858993459 : Int32))) + ((((((p0 - ((((p0).toUInt32 >>> (((1 : Int32)).toUInt32 &&& Int32.toUInt32 31)).toInt32) &&& (1431655765 : Int32))) &&& (858993459 : Int32)) + (((((p0 - ((((p0).toUInt32 >>> (((1 : Int32)).toUInt32 &&& Int32.toUInt32 31)).toInt32) &&& (1431655765 : Int32)))).toUInt32 >>> (((2 : Int32)).toUInt32 &&& Int32.toUInt32 31)).toInt32) &&& (858993459 : Int32)))).toUInt32 >>> (((4 : Int32)).toUInt32 &&& Int32.toUInt32 31)).toInt32)) &&& (252645135 : Int32))).toUInt32 >>> (((8 : Int32)).toUInt32 &&& Int32.toUInt32 31)).toInt32)))]) hx hb d_Jn_bitCount_40 rfl hl (by decide) rfl (fun ls hl => ?_)
  refine lv_iload_n hx hb d_Jn_bitCount_41 rfl (lv_at hl 0 rfl) ?_
  refine lv_iload_n hx hb d_Jn_bitCount_42 rfl (lv_at hl 0 rfl) ?_
  refine lv_bipush (v := (16 : Int32)) hx hb d_Jn_bitCount_43 (by decide) ?_
  refine lv_iushr hx hb d_Jn_bitCount_45 rfl ?_
  refine lv_iadd hx hb d_Jn_bitCount_46 ?_
  refine lv_istore_n (lv' := [(0, .int (((((((p0 - ((((p0).toUInt32 >>> (((1 : Int32)).toUInt32 &&& Int32.toUInt32 31)).toInt32) &&& (1431655765 : Int32))) &&& (858993459 : Int32)) + (((((p0 - ((((p0).toUInt32 >>> (((1 : Int32)).toUInt32 &&& Int32.toUInt32 31)).toInt32) &&& (1431655765 : Int32)))).toUInt32 >>> (((2 : Int32)).toUInt32 &&& Int32.toUInt32 31)).toInt32) &&& (858993459 : Int32))) + ((((((p0 - ((((p0).toUInt32 >>> (((1 : Int32)).toUInt32 &&& Int32.toUInt32 31)).toInt32) &&& (1431655765 : Int32))) &&& (858993459 : Int32)) + (((((p0 - ((((p0).toUInt32 >>> (((1 : Int32)).toUInt32 &&& Int32.toUInt32 31)).toInt32) &&& (1431655765 : Int32)))).toUInt32 >>> (((2 : Int32)).toUInt32 &&& Int32.toUInt32 31)).toInt32) &&& (858993459 : Int32)))).toUInt32 >>> (((4 : Int32)).toUInt32 &&& Int32.toUInt32 31)).toInt32)) &&& (252645135 : Int32)) + ((((((((p0 - ((((p0).toUInt32 >>> (((1 : Int32)).toUInt32 &&& Int32.toUInt32 31)).toInt32) &&& (1431655765 : Int32))) &&& (858993459 : Int32)) + (((((p0 - ((((p0).toUInt32 >>> (((1 : Int32)).toUInt32 &&& Int32.toUInt32 31)).toInt32) &&& (1431655765 : Int32)))).toUInt32 >>> (((2 : Int32)).toUInt32 &&& Int32.toUInt32 31)).toInt32) &&& (858993459 : Int32))) + ((((((p0 - ((((p0).toUInt32 >>> (((1 : Int32)).toUInt32 &&& Int32.toUInt32 31)).toInt32) &&& (1431655765 : Int32))) &&& (858993459 : Int32)) + (((((p0 - ((((p0).toUInt32 >>> (((1 : Int32)).toUInt32 &&& Int32.toUInt32 31)).toInt32) &&& (1431655765 : Int32)))).toUInt32 >>> (((2 : Int32)).toUInt32 &&& Int32.toUInt32 31)).toInt32) &&& (858993459 : Int32)))).toUInt32 >>> (((4 : Int32)).toUInt32 &&& Int32.toUInt32 31)).toInt32)) &&& (252645135 : Int32))).toUInt32 >>> (((8 : Int32)).toUInt32 &&& Int32.toUInt32 31)).toInt32)) + (((((((((p0 - ((((p0).toUInt32 >>> (((1 : Int32)).toUInt32 &&& Int32.toUInt32 31)).toInt32) &&& (1431655765 : Int32))) &&& (858993459 : Int32)) + (((((p0 - ((((p0).toUInt32 >>> (((1 : Int32)).toUInt32 &&& Int32.toUInt32 31)).toInt32) &&& (1431655765 : Int32)))).toUInt32 >>> (((2 : Int32)).toUInt32 &&& Int32.toUInt32 31)).toInt32) &&& (858993459 : Int32))) + ((((((p0 - ((((p0).toUInt32 >>> (((1 : Int32)).toUInt32 &&& Int32.toUInt32 31)).toInt32) &&& (1431655765 : Int32))) &&& (858993459 : Int32)) + (((((p0 - ((((p0).toUInt32 >>> (((1 : Int32)).toUInt32 &&& Int32.toUInt32 31)).toInt32) &&& (1431655765 : Int32)))).toUInt32 >>> (((2 : Int32)).toUInt32 &&& Int32.toUInt32 31)).toInt32) &&& (858993459 : Int32)))).toUInt32 >>> (((4 : Int32)).toUInt32 &&& Int32.toUInt32 31)).toInt32)) &&& (252645135 : Int32)) + ((((((((p0 - ((((p0).toUInt32 >>> (((1 : Int32)).toUInt32 &&& Int32.toUInt32 31)).toInt32) &&& (1431655765 : Int32))) &&& (858993459 : Int32)) + (((((p0 - ((((p0).toUInt32 >>> (((1 : Int32)).toUInt32 &&& Int32.toUInt32 31)).toInt32) &&& (1431655765 : Int32)))).toUInt32 >>> (((2 : Int32)).toUInt32 &&& Int32.toUInt32 31)).toInt32) &&& (858993459 : Int32))) + ((((((p0 - ((((p0).toUInt32 >>> (((1 : Int32)).toUInt32 &&& Int32.toUInt32 31)).toInt32) &&& (1431655765 : Int32))) &&& (858993459 : Int32)) + (((((p0 - ((((p0).toUInt32 >>> (((1 : Int32)).toUInt32 &&& Int32.toUInt32 31)).toInt32) &&& (1431655765 : Int32)))).toUInt32 >>> (((2 : Int32)).toUInt32 &&& Int32.toUInt32 31)).toInt32) &&& (858993459 : Int32)))).toUInt32 >>> (((4 : Int32)).toUInt32 &&& Int32.toUInt32 31)).toInt32)) &&& (252645135 : Int32))).toUInt32 >>> (((8 : Int32)).toUInt32 &&& Int32.toUInt32 31)).toInt32))).toUInt32 >>> (((16 : Int32)).toUInt32 &&& Int32.toUInt32 31)).toInt32)))]) hx hb d_Jn_bitCount_47 rfl hl (by decide) rfl (fun ls hl => ?_)
  refine lv_iload_n hx hb d_Jn_bitCount_48 rfl (lv_at hl 0 rfl) ?_
  refine lv_bipush (v := (63 : Int32)) hx hb d_Jn_bitCount_49 (by decide) ?_
  refine lv_iand hx hb d_Jn_bitCount_51 ?_
  cases h
  exact q_iretW hx hb hr hlocks hP hD hS d_Jn_bitCount_52

theorem d_Ja_fill_0 : decode prog_11_method_103_code 0 = .ok (.iconst 0, 1) := by decide +kernel
theorem d_Ja_fill_1 : decode prog_11_method_103_code 1 = .ok (.istore_n 2, 1) := by decide +kernel
theorem d_Ja_fill_2 : decode prog_11_method_103_code 2 = .ok (.aload_n 0, 1) := by decide +kernel
theorem d_Ja_fill_3 : decode prog_11_method_103_code 3 = .ok (.arraylength, 1) := by decide +kernel
theorem d_Ja_fill_4 : decode prog_11_method_103_code 4 = .ok (.istore_n 3, 1) := by decide +kernel
theorem d_Ja_fill_5 : decode prog_11_method_103_code 5 = .ok (.iload_n 2, 1) := by decide +kernel
theorem d_Ja_fill_6 : decode prog_11_method_103_code 6 = .ok (.iload_n 3, 1) := by decide +kernel
theorem d_Ja_fill_7 : decode prog_11_method_103_code 7 = .ok (.if_icmp .ge 13, 3) := by decide +kernel
theorem d_Ja_fill_10 : decode prog_11_method_103_code 10 = .ok (.aload_n 0, 1) := by decide +kernel
theorem d_Ja_fill_11 : decode prog_11_method_103_code 11 = .ok (.iload_n 2, 1) := by decide +kernel
theorem d_Ja_fill_12 : decode prog_11_method_103_code 12 = .ok (.iload_n 1, 1) := by decide +kernel
theorem d_Ja_fill_13 : decode prog_11_method_103_code 13 = .ok (.iastore, 1) := by decide +kernel
theorem d_Ja_fill_14 : decode prog_11_method_103_code 14 = .ok (.iinc 2 1, 3) := by decide +kernel
theorem d_Ja_fill_17 : decode prog_11_method_103_code 17 = .ok (.goto (-12), 3) := by decide +kernel
theorem d_Ja_fill_20 : decode prog_11_method_103_code 20 = .ok (.return_, 1) := by decide +kernel
-- java/util/Arrays.fill([II)V 
def ws_Ja_fill (G : gG) (a_a : Nat) (n : Nat) (x_a : Nat → Int32) : va_W := [(a_a, .inl (G.2 0, n, .inl x_a))]
def fb_Ja_fill_L5 (fu : Nat) (n : Nat)  (k5 : (Int32 → Int32 → Int32 → (Nat → Int32) → Option ((Nat → Int32)))) (l5_1 : Int32) (l5_2 : Int32) (l5_3 : Int32) (x_a_5 : Nat → Int32) : Option ((Nat → Int32)) :=
  (if l5_3 ≤ l5_2 then some x_a_5 else (if inB l5_2 n then (k5 l5_1 (l5_2 + (1 : Int32)) l5_3 (upd x_a_5 l5_2.toNatClampNeg l5_1)) else none))
def f_Ja_fill_L5 (fu : Nat) (n : Nat)  : Nat → Int32 → Int32 → Int32 → (Nat → Int32) → Option ((Nat → Int32))
  | 0 => fun _ _ _ _ => none
  | k9 + 1 => fb_Ja_fill_L5 fu n (f_Ja_fill_L5 fu n k9)
def f_Ja_fill (fu : Nat) (n : Nat) (p1 : Int32) (x_a : Nat → Int32) : Option ((Nat → Int32)) :=
  (f_Ja_fill_L5 fu n fu p1 (0 : Int32) (Int32.ofNat n) x_a)
set_option maxHeartbeats 4000000 in
set_option maxRecDepth 100000 in
theorem c_Ja_fill (l : Launch) (G : gG) (sz : Nat) (a_a : Nat) (fu : Nat) (n : Nat) (p1 : Int32) (x_a : Nat → Int32) (x_a' : Nat → Int32) (h : f_Ja_fill fu n p1 x_a = some x_a')  : cN l y_Ja_fill w_Ja_fill { frames := 0, cells := 0, slots := 0, locals := 0 } G sz [.ref a_a, .int p1] (ws_Ja_fill G a_a n x_a) none (wB G (ws_Ja_fill G a_a n x_a')) 0 0 := by
  refine cN_ofW (cc := prog_11_method_103_code) (maxL := 4) (ret := none) (by decide) rfl (Nat.le_of_ble_eq_true rfl) ?_
  intro p e s m args below meth c A H locs ls hx hb hr hts hown hlocks hin hml hK hN hP hD hA hS hl
  replace hl : lv_has ls 4 [(0, .ref a_a), (1, .int p1)] := hl
  replace hown : s.vm.findClass "java/util/Arrays" = some m.cls := hown
  unfold f_Ja_fill at h
  refine lv_iconst (v := (0 : Int32)) hx hb d_Ja_fill_0 (by decide) ?_
  refine lv_istore_n (lv' := [(2, .int (0 : Int32)), (0, .ref a_a), (1, .int p1)]) hx hb d_Ja_fill_1 rfl hl (by decide) rfl (fun ls hl => ?_)
  refine lv_aload_n hx hb d_Ja_fill_2 rfl (lv_at hl 1 rfl) ?_
  refine va_alen (v := Int32.ofNat n) hx hb hK hP 0 0 rfl rfl rfl d_Ja_fill_3 ?_
  refine lv_istore_n (lv' := [(3, .int (Int32.ofNat n)), (2, .int (0 : Int32)), (0, .ref a_a), (1, .int p1)]) hx hb d_Ja_fill_4 rfl hl (by decide) rfl (fun ls hl => ?_)
  have L5 : ∀ (nf : Nat) (l5_1 : Int32) (l5_2 : Int32) (l5_3 : Int32) (x_a_5 : Nat → Int32) (H : Heap) (locs : List Loc) (ls : Array Slot), f_Ja_fill_L5 fu n nf l5_1 l5_2 l5_3 x_a_5 = some x_a' → va_P G.1 vwCl (ws_Ja_fill G a_a n x_a_5) H → va_D A (ws_Ja_fill G a_a n x_a_5) → va_S A s.heap H locs → lv_has ls 4 [(0, .ref a_a), (1, .int l5_1), (2, .int l5_2), (3, .int l5_3)] → W p l e { frames := 0, cells := 0, slots := 0, locals := 0 } s m args below meth c H locs 0 0 (MQ below (qQ none (wB G (ws_Ja_fill G a_a n x_a') A) A) args s 0 0 A) (F0 m 5 ls []) := by
    clear h hP hD hS hl
    intro n5
    induction n5 with
    | zero => intro _ _ _ _ H locs ls h; exact nomatch (show none = some _ from h)
    | succ n5 ih5 =>
      intro l5_1 l5_2 l5_3 x_a_5 H locs ls h hP hD hS hl
      replace h : fb_Ja_fill_L5 fu n (f_Ja_fill_L5 fu n n5) l5_1 l5_2 l5_3 x_a_5 = some x_a' := h
      unfold fb_Ja_fill_L5 at h
      refine lv_iload_n hx hb d_Ja_fill_5 rfl (lv_at hl 2 rfl) ?_
      refine lv_iload_n hx hb d_Ja_fill_6 rfl (lv_at hl 3 rfl) ?_
      refine lv_icmp_ge (tgt := 20) hx hb d_Ja_fill_7 (by decide) (fun c1 => ?_) (fun c1 => ?_)
      · replace h := (if_pos c1).symm.trans h
        cases h
        exact q_vretW hx hb hr hlocks hP hD hS d_Ja_fill_20
      · replace h := (if_neg c1).symm.trans h
        refine lv_aload_n hx hb d_Ja_fill_10 rfl (lv_at hl 0 rfl) ?_
        refine lv_iload_n hx hb d_Ja_fill_11 rfl (lv_at hl 2 rfl) ?_
        refine lv_iload_n hx hb d_Ja_fill_12 rfl (lv_at hl 1 rfl) ?_
        obtain ⟨i2, h⟩ := o_if h
        refine va_iast (n := n) (f := x_a_5) hx hb hK hP hD hS 0 0 rfl rfl i2 d_Ja_fill_13 (fun H locs hP hD hS => ?_)
        replace hP : va_P G.1 vwCl (ws_Ja_fill G a_a n (upd x_a_5 l5_2.toNatClampNeg l5_1)) H := hP
        replace hD : va_D A (ws_Ja_fill G a_a n (upd x_a_5 l5_2.toNatClampNeg l5_1)) := hD
        refine lv_iinc (v := (l5_2 + (1 : Int32))) (lv' := [(2, .int (l5_2 + (1 : Int32))), (0, .ref a_a), (1, .int l5_1), (3, .int l5_3)]) hx hb d_Ja_fill_14 hl (k := 2) rfl rfl (by decide) rfl (fun ls hl => ?_)
        refine lv_goto (tgt := 5) hx hb d_Ja_fill_17 (by decide) ?_
        exact ih5 l5_1 (l5_2 + (1 : Int32)) l5_3 (upd x_a_5 l5_2.toNatClampNeg l5_1) _ _ _ h hP hD hS (lv_sub hl [1, 2, 0, 3] rfl)
  exact L5 fu p1 (0 : Int32) (Int32.ofNat n) x_a _ _ _ h hP hD hS (lv_sub hl [2, 3, 1, 0] rfl)

theorem gw_294 : (.code ⟨"java/util/Arrays", "fill", "([II)V"⟩ prog_11_method_103_code 4 none : Cond) ∈ GW := gT 323 (by decide +kernel) (by decide +kernel)
theorem gw_39 : (.initialized "java/util/Arrays" : Cond) ∈ GW := gT 9 (by decide +kernel) (by decide +kernel)
theorem gw_292 : (.methodLink "PlayStates$Board" 18 ⟨"java/util/Arrays", "fill", "([II)V"⟩ : Cond) ∈ GW := gT 321 (by decide +kernel) (by decide +kernel)
theorem gw_293 : (.static ⟨"java/util/Arrays", "fill", "([II)V"⟩ : Cond) ∈ GW := gT 322 (by decide +kernel) (by decide +kernel)
theorem d_Bd_clear_0 : decode prog_2_method_2_code 0 = .ok (.aload_n 0, 1) := by decide +kernel
theorem d_Bd_clear_1 : decode prog_2_method_2_code 1 = .ok (.getfield 9, 3) := by decide +kernel
theorem d_Bd_clear_4 : decode prog_2_method_2_code 4 = .ok (.iconst 0, 1) := by decide +kernel
theorem d_Bd_clear_5 : decode prog_2_method_2_code 5 = .ok (.invokestatic 18, 3) := by decide +kernel
theorem d_Bd_clear_8 : decode prog_2_method_2_code 8 = .ok (.aload_n 0, 1) := by decide +kernel
theorem d_Bd_clear_9 : decode prog_2_method_2_code 9 = .ok (.getfield 15, 3) := by decide +kernel
theorem d_Bd_clear_12 : decode prog_2_method_2_code 12 = .ok (.iconst 0, 1) := by decide +kernel
theorem d_Bd_clear_13 : decode prog_2_method_2_code 13 = .ok (.invokestatic 18, 3) := by decide +kernel
theorem d_Bd_clear_16 : decode prog_2_method_2_code 16 = .ok (.return_, 1) := by decide +kernel
-- PlayStates$Board.clear()V 
def ws_Bd_clear (G : gG) (a_t a_t_entries a_t_markBits : Nat) (n : Nat) (x_t_entries : Nat → Int32) (x_t_markBits : Nat → Int32) : va_W := [(a_t, .inr (0, [.ref a_t_entries, .ref a_t_markBits])), (a_t_entries, .inl (G.2 0, n, .inl x_t_entries)), (a_t_markBits, .inl (G.2 0, n, .inl x_t_markBits))]
def f_Bd_clear (fu : Nat) (n : Nat)  (x_t_entries : Nat → Int32) (x_t_markBits : Nat → Int32) : Option ((Nat → Int32) × (Nat → Int32)) :=
  ((f_Ja_fill fu n (0 : Int32) x_t_entries).bind fun y1 => ((f_Ja_fill fu n (0 : Int32) x_t_markBits).bind fun y2 => some (y1, y2)))
set_option maxHeartbeats 4000000 in
set_option maxRecDepth 100000 in
theorem c_Bd_clear (l : Launch) (G : gG) (sz : Nat) (a_t a_t_entries a_t_markBits : Nat) (fu : Nat) (n : Nat)  (x_t_entries : Nat → Int32) (x_t_markBits : Nat → Int32) (x_t_entries' : Nat → Int32) (x_t_markBits' : Nat → Int32) (h : f_Bd_clear fu n x_t_entries x_t_markBits = some (x_t_entries', x_t_markBits'))  : cN l y_Bd_clear w_Bd_clear { frames := 1, cells := 0, slots := 0, locals := 23 } G sz [.ref a_t] (ws_Bd_clear G a_t a_t_entries a_t_markBits n x_t_entries x_t_markBits) none (wB G (ws_Bd_clear G a_t a_t_entries a_t_markBits n x_t_entries' x_t_markBits')) 0 0 := by
  refine cN_ofW (cc := prog_2_method_2_code) (maxL := 1) (ret := none) (by decide) rfl (Nat.le_of_ble_eq_true rfl) ?_
  intro p e s m args below meth c A H locs ls hx hb hr hts hown hlocks hin hml hK hN hP hD hA hS hl
  replace hl : lv_has ls 1 [(0, .ref a_t)] := hl
  replace hown : s.vm.findClass "PlayStates$Board" = some m.cls := hown
  unfold f_Bd_clear at h
  refine lv_aload_n hx hb d_Bd_clear_0 rfl (lv_at hl 0 rfl) ?_
  refine va_get (D := G.1) (ci := 0) (v := .ref a_t_entries) (C := "PlayStates$Board") (T := TBd) (N := 2) hx hb hts iw_0 hown hK hP 0 rfl rfl 0 (by decide) (hts _ gw_79) (fun _ h9 => h9) rfl d_Bd_clear_1 ?_
  refine lv_iconst (v := (0 : Int32)) hx hb d_Bd_clear_4 (by decide) ?_
  obtain ⟨y1, hy1, h⟩ := o_bind h
  have hPc := hP.sub (ws' := (ws_Ja_fill G a_t_entries n x_t_entries)) [1] rfl
  have hDc := hD.sub (ws' := (ws_Ja_fill G a_t_entries n x_t_entries)) [1] (by decide) rfl
  have hFc := va_free (wc := (ws_Ja_fill G a_t_entries n x_t_entries)) hD hS hA [1] rfl
  refine q_call0 (va_runS (As := [.ref a_t_entries, .int (0 : Int32)]) (rest := []) ⟨hx, hb, hml, hown, hts⟩ (c_Ja_fill l G H.size a_t_entries fu n (0 : Int32) x_t_entries _ hy1) ⟨callB_of 2 hts (gC gw_294) rfl rfl rfl (hts _ gw_39) (hts _ gw_292) (by decide +kernel) ⟨Nat.le_of_ble_eq_true rfl, Nat.le_of_ble_eq_true rfl⟩, hts _ gw_293⟩ (pS hK hN hPc hDc) rfl rfl hl.1 rfl (lv_room (Nat.le_of_ble_eq_true rfl)) d_Bd_clear_5 ⟨Nat.le_of_ble_eq_true rfl, Nat.le_of_ble_eq_true rfl⟩) hS (fun q _ h => hFc q h) hFc (fun H1 locs hB hz hk hS => ?_)
  obtain ⟨hP, hD⟩ := q_join (wr := [(a_t, .inr (0, [.ref a_t_entries, .ref a_t_markBits])), (a_t_markBits, .inl (G.2 0, n, .inl x_t_markBits))]) (wn := (ws_Bd_clear G a_t a_t_entries a_t_markBits n y1 x_t_markBits)) hP hD [1] [0, 2] [0, 2, 1] rfl rfl (by decide) (by decide) rfl (by decide) hk hFc hB.1 hB.2
  generalize H1 = H at hP hS ⊢
  replace hP : va_P G.1 vwCl (ws_Bd_clear G a_t a_t_entries a_t_markBits n y1 x_t_markBits) H := hP
  replace hD : va_D A (ws_Bd_clear G a_t a_t_entries a_t_markBits n y1 x_t_markBits) := hD
  refine lv_aload_n hx hb d_Bd_clear_8 rfl (lv_at hl 0 rfl) ?_
  refine va_get (D := G.1) (ci := 0) (v := .ref a_t_markBits) (C := "PlayStates$Board") (T := TBd) (N := 2) hx hb hts iw_0 hown hK hP 0 rfl rfl 1 (by decide) (hts _ gw_80) (fun _ h9 => h9) rfl d_Bd_clear_9 ?_
  refine lv_iconst (v := (0 : Int32)) hx hb d_Bd_clear_12 (by decide) ?_
  obtain ⟨y2, hy2, h⟩ := o_bind h
  have hPc := hP.sub (ws' := (ws_Ja_fill G a_t_markBits n x_t_markBits)) [2] rfl
  have hDc := hD.sub (ws' := (ws_Ja_fill G a_t_markBits n x_t_markBits)) [2] (by decide) rfl
  have hFc := va_free (wc := (ws_Ja_fill G a_t_markBits n x_t_markBits)) hD hS hA [2] rfl
  refine q_call0 (va_runS (As := [.ref a_t_markBits, .int (0 : Int32)]) (rest := []) ⟨hx, hb, hml, hown, hts⟩ (c_Ja_fill l G H.size a_t_markBits fu n (0 : Int32) x_t_markBits _ hy2) ⟨callB_of 2 hts (gC gw_294) rfl rfl rfl (hts _ gw_39) (hts _ gw_292) (by decide +kernel) ⟨Nat.le_of_ble_eq_true rfl, Nat.le_of_ble_eq_true rfl⟩, hts _ gw_293⟩ (pS hK hN hPc hDc) rfl rfl hl.1 rfl (lv_room (Nat.le_of_ble_eq_true rfl)) d_Bd_clear_13 ⟨Nat.le_of_ble_eq_true rfl, Nat.le_of_ble_eq_true rfl⟩) hS (fun q _ h => hFc q h) hFc (fun H1 locs hB hz hk hS => ?_)
  obtain ⟨hP, hD⟩ := q_join (wr := [(a_t, .inr (0, [.ref a_t_entries, .ref a_t_markBits])), (a_t_entries, .inl (G.2 0, n, .inl y1))]) (wn := (ws_Bd_clear G a_t a_t_entries a_t_markBits n y1 y2)) hP hD [2] [0, 1] [0, 1, 2] rfl rfl (by decide) (by decide) rfl (by decide) hk hFc hB.1 hB.2
  generalize H1 = H at hP hS ⊢
  replace hP : va_P G.1 vwCl (ws_Bd_clear G a_t a_t_entries a_t_markBits n y1 y2) H := hP
  replace hD : va_D A (ws_Bd_clear G a_t a_t_entries a_t_markBits n y1 y2) := hD
  cases h
  exact q_vretW hx hb hr hlocks hP hD hS d_Bd_clear_16

theorem gw_308 : (.code ⟨"java/lang/Integer", "bitCount", "(I)I"⟩ prog_9_method_49_code 1 (some .int) : Cond) ∈ GW := gT 338 (by decide +kernel) (by decide +kernel)
theorem gw_40 : (.initialized "java/lang/Integer" : Cond) ∈ GW := gT 10 (by decide +kernel) (by decide +kernel)
theorem gw_306 : (.methodLink "PlayStates$Board" 28 ⟨"java/lang/Integer", "bitCount", "(I)I"⟩ : Cond) ∈ GW := gT 336 (by decide +kernel) (by decide +kernel)
theorem gw_307 : (.static ⟨"java/lang/Integer", "bitCount", "(I)I"⟩ : Cond) ∈ GW := gT 337 (by decide +kernel) (by decide +kernel)
theorem d_Bd_countRowsNeeded_0 : decode prog_2_method_6_code 0 = .ok (.iconst 0, 1) := by decide +kernel
theorem d_Bd_countRowsNeeded_1 : decode prog_2_method_6_code 1 = .ok (.istore_n 1, 1) := by decide +kernel
theorem d_Bd_countRowsNeeded_2 : decode prog_2_method_6_code 2 = .ok (.iconst 0, 1) := by decide +kernel
theorem d_Bd_countRowsNeeded_3 : decode prog_2_method_6_code 3 = .ok (.istore_n 2, 1) := by decide +kernel
theorem d_Bd_countRowsNeeded_4 : decode prog_2_method_6_code 4 = .ok (.iload_n 2, 1) := by decide +kernel
theorem d_Bd_countRowsNeeded_5 : decode prog_2_method_6_code 5 = .ok (.aload_n 0, 1) := by decide +kernel
theorem d_Bd_countRowsNeeded_6 : decode prog_2_method_6_code 6 = .ok (.getfield 9, 3) := by decide +kernel
theorem d_Bd_countRowsNeeded_9 : decode prog_2_method_6_code 9 = .ok (.arraylength, 1) := by decide +kernel
theorem d_Bd_countRowsNeeded_10 : decode prog_2_method_6_code 10 = .ok (.if_icmp .ge 36, 3) := by decide +kernel
theorem d_Bd_countRowsNeeded_13 : decode prog_2_method_6_code 13 = .ok (.iload_n 1, 1) := by decide +kernel
theorem d_Bd_countRowsNeeded_14 : decode prog_2_method_6_code 14 = .ok (.aload_n 0, 1) := by decide +kernel
theorem d_Bd_countRowsNeeded_15 : decode prog_2_method_6_code 15 = .ok (.getfield 9, 3) := by decide +kernel
theorem d_Bd_countRowsNeeded_18 : decode prog_2_method_6_code 18 = .ok (.iload_n 2, 1) := by decide +kernel
theorem d_Bd_countRowsNeeded_19 : decode prog_2_method_6_code 19 = .ok (.iaload, 1) := by decide +kernel
theorem d_Bd_countRowsNeeded_20 : decode prog_2_method_6_code 20 = .ok (.ifCond .ne 7, 3) := by decide +kernel
theorem d_Bd_countRowsNeeded_23 : decode prog_2_method_6_code 23 = .ok (.iconst 0, 1) := by decide +kernel
theorem d_Bd_countRowsNeeded_24 : decode prog_2_method_6_code 24 = .ok (.goto 4, 3) := by decide +kernel
theorem d_Bd_countRowsNeeded_27 : decode prog_2_method_6_code 27 = .ok (.iconst 1, 1) := by decide +kernel
theorem d_Bd_countRowsNeeded_28 : decode prog_2_method_6_code 28 = .ok (.aload_n 0, 1) := by decide +kernel
theorem d_Bd_countRowsNeeded_29 : decode prog_2_method_6_code 29 = .ok (.getfield 15, 3) := by decide +kernel
theorem d_Bd_countRowsNeeded_32 : decode prog_2_method_6_code 32 = .ok (.iload_n 2, 1) := by decide +kernel
theorem d_Bd_countRowsNeeded_33 : decode prog_2_method_6_code 33 = .ok (.iaload, 1) := by decide +kernel
theorem d_Bd_countRowsNeeded_34 : decode prog_2_method_6_code 34 = .ok (.invokestatic 28, 3) := by decide +kernel
theorem d_Bd_countRowsNeeded_37 : decode prog_2_method_6_code 37 = .ok (.iadd, 1) := by decide +kernel
theorem d_Bd_countRowsNeeded_38 : decode prog_2_method_6_code 38 = .ok (.iadd, 1) := by decide +kernel
theorem d_Bd_countRowsNeeded_39 : decode prog_2_method_6_code 39 = .ok (.istore_n 1, 1) := by decide +kernel
theorem d_Bd_countRowsNeeded_40 : decode prog_2_method_6_code 40 = .ok (.iinc 2 1, 3) := by decide +kernel
theorem d_Bd_countRowsNeeded_43 : decode prog_2_method_6_code 43 = .ok (.goto (-39), 3) := by decide +kernel
theorem d_Bd_countRowsNeeded_46 : decode prog_2_method_6_code 46 = .ok (.iload_n 1, 1) := by decide +kernel
theorem d_Bd_countRowsNeeded_47 : decode prog_2_method_6_code 47 = .ok (.ireturn, 1) := by decide +kernel
-- PlayStates$Board.countRowsNeeded()I 
def ws_Bd_countRowsNeeded (G : gG) (a_t a_t_entries a_t_markBits : Nat) (n : Nat) (x_t_entries : Nat → Int32) (x_t_markBits : Nat → Int32) : va_W := [(a_t, .inr (0, [.ref a_t_entries, .ref a_t_markBits])), (a_t_entries, .inl (G.2 0, n, .inl x_t_entries)), (a_t_markBits, .inl (G.2 0, n, .inl x_t_markBits))]
def fb_Bd_countRowsNeeded_L4 (fu : Nat) (n : Nat) (x_t_entries : Nat → Int32) (x_t_markBits : Nat → Int32)  (k4 : (Int32 → Int32 → Option (Int32))) (l4_1 : Int32) (l4_2 : Int32) : Option (Int32) :=
  (if (Int32.ofNat n) ≤ l4_2 then some l4_1 else (if inB l4_2 n then (if (x_t_entries l4_2.toNatClampNeg) = 0 then (if inB l4_2 n then ((f_Jn_bitCount (x_t_markBits l4_2.toNatClampNeg)).bind fun y7 => (k4 (l4_1 + ((0 : Int32) + y7)) (l4_2 + (1 : Int32)))) else none) else (if inB l4_2 n then ((f_Jn_bitCount (x_t_markBits l4_2.toNatClampNeg)).bind fun y5 => (k4 (l4_1 + ((1 : Int32) + y5)) (l4_2 + (1 : Int32)))) else none)) else none))
def f_Bd_countRowsNeeded_L4 (fu : Nat) (n : Nat) (x_t_entries : Nat → Int32) (x_t_markBits : Nat → Int32)  : Nat → Int32 → Int32 → Option (Int32)
  | 0 => fun _ _ => none
  | k9 + 1 => fb_Bd_countRowsNeeded_L4 fu n x_t_entries x_t_markBits (f_Bd_countRowsNeeded_L4 fu n x_t_entries x_t_markBits k9)
def f_Bd_countRowsNeeded (fu : Nat) (n : Nat)  (x_t_entries : Nat → Int32) (x_t_markBits : Nat → Int32) : Option (Int32) :=
  (f_Bd_countRowsNeeded_L4 fu n x_t_entries x_t_markBits fu (0 : Int32) (0 : Int32))
set_option maxHeartbeats 4000000 in
set_option maxRecDepth 100000 in
theorem c_Bd_countRowsNeeded (l : Launch) (G : gG) (sz : Nat) (a_t a_t_entries a_t_markBits : Nat) (fu : Nat) (n : Nat)  (x_t_entries : Nat → Int32) (x_t_markBits : Nat → Int32) (r : Int32) (h : f_Bd_countRowsNeeded fu n x_t_entries x_t_markBits = some r)  : cN l y_Bd_countRowsNeeded w_Bd_countRowsNeeded { frames := 1, cells := 0, slots := 0, locals := 20 } G sz [.ref a_t] (ws_Bd_countRowsNeeded G a_t a_t_entries a_t_markBits n x_t_entries x_t_markBits) (some (.int r)) (wB G (ws_Bd_countRowsNeeded G a_t a_t_entries a_t_markBits n x_t_entries x_t_markBits)) 0 0 := by
  refine cN_ofW (cc := prog_2_method_6_code) (maxL := 3) (ret := (some .int)) (by decide) rfl (Nat.le_of_ble_eq_true rfl) ?_
  intro p e s m args below meth c A H locs ls hx hb hr hts hown hlocks hin hml hK hN hP hD hA hS hl
  replace hl : lv_has ls 3 [(0, .ref a_t)] := hl
  replace hown : s.vm.findClass "PlayStates$Board" = some m.cls := hown
  unfold f_Bd_countRowsNeeded at h
  refine lv_iconst (v := (0 : Int32)) hx hb d_Bd_countRowsNeeded_0 (by decide) ?_
  refine lv_istore_n (lv' := [(1, .int (0 : Int32)), (0, .ref a_t)]) hx hb d_Bd_countRowsNeeded_1 rfl hl (by decide) rfl (fun ls hl => ?_)
  refine lv_iconst (v := (0 : Int32)) hx hb d_Bd_countRowsNeeded_2 (by decide) ?_
  refine lv_istore_n (lv' := [(2, .int (0 : Int32)), (1, .int (0 : Int32)), (0, .ref a_t)]) hx hb d_Bd_countRowsNeeded_3 rfl hl (by decide) rfl (fun ls hl => ?_)
  have L4 : ∀ (nf : Nat) (l4_1 : Int32) (l4_2 : Int32) (H : Heap) (locs : List Loc) (ls : Array Slot), f_Bd_countRowsNeeded_L4 fu n x_t_entries x_t_markBits nf l4_1 l4_2 = some r → va_P G.1 vwCl (ws_Bd_countRowsNeeded G a_t a_t_entries a_t_markBits n x_t_entries x_t_markBits) H → va_D A (ws_Bd_countRowsNeeded G a_t a_t_entries a_t_markBits n x_t_entries x_t_markBits) → va_S A s.heap H locs → lv_has ls 3 [(0, .ref a_t), (1, .int l4_1), (2, .int l4_2)] → W p l e { frames := 1, cells := 0, slots := 0, locals := 20 } s m args below meth c H locs 0 0 (MQ below (qQ (some (.int r)) (wB G (ws_Bd_countRowsNeeded G a_t a_t_entries a_t_markBits n x_t_entries x_t_markBits) A) A) args s 0 0 A) (F0 m 4 ls []) := by
    clear h hP hD hS hl
    intro n4
    induction n4 with
    | zero => intro _ _ H locs ls h; exact nomatch (show none = some _ from h)
    | succ n4 ih4 =>
      intro l4_1 l4_2 H locs ls h hP hD hS hl
      replace h : fb_Bd_countRowsNeeded_L4 fu n x_t_entries x_t_markBits (f_Bd_countRowsNeeded_L4 fu n x_t_entries x_t_markBits n4) l4_1 l4_2 = some r := h
      unfold fb_Bd_countRowsNeeded_L4 at h
      refine lv_iload_n hx hb d_Bd_countRowsNeeded_4 rfl (lv_at hl 2 rfl) ?_
      refine lv_aload_n hx hb d_Bd_countRowsNeeded_5 rfl (lv_at hl 0 rfl) ?_
      refine va_get (D := G.1) (ci := 0) (v := .ref a_t_entries) (C := "PlayStates$Board") (T := TBd) (N := 2) hx hb hts iw_0 hown hK hP 0 rfl rfl 0 (by decide) (hts _ gw_79) (fun _ h9 => h9) rfl d_Bd_countRowsNeeded_6 ?_
      refine va_alen (v := Int32.ofNat n) hx hb hK hP 1 0 rfl rfl rfl d_Bd_countRowsNeeded_9 ?_
      refine lv_icmp_ge (tgt := 46) hx hb d_Bd_countRowsNeeded_10 (by decide) (fun c1 => ?_) (fun c1 => ?_)
      · replace h := (if_pos c1).symm.trans h
        refine lv_iload_n hx hb d_Bd_countRowsNeeded_46 rfl (lv_at hl 1 rfl) ?_
        cases h
        exact q_iretW hx hb hr hlocks hP hD hS d_Bd_countRowsNeeded_47
      · replace h := (if_neg c1).symm.trans h
        refine lv_iload_n hx hb d_Bd_countRowsNeeded_13 rfl (lv_at hl 1 rfl) ?_
        refine lv_aload_n hx hb d_Bd_countRowsNeeded_14 rfl (lv_at hl 0 rfl) ?_
        refine va_get (D := G.1) (ci := 0) (v := .ref a_t_entries) (C := "PlayStates$Board") (T := TBd) (N := 2) hx hb hts iw_0 hown hK hP 0 rfl rfl 0 (by decide) (hts _ gw_79) (fun _ h9 => h9) rfl d_Bd_countRowsNeeded_15 ?_
        refine lv_iload_n hx hb d_Bd_countRowsNeeded_18 rfl (lv_at hl 2 rfl) ?_
        obtain ⟨i2, h⟩ := o_if h
        refine va_iald (n := n) (f := x_t_entries) hx hb hK hP 1 0 rfl rfl i2 d_Bd_countRowsNeeded_19 ?_
        refine lv_if_ne (tgt := 27) hx hb d_Bd_countRowsNeeded_20 (by decide) (fun c3 => ?_) (fun c3 => ?_)
        · replace h := (if_neg c3).symm.trans h
          refine lv_iconst (v := (1 : Int32)) hx hb d_Bd_countRowsNeeded_27 (by decide) ?_
          refine lv_aload_n hx hb d_Bd_countRowsNeeded_28 rfl (lv_at hl 0 rfl) ?_
          refine va_get (D := G.1) (ci := 0) (v := .ref a_t_markBits) (C := "PlayStates$Board") (T := TBd) (N := 2) hx hb hts iw_0 hown hK hP 0 rfl rfl 1 (by decide) (hts _ gw_80) (fun _ h9 => h9) rfl d_Bd_countRowsNeeded_29 ?_
          refine lv_iload_n hx hb d_Bd_countRowsNeeded_32 rfl (lv_at hl 2 rfl) ?_
          obtain ⟨i4, h⟩ := o_if h
          refine va_iald (n := n) (f := x_t_markBits) hx hb hK hP 2 0 rfl rfl i4 d_Bd_countRowsNeeded_33 ?_
          obtain ⟨y5, hy5, h⟩ := o_bind h
          have hPc := hP.sub (ws' := (ws_Jn_bitCount G)) [] rfl
          have hDc := hD.sub (ws' := (ws_Jn_bitCount G)) [] (by decide) rfl
          have hFc := va_free (wc := (ws_Jn_bitCount G)) hD hS hA [] rfl
          refine q_call1 (va_runS (As := [.int (x_t_markBits l4_2.toNatClampNeg)]) (rest := [.int (1 : Int32), .int l4_1]) ⟨hx, hb, hml, hown, hts⟩ (c_Jn_bitCount l G H.size (x_t_markBits l4_2.toNatClampNeg) _ hy5) ⟨callB_of 1 hts (gC gw_308) rfl rfl rfl (hts _ gw_40) (hts _ gw_306) (by decide +kernel) ⟨Nat.le_of_ble_eq_true rfl, Nat.le_of_ble_eq_true rfl⟩, hts _ gw_307⟩ (pS hK hN hPc hDc) rfl rfl hl.1 rfl (lv_room (Nat.le_of_ble_eq_true rfl)) d_Bd_countRowsNeeded_34 ⟨Nat.le_of_ble_eq_true rfl, Nat.le_of_ble_eq_true rfl⟩) hS (fun q _ h => hFc q h) hFc (fun H1 locs hB hz hk hS => ?_)
          obtain ⟨hP, hD⟩ := q_join (wr := [(a_t, .inr (0, [.ref a_t_entries, .ref a_t_markBits])), (a_t_entries, .inl (G.2 0, n, .inl x_t_entries)), (a_t_markBits, .inl (G.2 0, n, .inl x_t_markBits))]) (wn := (ws_Bd_countRowsNeeded G a_t a_t_entries a_t_markBits n x_t_entries x_t_markBits)) hP hD [] [0, 1, 2] [0, 1, 2] rfl rfl (by decide) (by decide) rfl (by decide) hk hFc hB.1 hB.2
          generalize H1 = H at hP hS ⊢
          replace hP : va_P G.1 vwCl (ws_Bd_countRowsNeeded G a_t a_t_entries a_t_markBits n x_t_entries x_t_markBits) H := hP
          replace hD : va_D A (ws_Bd_countRowsNeeded G a_t a_t_entries a_t_markBits n x_t_entries x_t_markBits) := hD
          refine lv_iadd hx hb d_Bd_countRowsNeeded_37 ?_
          refine lv_iadd hx hb d_Bd_countRowsNeeded_38 ?_
          refine lv_istore_n (lv' := [(1, .int (l4_1 + ((1 : Int32) + y5))), (0, .ref a_t), (2, .int l4_2)]) hx hb d_Bd_countRowsNeeded_39 rfl hl (by decide) rfl (fun ls hl => ?_)
          refine lv_iinc (v := (l4_2 + (1 : Int32))) (lv' := [(2, .int (l4_2 + (1 : Int32))), (1, .int (l4_1 + ((1 : Int32) + y5))), (0, .ref a_t)]) hx hb d_Bd_countRowsNeeded_40 hl (k := 2) rfl rfl (by decide) rfl (fun ls hl => ?_)
          refine lv_goto (tgt := 4) hx hb d_Bd_countRowsNeeded_43 (by decide) ?_
          exact ih4 (l4_1 + ((1 : Int32) + y5)) (l4_2 + (1 : Int32)) _ _ _ h hP hD hS (lv_sub hl [2, 1, 0] rfl)
        · replace h := (if_pos c3).symm.trans h
          refine lv_iconst (v := (0 : Int32)) hx hb d_Bd_countRowsNeeded_23 (by decide) ?_
          refine lv_goto (tgt := 28) hx hb d_Bd_countRowsNeeded_24 (by decide) ?_
          refine lv_aload_n hx hb d_Bd_countRowsNeeded_28 rfl (lv_at hl 0 rfl) ?_
          refine va_get (D := G.1) (ci := 0) (v := .ref a_t_markBits) (C := "PlayStates$Board") (T := TBd) (N := 2) hx hb hts iw_0 hown hK hP 0 rfl rfl 1 (by decide) (hts _ gw_80) (fun _ h9 => h9) rfl d_Bd_countRowsNeeded_29 ?_
          refine lv_iload_n hx hb d_Bd_countRowsNeeded_32 rfl (lv_at hl 2 rfl) ?_
          obtain ⟨i6, h⟩ := o_if h
          refine va_iald (n := n) (f := x_t_markBits) hx hb hK hP 2 0 rfl rfl i6 d_Bd_countRowsNeeded_33 ?_
          obtain ⟨y7, hy7, h⟩ := o_bind h
          have hPc := hP.sub (ws' := (ws_Jn_bitCount G)) [] rfl
          have hDc := hD.sub (ws' := (ws_Jn_bitCount G)) [] (by decide) rfl
          have hFc := va_free (wc := (ws_Jn_bitCount G)) hD hS hA [] rfl
          refine q_call1 (va_runS (As := [.int (x_t_markBits l4_2.toNatClampNeg)]) (rest := [.int (0 : Int32), .int l4_1]) ⟨hx, hb, hml, hown, hts⟩ (c_Jn_bitCount l G H.size (x_t_markBits l4_2.toNatClampNeg) _ hy7) ⟨callB_of 1 hts (gC gw_308) rfl rfl rfl (hts _ gw_40) (hts _ gw_306) (by decide +kernel) ⟨Nat.le_of_ble_eq_true rfl, Nat.le_of_ble_eq_true rfl⟩, hts _ gw_307⟩ (pS hK hN hPc hDc) rfl rfl hl.1 rfl (lv_room (Nat.le_of_ble_eq_true rfl)) d_Bd_countRowsNeeded_34 ⟨Nat.le_of_ble_eq_true rfl, Nat.le_of_ble_eq_true rfl⟩) hS (fun q _ h => hFc q h) hFc (fun H1 locs hB hz hk hS => ?_)
          obtain ⟨hP, hD⟩ := q_join (wr := [(a_t, .inr (0, [.ref a_t_entries, .ref a_t_markBits])), (a_t_entries, .inl (G.2 0, n, .inl x_t_entries)), (a_t_markBits, .inl (G.2 0, n, .inl x_t_markBits))]) (wn := (ws_Bd_countRowsNeeded G a_t a_t_entries a_t_markBits n x_t_entries x_t_markBits)) hP hD [] [0, 1, 2] [0, 1, 2] rfl rfl (by decide) (by decide) rfl (by decide) hk hFc hB.1 hB.2
          generalize H1 = H at hP hS ⊢
          replace hP : va_P G.1 vwCl (ws_Bd_countRowsNeeded G a_t a_t_entries a_t_markBits n x_t_entries x_t_markBits) H := hP
          replace hD : va_D A (ws_Bd_countRowsNeeded G a_t a_t_entries a_t_markBits n x_t_entries x_t_markBits) := hD
          refine lv_iadd hx hb d_Bd_countRowsNeeded_37 ?_
          refine lv_iadd hx hb d_Bd_countRowsNeeded_38 ?_
          refine lv_istore_n (lv' := [(1, .int (l4_1 + ((0 : Int32) + y7))), (0, .ref a_t), (2, .int l4_2)]) hx hb d_Bd_countRowsNeeded_39 rfl hl (by decide) rfl (fun ls hl => ?_)
          refine lv_iinc (v := (l4_2 + (1 : Int32))) (lv' := [(2, .int (l4_2 + (1 : Int32))), (1, .int (l4_1 + ((0 : Int32) + y7))), (0, .ref a_t)]) hx hb d_Bd_countRowsNeeded_40 hl (k := 2) rfl rfl (by decide) rfl (fun ls hl => ?_)
          refine lv_goto (tgt := 4) hx hb d_Bd_countRowsNeeded_43 (by decide) ?_
          exact ih4 (l4_1 + ((0 : Int32) + y7)) (l4_2 + (1 : Int32)) _ _ _ h hP hD hS (lv_sub hl [2, 1, 0] rfl)
  exact L4 fu (0 : Int32) (0 : Int32) _ _ _ h hP hD hS (lv_sub hl [2, 1, 0] rfl)

theorem d_Bd_textSize_0 : decode prog_2_method_7_code 0 = .ok (.aload_n 0, 1) := by decide +kernel
theorem d_Bd_textSize_1 : decode prog_2_method_7_code 1 = .ok (.getfield 15, 3) := by decide +kernel
theorem d_Bd_textSize_4 : decode prog_2_method_7_code 4 = .ok (.iload_n 1, 1) := by decide +kernel
theorem d_Bd_textSize_5 : decode prog_2_method_7_code 5 = .ok (.iaload, 1) := by decide +kernel
theorem d_Bd_textSize_6 : decode prog_2_method_7_code 6 = .ok (.invokestatic 28, 3) := by decide +kernel
theorem d_Bd_textSize_9 : decode prog_2_method_7_code 9 = .ok (.istore_n 2, 1) := by decide +kernel
theorem d_Bd_textSize_10 : decode prog_2_method_7_code 10 = .ok (.iload_n 2, 1) := by decide +kernel
theorem d_Bd_textSize_11 : decode prog_2_method_7_code 11 = .ok (.ifCond .ne 7, 3) := by decide +kernel
theorem d_Bd_textSize_14 : decode prog_2_method_7_code 14 = .ok (.iconst 1, 1) := by decide +kernel
theorem d_Bd_textSize_15 : decode prog_2_method_7_code 15 = .ok (.goto 6, 3) := by decide +kernel
theorem d_Bd_textSize_18 : decode prog_2_method_7_code 18 = .ok (.iload_n 2, 1) := by decide +kernel
theorem d_Bd_textSize_19 : decode prog_2_method_7_code 19 = .ok (.iconst 3, 1) := by decide +kernel
theorem d_Bd_textSize_20 : decode prog_2_method_7_code 20 = .ok (.iadd, 1) := by decide +kernel
theorem d_Bd_textSize_21 : decode prog_2_method_7_code 21 = .ok (.ireturn, 1) := by decide +kernel
-- PlayStates$Board.textSize(I)I 
def ws_Bd_textSize (G : gG) (a_t a_t_entries a_t_markBits : Nat) (n : Nat) (x_t_markBits : Nat → Int32) : va_W := [(a_t, .inr (0, [.ref a_t_entries, .ref a_t_markBits])), (a_t_markBits, .inl (G.2 0, n, .inl x_t_markBits))]
def f_Bd_textSize (n : Nat) (p0 : Int32) (x_t_markBits : Nat → Int32) : Option (Int32) :=
  (if inB p0 n then ((f_Jn_bitCount (x_t_markBits p0.toNatClampNeg)).bind fun y2 => (if y2 = 0 then some (1 : Int32) else some (y2 + (3 : Int32)))) else none)
set_option maxHeartbeats 4000000 in
set_option maxRecDepth 100000 in
theorem c_Bd_textSize (l : Launch) (G : gG) (sz : Nat) (a_t a_t_entries a_t_markBits : Nat) (n : Nat) (p0 : Int32) (x_t_markBits : Nat → Int32) (r : Int32) (h : f_Bd_textSize n p0 x_t_markBits = some r)  : cN l y_Bd_textSize w_Bd_textSize { frames := 1, cells := 0, slots := 0, locals := 20 } G sz [.ref a_t, .int p0] (ws_Bd_textSize G a_t a_t_entries a_t_markBits n x_t_markBits) (some (.int r)) (wB G (ws_Bd_textSize G a_t a_t_entries a_t_markBits n x_t_markBits)) 0 0 := by
  refine cN_ofW (cc := prog_2_method_7_code) (maxL := 3) (ret := (some .int)) (by decide) rfl (Nat.le_of_ble_eq_true rfl) ?_
  intro p e s m args below meth c A H locs ls hx hb hr hts hown hlocks hin hml hK hN hP hD hA hS hl
  replace hl : lv_has ls 3 [(0, .ref a_t), (1, .int p0)] := hl
  replace hown : s.vm.findClass "PlayStates$Board" = some m.cls := hown
  unfold f_Bd_textSize at h
  refine lv_aload_n hx hb d_Bd_textSize_0 rfl (lv_at hl 0 rfl) ?_
  refine va_get (D := G.1) (ci := 0) (v := .ref a_t_markBits) (C := "PlayStates$Board") (T := TBd) (N := 2) hx hb hts iw_0 hown hK hP 0 rfl rfl 1 (by decide) (hts _ gw_80) (fun _ h9 => h9) rfl d_Bd_textSize_1 ?_
  refine lv_iload_n hx hb d_Bd_textSize_4 rfl (lv_at hl 1 rfl) ?_
  obtain ⟨i1, h⟩ := o_if h
  refine va_iald (n := n) (f := x_t_markBits) hx hb hK hP 1 0 rfl rfl i1 d_Bd_textSize_5 ?_
  obtain ⟨y2, hy2, h⟩ := o_bind h
  have hPc := hP.sub (ws' := (ws_Jn_bitCount G)) [] rfl
  have hDc := hD.sub (ws' := (ws_Jn_bitCount G)) [] (by decide) rfl
  have hFc := va_free (wc := (ws_Jn_bitCount G)) hD hS hA [] rfl
  refine q_call1 (va_runS (As := [.int (x_t_markBits p0.toNatClampNeg)]) (rest := []) ⟨hx, hb, hml, hown, hts⟩ (c_Jn_bitCount l G H.size (x_t_markBits p0.toNatClampNeg) _ hy2) ⟨callB_of 1 hts (gC gw_308) rfl rfl rfl (hts _ gw_40) (hts _ gw_306) (by decide +kernel) ⟨Nat.le_of_ble_eq_true rfl, Nat.le_of_ble_eq_true rfl⟩, hts _ gw_307⟩ (pS hK hN hPc hDc) rfl rfl hl.1 rfl (lv_room (Nat.le_of_ble_eq_true rfl)) d_Bd_textSize_6 ⟨Nat.le_of_ble_eq_true rfl, Nat.le_of_ble_eq_true rfl⟩) hS (fun q _ h => hFc q h) hFc (fun H1 locs hB hz hk hS => ?_)
  obtain ⟨hP, hD⟩ := q_join (wr := [(a_t, .inr (0, [.ref a_t_entries, .ref a_t_markBits])), (a_t_markBits, .inl (G.2 0, n, .inl x_t_markBits))]) (wn := (ws_Bd_textSize G a_t a_t_entries a_t_markBits n x_t_markBits)) hP hD [] [0, 1] [0, 1] rfl rfl (by decide) (by decide) rfl (by decide) hk hFc hB.1 hB.2
  generalize H1 = H at hP hS ⊢
  replace hP : va_P G.1 vwCl (ws_Bd_textSize G a_t a_t_entries a_t_markBits n x_t_markBits) H := hP
  replace hD : va_D A (ws_Bd_textSize G a_t a_t_entries a_t_markBits n x_t_markBits) := hD
  refine lv_istore_n (lv' := [(2, .int y2), (0, .ref a_t), (1, .int p0)]) hx hb d_Bd_textSize_9 rfl hl (by decide) rfl (fun ls hl => ?_)
  refine lv_iload_n hx hb d_Bd_textSize_10 rfl (lv_at hl 0 rfl) ?_
  refine lv_if_ne (tgt := 18) hx hb d_Bd_textSize_11 (by decide) (fun c3 => ?_) (fun c3 => ?_)
  · replace h := (if_neg c3).symm.trans h
    refine lv_iload_n hx hb d_Bd_textSize_18 rfl (lv_at hl 0 rfl) ?_
    refine lv_iconst (v := (3 : Int32)) hx hb d_Bd_textSize_19 (by decide) ?_
    refine lv_iadd hx hb d_Bd_textSize_20 ?_
    cases h
    exact q_iretW hx hb hr hlocks hP hD hS d_Bd_textSize_21
  · replace h := (if_pos c3).symm.trans h
    refine lv_iconst (v := (1 : Int32)) hx hb d_Bd_textSize_14 (by decide) ?_
    refine lv_goto (tgt := 21) hx hb d_Bd_textSize_15 (by decide) ?_
    cases h
    exact q_iretW hx hb hr hlocks hP hD hS d_Bd_textSize_21

theorem d_Bd_findMark_0 : decode prog_2_method_9_code 0 = .ok (.iload_n 2, 1) := by decide +kernel
theorem d_Bd_findMark_1 : decode prog_2_method_9_code 1 = .ok (.istore_n 3, 1) := by decide +kernel
theorem d_Bd_findMark_2 : decode prog_2_method_9_code 2 = .ok (.iconst 1, 1) := by decide +kernel
theorem d_Bd_findMark_3 : decode prog_2_method_9_code 3 = .ok (.istore 4, 2) := by decide +kernel
theorem d_Bd_findMark_5 : decode prog_2_method_9_code 5 = .ok (.iload 4, 2) := by decide +kernel
theorem d_Bd_findMark_7 : decode prog_2_method_9_code 7 = .ok (.bipush 9, 2) := by decide +kernel
theorem d_Bd_findMark_9 : decode prog_2_method_9_code 9 = .ok (.if_icmp .gt 29, 3) := by decide +kernel
theorem d_Bd_findMark_12 : decode prog_2_method_9_code 12 = .ok (.aload_n 0, 1) := by decide +kernel
theorem d_Bd_findMark_13 : decode prog_2_method_9_code 13 = .ok (.iload_n 1, 1) := by decide +kernel
theorem d_Bd_findMark_14 : decode prog_2_method_9_code 14 = .ok (.iload 4, 2) := by decide +kernel
theorem d_Bd_findMark_16 : decode prog_2_method_9_code 16 = .ok (.invokevirtual 24, 3) := by decide +kernel
theorem d_Bd_findMark_19 : decode prog_2_method_9_code 19 = .ok (.ifCond .eq 13, 3) := by decide +kernel
theorem d_Bd_findMark_22 : decode prog_2_method_9_code 22 = .ok (.iload_n 3, 1) := by decide +kernel
theorem d_Bd_findMark_23 : decode prog_2_method_9_code 23 = .ok (.ifCond .ne 6, 3) := by decide +kernel
theorem d_Bd_findMark_26 : decode prog_2_method_9_code 26 = .ok (.iload 4, 2) := by decide +kernel
theorem d_Bd_findMark_28 : decode prog_2_method_9_code 28 = .ok (.ireturn, 1) := by decide +kernel
theorem d_Bd_findMark_29 : decode prog_2_method_9_code 29 = .ok (.iinc 3 (-1), 3) := by decide +kernel
theorem d_Bd_findMark_32 : decode prog_2_method_9_code 32 = .ok (.iinc 4 1, 3) := by decide +kernel
theorem d_Bd_findMark_35 : decode prog_2_method_9_code 35 = .ok (.goto (-30), 3) := by decide +kernel
theorem d_Bd_findMark_38 : decode prog_2_method_9_code 38 = .ok (.iconst 0, 1) := by decide +kernel
theorem d_Bd_findMark_39 : decode prog_2_method_9_code 39 = .ok (.ireturn, 1) := by decide +kernel
-- PlayStates$Board.findMark(II)I 
def ws_Bd_findMark (G : gG) (a_t a_t_entries a_t_markBits : Nat) (n : Nat) (x_t_markBits : Nat → Int32) : va_W := [(a_t, .inr (0, [.ref a_t_entries, .ref a_t_markBits])), (a_t_markBits, .inl (G.2 0, n, .inl x_t_markBits))]
def fb_Bd_findMark_L5 (fu : Nat) (n : Nat) (x_t_markBits : Nat → Int32)  (k5 : (Int32 → Int32 → Int32 → Int32 → Option (Int32))) (l5_1 : Int32) (l5_2 : Int32) (l5_3 : Int32) (l5_4 : Int32) : Option (Int32) :=
  (if (9 : Int32) < l5_4 then some (0 : Int32) else ((f_Bd_hasMark n l5_1 l5_4 x_t_markBits).bind fun y2 => (if y2 = 0 then (k5 l5_1 l5_2 l5_3 (l5_4 + (1 : Int32))) else (if l5_3 = 0 then some l5_4 else (k5 l5_1 l5_2 (l5_3 + (-1 : Int32)) (l5_4 + (1 : Int32)))))))
def f_Bd_findMark_L5 (fu : Nat) (n : Nat) (x_t_markBits : Nat → Int32)  : Nat → Int32 → Int32 → Int32 → Int32 → Option (Int32)
  | 0 => fun _ _ _ _ => none
  | k9 + 1 => fb_Bd_findMark_L5 fu n x_t_markBits (f_Bd_findMark_L5 fu n x_t_markBits k9)
def f_Bd_findMark (fu : Nat) (n : Nat) (p0 : Int32) (p1 : Int32) (x_t_markBits : Nat → Int32) : Option (Int32) :=
  (f_Bd_findMark_L5 fu n x_t_markBits fu p0 p1 p1 (1 : Int32))
set_option maxHeartbeats 4000000 in
set_option maxRecDepth 100000 in
theorem c_Bd_findMark (l : Launch) (G : gG) (sz : Nat) (a_t a_t_entries a_t_markBits : Nat) (fu : Nat) (n : Nat) (p0 : Int32) (p1 : Int32) (x_t_markBits : Nat → Int32) (r : Int32) (h : f_Bd_findMark fu n p0 p1 x_t_markBits = some r)  : cN l y_Bd_findMark w_Bd_findMark { frames := 1, cells := 0, slots := 0, locals := 22 } G sz [.ref a_t, .int p0, .int p1] (ws_Bd_findMark G a_t a_t_entries a_t_markBits n x_t_markBits) (some (.int r)) (wB G (ws_Bd_findMark G a_t a_t_entries a_t_markBits n x_t_markBits)) 0 0 := by
  refine cN_ofW (cc := prog_2_method_9_code) (maxL := 5) (ret := (some .int)) (by decide) rfl (Nat.le_of_ble_eq_true rfl) ?_
  intro p e s m args below meth c A H locs ls hx hb hr hts hown hlocks hin hml hK hN hP hD hA hS hl
  replace hl : lv_has ls 5 [(0, .ref a_t), (1, .int p0), (2, .int p1)] := hl
  replace hown : s.vm.findClass "PlayStates$Board" = some m.cls := hown
  unfold f_Bd_findMark at h
  refine lv_iload_n hx hb d_Bd_findMark_0 rfl (lv_at hl 2 rfl) ?_
  refine lv_istore_n (lv' := [(3, .int p1), (0, .ref a_t), (1, .int p0), (2, .int p1)]) hx hb d_Bd_findMark_1 rfl hl (by decide) rfl (fun ls hl => ?_)
  refine lv_iconst (v := (1 : Int32)) hx hb d_Bd_findMark_2 (by decide) ?_
  refine lv_istore (lv' := [(4, .int (1 : Int32)), (3, .int p1), (0, .ref a_t), (1, .int p0), (2, .int p1)]) hx hb d_Bd_findMark_3 hl (by decide) rfl (fun ls hl => ?_)
  have L5 : ∀ (nf : Nat) (l5_1 : Int32) (l5_2 : Int32) (l5_3 : Int32) (l5_4 : Int32) (H : Heap) (locs : List Loc) (ls : Array Slot), f_Bd_findMark_L5 fu n x_t_markBits nf l5_1 l5_2 l5_3 l5_4 = some r → va_P G.1 vwCl (ws_Bd_findMark G a_t a_t_entries a_t_markBits n x_t_markBits) H → va_D A (ws_Bd_findMark G a_t a_t_entries a_t_markBits n x_t_markBits) → va_S A s.heap H locs → lv_has ls 5 [(0, .ref a_t), (1, .int l5_1), (2, .int l5_2), (3, .int l5_3), (4, .int l5_4)] → W p l e { frames := 1, cells := 0, slots := 0, locals := 22 } s m args below meth c H locs 0 0 (MQ below (qQ (some (.int r)) (wB G (ws_Bd_findMark G a_t a_t_entries a_t_markBits n x_t_markBits) A) A) args s 0 0 A) (F0 m 5 ls []) := by
    clear h hP hD hS hl
    intro n5
    induction n5 with
    | zero => intro _ _ _ _ H locs ls h; exact nomatch (show none = some _ from h)
    | succ n5 ih5 =>
      intro l5_1 l5_2 l5_3 l5_4 H locs ls h hP hD hS hl
      replace h : fb_Bd_findMark_L5 fu n x_t_markBits (f_Bd_findMark_L5 fu n x_t_markBits n5) l5_1 l5_2 l5_3 l5_4 = some r := h
      unfold fb_Bd_findMark_L5 at h
      refine lv_iload hx hb d_Bd_findMark_5 (lv_at hl 4 rfl) ?_
      refine lv_bipush (v := (9 : Int32)) hx hb d_Bd_findMark_7 (by decide) ?_
      refine lv_icmp_gt (tgt := 38) hx hb d_Bd_findMark_9 (by decide) (fun c1 => ?_) (fun c1 => ?_)
      · replace h := (if_pos c1).symm.trans h
        refine lv_iconst (v := (0 : Int32)) hx hb d_Bd_findMark_38 (by decide) ?_
        cases h
        exact q_iretW hx hb hr hlocks hP hD hS d_Bd_findMark_39
      · replace h := (if_neg c1).symm.trans h
        refine lv_aload_n hx hb d_Bd_findMark_12 rfl (lv_at hl 0 rfl) ?_
        refine lv_iload_n hx hb d_Bd_findMark_13 rfl (lv_at hl 1 rfl) ?_
        refine lv_iload hx hb d_Bd_findMark_14 (lv_at hl 4 rfl) ?_
        obtain ⟨y2, hy2, h⟩ := o_bind h
        have hPc := hP.sub (ws' := (ws_Bd_hasMark G a_t a_t_entries a_t_markBits n x_t_markBits)) [0, 1] rfl
        have hDc := hD.sub (ws' := (ws_Bd_hasMark G a_t a_t_entries a_t_markBits n x_t_markBits)) [0, 1] (by decide) rfl
        have hFc := va_free (wc := (ws_Bd_hasMark G a_t a_t_entries a_t_markBits n x_t_markBits)) hD hS hA [0, 1] rfl
        refine q_call1 (va_runV (As := [.int l5_1, .int l5_4]) (rest := []) ⟨hx, hb, hml, hown, hts⟩ (c_Bd_hasMark l G H.size a_t a_t_entries a_t_markBits n l5_1 l5_4 x_t_markBits _ hy2) (cwV 2 hts (gV gw_179 gw_180 gw_181 gw_34 gw_182) rfl rfl rfl (by decide +kernel) ⟨Nat.le_of_ble_eq_true rfl, Nat.le_of_ble_eq_true rfl⟩) (pV hK hN hPc hDc (ci := 0) (q0 := 0) rfl rfl) rfl rfl hl.1 rfl (lv_room (Nat.le_of_ble_eq_true rfl)) d_Bd_findMark_16 ⟨Nat.le_of_ble_eq_true rfl, Nat.le_of_ble_eq_true rfl⟩) hS (fun q _ h => hFc q h) hFc (fun H1 locs hB hz hk hS => ?_)
        obtain ⟨hP, hD⟩ := q_joinA hFc hB.1 hB.2
        generalize H1 = H at hP hS ⊢
        replace hP : va_P G.1 vwCl (ws_Bd_findMark G a_t a_t_entries a_t_markBits n x_t_markBits) H := hP
        replace hD : va_D A (ws_Bd_findMark G a_t a_t_entries a_t_markBits n x_t_markBits) := hD
        refine lv_if_eq (tgt := 32) hx hb d_Bd_findMark_19 (by decide) (fun c3 => ?_) (fun c3 => ?_)
        · replace h := (if_pos c3).symm.trans h
          refine lv_iinc (v := (l5_4 + (1 : Int32))) (lv' := [(4, .int (l5_4 + (1 : Int32))), (0, .ref a_t), (1, .int l5_1), (2, .int l5_2), (3, .int l5_3)]) hx hb d_Bd_findMark_32 hl (k := 4) rfl rfl (by decide) rfl (fun ls hl => ?_)
          refine lv_goto (tgt := 5) hx hb d_Bd_findMark_35 (by decide) ?_
          exact ih5 l5_1 l5_2 l5_3 (l5_4 + (1 : Int32)) _ _ _ h hP hD hS (lv_sub hl [1, 2, 3, 4, 0] rfl)
        · replace h := (if_neg c3).symm.trans h
          refine lv_iload_n hx hb d_Bd_findMark_22 rfl (lv_at hl 3 rfl) ?_
          refine lv_if_ne (tgt := 29) hx hb d_Bd_findMark_23 (by decide) (fun c4 => ?_) (fun c4 => ?_)
          · replace h := (if_neg c4).symm.trans h
            refine lv_iinc (v := (l5_3 + (-1 : Int32))) (lv' := [(3, .int (l5_3 + (-1 : Int32))), (0, .ref a_t), (1, .int l5_1), (2, .int l5_2), (4, .int l5_4)]) hx hb d_Bd_findMark_29 hl (k := 3) rfl rfl (by decide) rfl (fun ls hl => ?_)
            refine lv_iinc (v := (l5_4 + (1 : Int32))) (lv' := [(4, .int (l5_4 + (1 : Int32))), (3, .int (l5_3 + (-1 : Int32))), (0, .ref a_t), (1, .int l5_1), (2, .int l5_2)]) hx hb d_Bd_findMark_32 hl (k := 4) rfl rfl (by decide) rfl (fun ls hl => ?_)
            refine lv_goto (tgt := 5) hx hb d_Bd_findMark_35 (by decide) ?_
            exact ih5 l5_1 l5_2 (l5_3 + (-1 : Int32)) (l5_4 + (1 : Int32)) _ _ _ h hP hD hS (lv_sub hl [2, 3, 4, 1, 0] rfl)
          · replace h := (if_pos c4).symm.trans h
            refine lv_iload hx hb d_Bd_findMark_26 (lv_at hl 4 rfl) ?_
            cases h
            exact q_iretW hx hb hr hlocks hP hD hS d_Bd_findMark_28
  exact L5 fu p0 p1 p1 (1 : Int32) _ _ _ h hP hD hS (lv_sub hl [2, 3, 4, 1, 0] rfl)

theorem gw_305 : (.code ⟨"PlayStates$Board", "textSize", "(I)I"⟩ prog_2_method_7_code 3 (some .int) : Cond) ∈ GW := gT 335 (by decide +kernel) (by decide +kernel)
theorem gw_316 : (.methodLink "PlayStates$Board" 34 ⟨"PlayStates$Board", "textSize", "(I)I"⟩ : Cond) ∈ GW := gT 346 (by decide +kernel) (by decide +kernel)
theorem gw_303 : (.instanceMethod ⟨"PlayStates$Board", "textSize", "(I)I"⟩ : Cond) ∈ GW := gT 333 (by decide +kernel) (by decide +kernel)
theorem gw_304 : (.selects "PlayStates$Board" ⟨"PlayStates$Board", "textSize", "(I)I"⟩ ⟨"PlayStates$Board", "textSize", "(I)I"⟩ : Cond) ∈ GW := gT 334 (by decide +kernel) (by decide +kernel)
theorem gw_319 : (.code ⟨"PlayStates$Board", "findMark", "(II)I"⟩ prog_2_method_9_code 5 (some .int) : Cond) ∈ GW := gT 350 (by decide +kernel) (by decide +kernel)
theorem gw_317 : (.methodLink "PlayStates$Board" 37 ⟨"PlayStates$Board", "findMark", "(II)I"⟩ : Cond) ∈ GW := gT 347 (by decide +kernel) (by decide +kernel)
theorem gw_318 : (.instanceMethod ⟨"PlayStates$Board", "findMark", "(II)I"⟩ : Cond) ∈ GW := gT 349 (by decide +kernel) (by decide +kernel)
theorem gw_9 : (.selects "PlayStates$Board" ⟨"PlayStates$Board", "findMark", "(II)I"⟩ ⟨"PlayStates$Board", "findMark", "(II)I"⟩ : Cond) ∈ GW := gP 9 (by decide +kernel) (by decide +kernel)
theorem d_Bd_textByte_0 : decode prog_2_method_8_code 0 = .ok (.iload_n 2, 1) := by decide +kernel
theorem d_Bd_textByte_1 : decode prog_2_method_8_code 1 = .ok (.ifCond .ne 27, 3) := by decide +kernel
theorem d_Bd_textByte_4 : decode prog_2_method_8_code 4 = .ok (.aload_n 0, 1) := by decide +kernel
theorem d_Bd_textByte_5 : decode prog_2_method_8_code 5 = .ok (.getfield 9, 3) := by decide +kernel
theorem d_Bd_textByte_8 : decode prog_2_method_8_code 8 = .ok (.iload_n 1, 1) := by decide +kernel
theorem d_Bd_textByte_9 : decode prog_2_method_8_code 9 = .ok (.iaload, 1) := by decide +kernel
theorem d_Bd_textByte_10 : decode prog_2_method_8_code 10 = .ok (.ifCond .ne 8, 3) := by decide +kernel
theorem d_Bd_textByte_13 : decode prog_2_method_8_code 13 = .ok (.bipush 46, 2) := by decide +kernel
theorem d_Bd_textByte_15 : decode prog_2_method_8_code 15 = .ok (.goto 12, 3) := by decide +kernel
theorem d_Bd_textByte_18 : decode prog_2_method_8_code 18 = .ok (.bipush 48, 2) := by decide +kernel
theorem d_Bd_textByte_20 : decode prog_2_method_8_code 20 = .ok (.aload_n 0, 1) := by decide +kernel
theorem d_Bd_textByte_21 : decode prog_2_method_8_code 21 = .ok (.getfield 9, 3) := by decide +kernel
theorem d_Bd_textByte_24 : decode prog_2_method_8_code 24 = .ok (.iload_n 1, 1) := by decide +kernel
theorem d_Bd_textByte_25 : decode prog_2_method_8_code 25 = .ok (.iaload, 1) := by decide +kernel
theorem d_Bd_textByte_26 : decode prog_2_method_8_code 26 = .ok (.iadd, 1) := by decide +kernel
theorem d_Bd_textByte_27 : decode prog_2_method_8_code 27 = .ok (.ireturn, 1) := by decide +kernel
theorem d_Bd_textByte_28 : decode prog_2_method_8_code 28 = .ok (.iload_n 2, 1) := by decide +kernel
theorem d_Bd_textByte_29 : decode prog_2_method_8_code 29 = .ok (.iconst 1, 1) := by decide +kernel
theorem d_Bd_textByte_30 : decode prog_2_method_8_code 30 = .ok (.if_icmp .ne 6, 3) := by decide +kernel
theorem d_Bd_textByte_33 : decode prog_2_method_8_code 33 = .ok (.bipush 40, 2) := by decide +kernel
theorem d_Bd_textByte_35 : decode prog_2_method_8_code 35 = .ok (.ireturn, 1) := by decide +kernel
theorem d_Bd_textByte_36 : decode prog_2_method_8_code 36 = .ok (.iload_n 2, 1) := by decide +kernel
theorem d_Bd_textByte_37 : decode prog_2_method_8_code 37 = .ok (.aload_n 0, 1) := by decide +kernel
theorem d_Bd_textByte_38 : decode prog_2_method_8_code 38 = .ok (.iload_n 1, 1) := by decide +kernel
theorem d_Bd_textByte_39 : decode prog_2_method_8_code 39 = .ok (.invokevirtual 34, 3) := by decide +kernel
theorem d_Bd_textByte_42 : decode prog_2_method_8_code 42 = .ok (.iconst 1, 1) := by decide +kernel
theorem d_Bd_textByte_43 : decode prog_2_method_8_code 43 = .ok (.isub, 1) := by decide +kernel
theorem d_Bd_textByte_44 : decode prog_2_method_8_code 44 = .ok (.if_icmp .ne 8, 3) := by decide +kernel
theorem d_Bd_textByte_47 : decode prog_2_method_8_code 47 = .ok (.bipush 41, 2) := by decide +kernel
theorem d_Bd_textByte_49 : decode prog_2_method_8_code 49 = .ok (.goto 14, 3) := by decide +kernel
theorem d_Bd_textByte_52 : decode prog_2_method_8_code 52 = .ok (.bipush 48, 2) := by decide +kernel
theorem d_Bd_textByte_54 : decode prog_2_method_8_code 54 = .ok (.aload_n 0, 1) := by decide +kernel
theorem d_Bd_textByte_55 : decode prog_2_method_8_code 55 = .ok (.iload_n 1, 1) := by decide +kernel
theorem d_Bd_textByte_56 : decode prog_2_method_8_code 56 = .ok (.iload_n 2, 1) := by decide +kernel
theorem d_Bd_textByte_57 : decode prog_2_method_8_code 57 = .ok (.iconst 2, 1) := by decide +kernel
theorem d_Bd_textByte_58 : decode prog_2_method_8_code 58 = .ok (.isub, 1) := by decide +kernel
theorem d_Bd_textByte_59 : decode prog_2_method_8_code 59 = .ok (.invokevirtual 37, 3) := by decide +kernel
theorem d_Bd_textByte_62 : decode prog_2_method_8_code 62 = .ok (.iadd, 1) := by decide +kernel
theorem d_Bd_textByte_63 : decode prog_2_method_8_code 63 = .ok (.ireturn, 1) := by decide +kernel
-- PlayStates$Board.textByte(II)I 
def ws_Bd_textByte (G : gG) (a_t a_t_entries a_t_markBits : Nat) (n : Nat) (x_t_entries : Nat → Int32) (x_t_markBits : Nat → Int32) : va_W := [(a_t, .inr (0, [.ref a_t_entries, .ref a_t_markBits])), (a_t_entries, .inl (G.2 0, n, .inl x_t_entries)), (a_t_markBits, .inl (G.2 0, n, .inl x_t_markBits))]
def f_Bd_textByte (fu : Nat) (n : Nat) (p0 : Int32) (p1 : Int32) (x_t_entries : Nat → Int32) (x_t_markBits : Nat → Int32) : Option (Int32) :=
  (if p1 = 0 then (if inB p0 n then (if (x_t_entries p0.toNatClampNeg) = 0 then some (46 : Int32) else (if inB p0 n then some ((48 : Int32) + (x_t_entries p0.toNatClampNeg)) else none)) else none) else (if p1 = (1 : Int32) then some (40 : Int32) else ((f_Bd_textSize n p0 x_t_markBits).bind fun y3 => (if p1 = (y3 - (1 : Int32)) then some (41 : Int32) else ((f_Bd_findMark fu n p0 (p1 - (2 : Int32)) x_t_markBits).bind fun y5 => some ((48 : Int32) + y5))))))
set_option maxHeartbeats 4000000 in
set_option maxRecDepth 100000 in
theorem c_Bd_textByte (l : Launch) (G : gG) (sz : Nat) (a_t a_t_entries a_t_markBits : Nat) (fu : Nat) (n : Nat) (p0 : Int32) (p1 : Int32) (x_t_entries : Nat → Int32) (x_t_markBits : Nat → Int32) (r : Int32) (h : f_Bd_textByte fu n p0 p1 x_t_entries x_t_markBits = some r)  : cN l y_Bd_textByte w_Bd_textByte { frames := 2, cells := 0, slots := 0, locals := 46 } G sz [.ref a_t, .int p0, .int p1] (ws_Bd_textByte G a_t a_t_entries a_t_markBits n x_t_entries x_t_markBits) (some (.int r)) (wB G (ws_Bd_textByte G a_t a_t_entries a_t_markBits n x_t_entries x_t_markBits)) 0 0 := by
  refine cN_ofW (cc := prog_2_method_8_code) (maxL := 3) (ret := (some .int)) (by decide) rfl (Nat.le_of_ble_eq_true rfl) ?_
  intro p e s m args below meth c A H locs ls hx hb hr hts hown hlocks hin hml hK hN hP hD hA hS hl
  replace hl : lv_has ls 3 [(0, .ref a_t), (1, .int p0), (2, .int p1)] := hl
  replace hown : s.vm.findClass "PlayStates$Board" = some m.cls := hown
  unfold f_Bd_textByte at h
  refine lv_iload_n hx hb d_Bd_textByte_0 rfl (lv_at hl 2 rfl) ?_
  refine lv_if_ne (tgt := 28) hx hb d_Bd_textByte_1 (by decide) (fun c1 => ?_) (fun c1 => ?_)
  · replace h := (if_neg c1).symm.trans h
    refine lv_iload_n hx hb d_Bd_textByte_28 rfl (lv_at hl 2 rfl) ?_
    refine lv_iconst (v := (1 : Int32)) hx hb d_Bd_textByte_29 (by decide) ?_
    refine lv_icmp_ne (tgt := 36) hx hb d_Bd_textByte_30 (by decide) (fun c2 => ?_) (fun c2 => ?_)
    · replace h := (if_neg c2).symm.trans h
      refine lv_iload_n hx hb d_Bd_textByte_36 rfl (lv_at hl 2 rfl) ?_
      refine lv_aload_n hx hb d_Bd_textByte_37 rfl (lv_at hl 0 rfl) ?_
      refine lv_iload_n hx hb d_Bd_textByte_38 rfl (lv_at hl 1 rfl) ?_
      obtain ⟨y3, hy3, h⟩ := o_bind h
      have hPc := hP.sub (ws' := (ws_Bd_textSize G a_t a_t_entries a_t_markBits n x_t_markBits)) [0, 2] rfl
      have hDc := hD.sub (ws' := (ws_Bd_textSize G a_t a_t_entries a_t_markBits n x_t_markBits)) [0, 2] (by decide) rfl
      have hFc := va_free (wc := (ws_Bd_textSize G a_t a_t_entries a_t_markBits n x_t_markBits)) hD hS hA [0, 2] rfl
      refine q_call1 (va_runV (As := [.int p0]) (rest := [.int p1]) ⟨hx, hb, hml, hown, hts⟩ (c_Bd_textSize l G H.size a_t a_t_entries a_t_markBits n p0 x_t_markBits _ hy3) (cwV 1 hts (gV gw_316 gw_303 gw_304 gw_34 gw_305) rfl rfl rfl (by decide +kernel) ⟨Nat.le_of_ble_eq_true rfl, Nat.le_of_ble_eq_true rfl⟩) (pV hK hN hPc hDc (ci := 0) (q0 := 0) rfl rfl) rfl rfl hl.1 rfl (lv_room (Nat.le_of_ble_eq_true rfl)) d_Bd_textByte_39 ⟨Nat.le_of_ble_eq_true rfl, Nat.le_of_ble_eq_true rfl⟩) hS (fun q _ h => hFc q h) hFc (fun H1 locs hB hz hk hS => ?_)
      obtain ⟨hP, hD⟩ := q_join (wr := [(a_t_entries, .inl (G.2 0, n, .inl x_t_entries))]) (wn := (ws_Bd_textByte G a_t a_t_entries a_t_markBits n x_t_entries x_t_markBits)) hP hD [0, 2] [1] [1, 0, 2] rfl rfl (by decide) (by decide) rfl (by decide) hk hFc hB.1 hB.2
      generalize H1 = H at hP hS ⊢
      replace hP : va_P G.1 vwCl (ws_Bd_textByte G a_t a_t_entries a_t_markBits n x_t_entries x_t_markBits) H := hP
      replace hD : va_D A (ws_Bd_textByte G a_t a_t_entries a_t_markBits n x_t_entries x_t_markBits) := hD
      refine lv_iconst (v := (1 : Int32)) hx hb d_Bd_textByte_42 (by decide) ?_
      refine lv_isub hx hb d_Bd_textByte_43 ?_
      refine lv_icmp_ne (tgt := 52) hx hb d_Bd_textByte_44 (by decide) (fun c4 => ?_) (fun c4 => ?_)
      · replace h := (if_neg c4).symm.trans h
        refine lv_bipush (v := (48 : Int32)) hx hb d_Bd_textByte_52 (by decide) ?_
        refine lv_aload_n hx hb d_Bd_textByte_54 rfl (lv_at hl 0 rfl) ?_
        refine lv_iload_n hx hb d_Bd_textByte_55 rfl (lv_at hl 1 rfl) ?_
        refine lv_iload_n hx hb d_Bd_textByte_56 rfl (lv_at hl 2 rfl) ?_
        refine lv_iconst (v := (2 : Int32)) hx hb d_Bd_textByte_57 (by decide) ?_
        refine lv_isub hx hb d_Bd_textByte_58 ?_
        obtain ⟨y5, hy5, h⟩ := o_bind h
        have hPc := hP.sub (ws' := (ws_Bd_findMark G a_t a_t_entries a_t_markBits n x_t_markBits)) [0, 2] rfl
        have hDc := hD.sub (ws' := (ws_Bd_findMark G a_t a_t_entries a_t_markBits n x_t_markBits)) [0, 2] (by decide) rfl
        have hFc := va_free (wc := (ws_Bd_findMark G a_t a_t_entries a_t_markBits n x_t_markBits)) hD hS hA [0, 2] rfl
        refine q_call1 (va_runV (As := [.int p0, .int (p1 - (2 : Int32))]) (rest := [.int (48 : Int32)]) ⟨hx, hb, hml, hown, hts⟩ (c_Bd_findMark l G H.size a_t a_t_entries a_t_markBits fu n p0 (p1 - (2 : Int32)) x_t_markBits _ hy5) (cwV 2 hts (gV gw_317 gw_318 gw_9 gw_34 gw_319) rfl rfl rfl (by decide +kernel) ⟨Nat.le_of_ble_eq_true rfl, Nat.le_of_ble_eq_true rfl⟩) (pV hK hN hPc hDc (ci := 0) (q0 := 0) rfl rfl) rfl rfl hl.1 rfl (lv_room (Nat.le_of_ble_eq_true rfl)) d_Bd_textByte_59 ⟨Nat.le_of_ble_eq_true rfl, Nat.le_of_ble_eq_true rfl⟩) hS (fun q _ h => hFc q h) hFc (fun H1 locs hB hz hk hS => ?_)
        obtain ⟨hP, hD⟩ := q_join (wr := [(a_t_entries, .inl (G.2 0, n, .inl x_t_entries))]) (wn := (ws_Bd_textByte G a_t a_t_entries a_t_markBits n x_t_entries x_t_markBits)) hP hD [0, 2] [1] [1, 0, 2] rfl rfl (by decide) (by decide) rfl (by decide) hk hFc hB.1 hB.2
        generalize H1 = H at hP hS ⊢
        replace hP : va_P G.1 vwCl (ws_Bd_textByte G a_t a_t_entries a_t_markBits n x_t_entries x_t_markBits) H := hP
        replace hD : va_D A (ws_Bd_textByte G a_t a_t_entries a_t_markBits n x_t_entries x_t_markBits) := hD
        refine lv_iadd hx hb d_Bd_textByte_62 ?_
        cases h
        exact q_iretW hx hb hr hlocks hP hD hS d_Bd_textByte_63
      · replace h := (if_pos c4).symm.trans h
        refine lv_bipush (v := (41 : Int32)) hx hb d_Bd_textByte_47 (by decide) ?_
        refine lv_goto (tgt := 63) hx hb d_Bd_textByte_49 (by decide) ?_
        cases h
        exact q_iretW hx hb hr hlocks hP hD hS d_Bd_textByte_63
    · replace h := (if_pos c2).symm.trans h
      refine lv_bipush (v := (40 : Int32)) hx hb d_Bd_textByte_33 (by decide) ?_
      cases h
      exact q_iretW hx hb hr hlocks hP hD hS d_Bd_textByte_35
  · replace h := (if_pos c1).symm.trans h
    refine lv_aload_n hx hb d_Bd_textByte_4 rfl (lv_at hl 0 rfl) ?_
    refine va_get (D := G.1) (ci := 0) (v := .ref a_t_entries) (C := "PlayStates$Board") (T := TBd) (N := 2) hx hb hts iw_0 hown hK hP 0 rfl rfl 0 (by decide) (hts _ gw_79) (fun _ h9 => h9) rfl d_Bd_textByte_5 ?_
    refine lv_iload_n hx hb d_Bd_textByte_8 rfl (lv_at hl 1 rfl) ?_
    obtain ⟨i6, h⟩ := o_if h
    refine va_iald (n := n) (f := x_t_entries) hx hb hK hP 1 0 rfl rfl i6 d_Bd_textByte_9 ?_
    refine lv_if_ne (tgt := 18) hx hb d_Bd_textByte_10 (by decide) (fun c7 => ?_) (fun c7 => ?_)
    · replace h := (if_neg c7).symm.trans h
      refine lv_bipush (v := (48 : Int32)) hx hb d_Bd_textByte_18 (by decide) ?_
      refine lv_aload_n hx hb d_Bd_textByte_20 rfl (lv_at hl 0 rfl) ?_
      refine va_get (D := G.1) (ci := 0) (v := .ref a_t_entries) (C := "PlayStates$Board") (T := TBd) (N := 2) hx hb hts iw_0 hown hK hP 0 rfl rfl 0 (by decide) (hts _ gw_79) (fun _ h9 => h9) rfl d_Bd_textByte_21 ?_
      refine lv_iload_n hx hb d_Bd_textByte_24 rfl (lv_at hl 1 rfl) ?_
      obtain ⟨i8, h⟩ := o_if h
      refine va_iald (n := n) (f := x_t_entries) hx hb hK hP 1 0 rfl rfl i8 d_Bd_textByte_25 ?_
      refine lv_iadd hx hb d_Bd_textByte_26 ?_
      cases h
      exact q_iretW hx hb hr hlocks hP hD hS d_Bd_textByte_27
    · replace h := (if_pos c7).symm.trans h
      refine lv_bipush (v := (46 : Int32)) hx hb d_Bd_textByte_13 (by decide) ?_
      refine lv_goto (tgt := 27) hx hb d_Bd_textByte_15 (by decide) ?_
      cases h
      exact q_iretW hx hb hr hlocks hP hD hS d_Bd_textByte_27
