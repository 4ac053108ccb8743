theorem gw_526 : (.code ⟨"PlayStatesModel", "say", "(I)V"⟩ prog_8_method_28_code 2 none : Cond) ∈ GW := gT 601 (by decide +kernel) (by decide +kernel)
theorem gw_524 : (.methodLink "PlayStatesModel" 125 ⟨"PlayStatesModel", "say", "(I)V"⟩ : Cond) ∈ GW := gT 598 (by decide +kernel) (by decide +kernel)
theorem gw_525 : (.instanceMethod ⟨"PlayStatesModel", "say", "(I)V"⟩ : Cond) ∈ GW := gT 600 (by decide +kernel) (by decide +kernel)
theorem gw_26 : (.selects "PlayStatesModel" ⟨"PlayStatesModel", "say", "(I)V"⟩ ⟨"PlayStatesModel", "say", "(I)V"⟩ : Cond) ∈ GW := gP 26 (by decide +kernel) (by decide +kernel)
theorem d_Md_save_0 : decode prog_8_method_29_code 0 = .ok (.aload_n 0, 1) := by decide +kernel
theorem d_Md_save_1 : decode prog_8_method_29_code 1 = .ok (.iconst 0, 1) := by decide +kernel
theorem d_Md_save_2 : decode prog_8_method_29_code 2 = .ok (.putfield 69, 3) := by decide +kernel
theorem d_Md_save_5 : decode prog_8_method_29_code 5 = .ok (.aload_n 0, 1) := by decide +kernel
theorem d_Md_save_6 : decode prog_8_method_29_code 6 = .ok (.iload_n 1, 1) := by decide +kernel
theorem d_Md_save_7 : decode prog_8_method_29_code 7 = .ok (.invokevirtual 86, 3) := by decide +kernel
theorem d_Md_save_10 : decode prog_8_method_29_code 10 = .ok (.ifCond .ne 5, 3) := by decide +kernel
theorem d_Md_save_13 : decode prog_8_method_29_code 13 = .ok (.iconst (-1), 1) := by decide +kernel
theorem d_Md_save_14 : decode prog_8_method_29_code 14 = .ok (.ireturn, 1) := by decide +kernel
theorem d_Md_save_15 : decode prog_8_method_29_code 15 = .ok (.aload_n 0, 1) := by decide +kernel
theorem d_Md_save_16 : decode prog_8_method_29_code 16 = .ok (.iconst 0, 1) := by decide +kernel
theorem d_Md_save_17 : decode prog_8_method_29_code 17 = .ok (.putfield 116, 3) := by decide +kernel
theorem d_Md_save_20 : decode prog_8_method_29_code 20 = .ok (.aload_n 0, 1) := by decide +kernel
theorem d_Md_save_21 : decode prog_8_method_29_code 21 = .ok (.iload_n 2, 1) := by decide +kernel
theorem d_Md_save_22 : decode prog_8_method_29_code 22 = .ok (.putfield 119, 3) := by decide +kernel
theorem d_Md_save_25 : decode prog_8_method_29_code 25 = .ok (.aload_n 0, 1) := by decide +kernel
theorem d_Md_save_26 : decode prog_8_method_29_code 26 = .ok (.iconst (-1), 1) := by decide +kernel
theorem d_Md_save_27 : decode prog_8_method_29_code 27 = .ok (.putfield 122, 3) := by decide +kernel
theorem d_Md_save_30 : decode prog_8_method_29_code 30 = .ok (.iconst 0, 1) := by decide +kernel
theorem d_Md_save_31 : decode prog_8_method_29_code 31 = .ok (.istore_n 3, 1) := by decide +kernel
theorem d_Md_save_32 : decode prog_8_method_29_code 32 = .ok (.iload_n 3, 1) := by decide +kernel
theorem d_Md_save_33 : decode prog_8_method_29_code 33 = .ok (.aload_n 0, 1) := by decide +kernel
theorem d_Md_save_34 : decode prog_8_method_29_code 34 = .ok (.getfield 63, 3) := by decide +kernel
theorem d_Md_save_37 : decode prog_8_method_29_code 37 = .ok (.if_icmp .ge 110, 3) := by decide +kernel
theorem d_Md_save_40 : decode prog_8_method_29_code 40 = .ok (.aload_n 0, 1) := by decide +kernel
theorem d_Md_save_41 : decode prog_8_method_29_code 41 = .ok (.getfield 13, 3) := by decide +kernel
theorem d_Md_save_44 : decode prog_8_method_29_code 44 = .ok (.bipush 81, 2) := by decide +kernel
theorem d_Md_save_46 : decode prog_8_method_29_code 46 = .ok (.iload_n 1, 1) := by decide +kernel
theorem d_Md_save_47 : decode prog_8_method_29_code 47 = .ok (.imul, 1) := by decide +kernel
theorem d_Md_save_48 : decode prog_8_method_29_code 48 = .ok (.iload_n 3, 1) := by decide +kernel
theorem d_Md_save_49 : decode prog_8_method_29_code 49 = .ok (.iadd, 1) := by decide +kernel
theorem d_Md_save_50 : decode prog_8_method_29_code 50 = .ok (.iaload, 1) := by decide +kernel
theorem d_Md_save_51 : decode prog_8_method_29_code 51 = .ok (.istore 4, 2) := by decide +kernel
theorem d_Md_save_53 : decode prog_8_method_29_code 53 = .ok (.aload_n 0, 1) := by decide +kernel
theorem d_Md_save_54 : decode prog_8_method_29_code 54 = .ok (.getfield 16, 3) := by decide +kernel
theorem d_Md_save_57 : decode prog_8_method_29_code 57 = .ok (.bipush 81, 2) := by decide +kernel
theorem d_Md_save_59 : decode prog_8_method_29_code 59 = .ok (.iload_n 1, 1) := by decide +kernel
theorem d_Md_save_60 : decode prog_8_method_29_code 60 = .ok (.imul, 1) := by decide +kernel
theorem d_Md_save_61 : decode prog_8_method_29_code 61 = .ok (.iload_n 3, 1) := by decide +kernel
theorem d_Md_save_62 : decode prog_8_method_29_code 62 = .ok (.iadd, 1) := by decide +kernel
theorem d_Md_save_63 : decode prog_8_method_29_code 63 = .ok (.iaload, 1) := by decide +kernel
theorem d_Md_save_64 : decode prog_8_method_29_code 64 = .ok (.istore 5, 2) := by decide +kernel
theorem d_Md_save_66 : decode prog_8_method_29_code 66 = .ok (.aload_n 0, 1) := by decide +kernel
theorem d_Md_save_67 : decode prog_8_method_29_code 67 = .ok (.iload 4, 2) := by decide +kernel
theorem d_Md_save_69 : decode prog_8_method_29_code 69 = .ok (.ifCond .ne 8, 3) := by decide +kernel
theorem d_Md_save_72 : decode prog_8_method_29_code 72 = .ok (.bipush 46, 2) := by decide +kernel
theorem d_Md_save_74 : decode prog_8_method_29_code 74 = .ok (.goto 8, 3) := by decide +kernel
theorem d_Md_save_77 : decode prog_8_method_29_code 77 = .ok (.bipush 48, 2) := by decide +kernel
theorem d_Md_save_79 : decode prog_8_method_29_code 79 = .ok (.iload 4, 2) := by decide +kernel
theorem d_Md_save_81 : decode prog_8_method_29_code 81 = .ok (.iadd, 1) := by decide +kernel
theorem d_Md_save_82 : decode prog_8_method_29_code 82 = .ok (.invokevirtual 125, 3) := by decide +kernel
theorem d_Md_save_85 : decode prog_8_method_29_code 85 = .ok (.iload 5, 2) := by decide +kernel
theorem d_Md_save_87 : decode prog_8_method_29_code 87 = .ok (.ifCond .ne 6, 3) := by decide +kernel
theorem d_Md_save_90 : decode prog_8_method_29_code 90 = .ok (.goto 51, 3) := by decide +kernel
theorem d_Md_save_93 : decode prog_8_method_29_code 93 = .ok (.aload_n 0, 1) := by decide +kernel
theorem d_Md_save_94 : decode prog_8_method_29_code 94 = .ok (.bipush 40, 2) := by decide +kernel
theorem d_Md_save_96 : decode prog_8_method_29_code 96 = .ok (.invokevirtual 125, 3) := by decide +kernel
theorem d_Md_save_99 : decode prog_8_method_29_code 99 = .ok (.iconst 1, 1) := by decide +kernel
theorem d_Md_save_100 : decode prog_8_method_29_code 100 = .ok (.istore 6, 2) := by decide +kernel
theorem d_Md_save_102 : decode prog_8_method_29_code 102 = .ok (.iload 6, 2) := by decide +kernel
theorem d_Md_save_104 : decode prog_8_method_29_code 104 = .ok (.bipush 10, 2) := by decide +kernel
theorem d_Md_save_106 : decode prog_8_method_29_code 106 = .ok (.if_icmp .ge 29, 3) := by decide +kernel
theorem d_Md_save_109 : decode prog_8_method_29_code 109 = .ok (.iload 5, 2) := by decide +kernel
theorem d_Md_save_111 : decode prog_8_method_29_code 111 = .ok (.iload 6, 2) := by decide +kernel
theorem d_Md_save_113 : decode prog_8_method_29_code 113 = .ok (.ishr, 1) := by decide +kernel
theorem d_Md_save_114 : decode prog_8_method_29_code 114 = .ok (.iconst 1, 1) := by decide +kernel
theorem d_Md_save_115 : decode prog_8_method_29_code 115 = .ok (.iand, 1) := by decide +kernel
theorem d_Md_save_116 : decode prog_8_method_29_code 116 = .ok (.iconst 1, 1) := by decide +kernel
theorem d_Md_save_117 : decode prog_8_method_29_code 117 = .ok (.if_icmp .ne 12, 3) := by decide +kernel
theorem d_Md_save_120 : decode prog_8_method_29_code 120 = .ok (.aload_n 0, 1) := by decide +kernel
theorem d_Md_save_121 : decode prog_8_method_29_code 121 = .ok (.bipush 48, 2) := by decide +kernel
theorem d_Md_save_123 : decode prog_8_method_29_code 123 = .ok (.iload 6, 2) := by decide +kernel
theorem d_Md_save_125 : decode prog_8_method_29_code 125 = .ok (.iadd, 1) := by decide +kernel
theorem d_Md_save_126 : decode prog_8_method_29_code 126 = .ok (.invokevirtual 125, 3) := by decide +kernel
theorem d_Md_save_129 : decode prog_8_method_29_code 129 = .ok (.iinc 6 1, 3) := by decide +kernel
theorem d_Md_save_132 : decode prog_8_method_29_code 132 = .ok (.goto (-30), 3) := by decide +kernel
theorem d_Md_save_135 : decode prog_8_method_29_code 135 = .ok (.aload_n 0, 1) := by decide +kernel
theorem d_Md_save_136 : decode prog_8_method_29_code 136 = .ok (.bipush 41, 2) := by decide +kernel
theorem d_Md_save_138 : decode prog_8_method_29_code 138 = .ok (.invokevirtual 125, 3) := by decide +kernel
theorem d_Md_save_141 : decode prog_8_method_29_code 141 = .ok (.iinc 3 1, 3) := by decide +kernel
theorem d_Md_save_144 : decode prog_8_method_29_code 144 = .ok (.goto (-112), 3) := by decide +kernel
theorem d_Md_save_147 : decode prog_8_method_29_code 147 = .ok (.aload_n 0, 1) := by decide +kernel
theorem d_Md_save_148 : decode prog_8_method_29_code 148 = .ok (.getfield 122, 3) := by decide +kernel
theorem d_Md_save_151 : decode prog_8_method_29_code 151 = .ok (.ireturn, 1) := by decide +kernel
-- PlayStatesModel.save(II)I 
def ws_Md_save (G : gG) (a_t a_t_truth a_t_present a_t_helped a_t_counted a_t_told a_t_runs a_t_whose a_t_where a_t_what a_t_before a_t_behind a_t_isOn a_t_tryEntries a_t_tryMarks a_t_text a_t_entries a_t_marked : Nat)  (x_t_thrown : Int32) (x_t_places : Int32) (x_t_persons : Int32) (x_t_many : Int32) (x_t_size : Int32) (x_t_at : Int32) (x_t_sought : Int32) (x_t_found : Int32) (x_t_entries : Nat → Int32) (x_t_marked : Nat → Int32) : va_W := [(a_t, .inr (6, [.int x_t_thrown, .int x_t_places, .int x_t_persons, .ref a_t_truth, .ref a_t_entries, .ref a_t_marked, .ref a_t_present, .ref a_t_helped, .ref a_t_counted, .ref a_t_told, .ref a_t_runs, .int x_t_many, .ref a_t_whose, .ref a_t_where, .ref a_t_what, .ref a_t_before, .ref a_t_behind, .ref a_t_isOn, .ref a_t_tryEntries, .ref a_t_tryMarks, .int x_t_size, .ref a_t_text, .int x_t_at, .int x_t_sought, .int x_t_found])), (a_t_entries, .inl (G.2 0, 648, .inl x_t_entries)), (a_t_marked, .inl (G.2 0, 648, .inl x_t_marked))]
def fb_Md_save_L102 (fu : Nat) (x_t_places : Int32) (x_t_persons : Int32) (x_t_many : Int32) (x_t_size : Int32) (x_t_entries : Nat → Int32) (x_t_marked : Nat → Int32) (k32 : (Int32 → Int32 → Int32 → Int32 → Int32 → Int32 → Int32 → Option (Int32 × Int32 × Int32 × Int32 × Int32))) (k102 : (Int32 → Int32 → Int32 → Int32 → Int32 → Int32 → Int32 → Int32 → Int32 → Int32 → Option (Int32 × Int32 × Int32 × Int32 × Int32))) (l102_1 : Int32) (l102_2 : Int32) (l102_3 : Int32) (l102_4 : Int32) (l102_5 : Int32) (l102_6 : Int32) (x_t_thrown_102 : Int32) (x_t_at_102 : Int32) (x_t_sought_102 : Int32) (x_t_found_102 : Int32) : Option (Int32 × Int32 × Int32 × Int32 × Int32) :=
  (if (10 : Int32) ≤ l102_6 then ((f_Md_say (41 : Int32) x_t_thrown_102 x_t_places x_t_persons x_t_many x_t_size x_t_at_102 x_t_sought_102 x_t_found_102).bind fun y11 => (k32 l102_1 l102_2 (l102_3 + (1 : Int32)) x_t_thrown_102 y11.1 x_t_sought_102 y11.2)) else (if ((l102_5 >>> (l102_6 &&& 31)) &&& (1 : Int32)) = (1 : Int32) then ((f_Md_say ((48 : Int32) + l102_6) x_t_thrown_102 x_t_places x_t_persons x_t_many x_t_size x_t_at_102 x_t_sought_102 x_t_found_102).bind fun y13 => (k102 l102_1 l102_2 l102_3 l102_4 l102_5 (l102_6 + (1 : Int32)) x_t_thrown_102 y13.1 x_t_sought_102 y13.2)) else (k102 l102_1 l102_2 l102_3 l102_4 l102_5 (l102_6 + (1 : Int32)) x_t_thrown_102 x_t_at_102 x_t_sought_102 x_t_found_102)))
def f_Md_save_L102 (fu : Nat) (x_t_places : Int32) (x_t_persons : Int32) (x_t_many : Int32) (x_t_size : Int32) (x_t_entries : Nat → Int32) (x_t_marked : Nat → Int32) (k32 : (Int32 → Int32 → Int32 → Int32 → Int32 → Int32 → Int32 → Option (Int32 × Int32 × Int32 × Int32 × Int32))) : Nat → Int32 → Int32 → Int32 → Int32 → Int32 → Int32 → Int32 → Int32 → Int32 → Int32 → Option (Int32 × Int32 × Int32 × Int32 × Int32)
  | 0 => fun _ _ _ _ _ _ _ _ _ _ => none
  | k9 + 1 => fb_Md_save_L102 fu x_t_places x_t_persons x_t_many x_t_size x_t_entries x_t_marked k32 (f_Md_save_L102 fu x_t_places x_t_persons x_t_many x_t_size x_t_entries x_t_marked k32 k9)
def fb_Md_save_L32 (fu : Nat) (x_t_places : Int32) (x_t_persons : Int32) (x_t_many : Int32) (x_t_size : Int32) (x_t_entries : Nat → Int32) (x_t_marked : Nat → Int32)  (k32 : (Int32 → Int32 → Int32 → Int32 → Int32 → Int32 → Int32 → Option (Int32 × Int32 × Int32 × Int32 × Int32))) (l32_1 : Int32) (l32_2 : Int32) (l32_3 : Int32) (x_t_thrown_32 : Int32) (x_t_at_32 : Int32) (x_t_sought_32 : Int32) (x_t_found_32 : Int32) : Option (Int32 × Int32 × Int32 × Int32 × Int32) :=
  (if x_t_places ≤ l32_3 then some (x_t_found_32, x_t_thrown_32, x_t_at_32, x_t_sought_32, x_t_found_32) else (if inB (((81 : Int32) * l32_1) + l32_3) 648 then (if inB (((81 : Int32) * l32_1) + l32_3) 648 then (if (x_t_entries (((81 : Int32) * l32_1) + l32_3).toNatClampNeg) = 0 then ((f_Md_say (46 : Int32) x_t_thrown_32 x_t_places x_t_persons x_t_many x_t_size x_t_at_32 x_t_sought_32 x_t_found_32).bind fun y14 => (if (x_t_marked (((81 : Int32) * l32_1) + l32_3).toNatClampNeg) = 0 then (k32 l32_1 l32_2 (l32_3 + (1 : Int32)) x_t_thrown_32 y14.1 x_t_sought_32 y14.2) else ((f_Md_say (40 : Int32) x_t_thrown_32 x_t_places x_t_persons x_t_many x_t_size y14.1 x_t_sought_32 y14.2).bind fun y16 => (f_Md_save_L102 fu x_t_places x_t_persons x_t_many x_t_size x_t_entries x_t_marked k32 fu l32_1 l32_2 l32_3 (x_t_entries (((81 : Int32) * l32_1) + l32_3).toNatClampNeg) (x_t_marked (((81 : Int32) * l32_1) + l32_3).toNatClampNeg) (1 : Int32) x_t_thrown_32 y16.1 x_t_sought_32 y16.2)))) else ((f_Md_say ((48 : Int32) + (x_t_entries (((81 : Int32) * l32_1) + l32_3).toNatClampNeg)) x_t_thrown_32 x_t_places x_t_persons x_t_many x_t_size x_t_at_32 x_t_sought_32 x_t_found_32).bind fun y7 => (if (x_t_marked (((81 : Int32) * l32_1) + l32_3).toNatClampNeg) = 0 then (k32 l32_1 l32_2 (l32_3 + (1 : Int32)) x_t_thrown_32 y7.1 x_t_sought_32 y7.2) else ((f_Md_say (40 : Int32) x_t_thrown_32 x_t_places x_t_persons x_t_many x_t_size y7.1 x_t_sought_32 y7.2).bind fun y9 => (f_Md_save_L102 fu x_t_places x_t_persons x_t_many x_t_size x_t_entries x_t_marked k32 fu l32_1 l32_2 l32_3 (x_t_entries (((81 : Int32) * l32_1) + l32_3).toNatClampNeg) (x_t_marked (((81 : Int32) * l32_1) + l32_3).toNatClampNeg) (1 : Int32) x_t_thrown_32 y9.1 x_t_sought_32 y9.2))))) else none) else none))
def f_Md_save_L32 (fu : Nat) (x_t_places : Int32) (x_t_persons : Int32) (x_t_many : Int32) (x_t_size : Int32) (x_t_entries : Nat → Int32) (x_t_marked : Nat → Int32)  : Nat → Int32 → Int32 → Int32 → Int32 → Int32 → Int32 → Int32 → Option (Int32 × Int32 × Int32 × Int32 × Int32)
  | 0 => fun _ _ _ _ _ _ _ => none
  | k9 + 1 => fb_Md_save_L32 fu x_t_places x_t_persons x_t_many x_t_size x_t_entries x_t_marked (f_Md_save_L32 fu x_t_places x_t_persons x_t_many x_t_size x_t_entries x_t_marked k9)
def f_Md_save (fu : Nat)  (p0 : Int32) (p1 : Int32) (x_t_thrown : Int32) (x_t_places : Int32) (x_t_persons : Int32) (x_t_many : Int32) (x_t_size : Int32) (x_t_at : Int32) (x_t_sought : Int32) (x_t_found : Int32) (x_t_entries : Nat → Int32) (x_t_marked : Nat → Int32) : Option (Int32 × Int32 × Int32 × Int32 × Int32) :=
  ((f_Md_isPerson p0 (0 : Int32) x_t_places x_t_persons x_t_many x_t_size x_t_at x_t_sought x_t_found).bind fun y1 => (if y1 = 0 then some ((-1 : Int32), (0 : Int32), x_t_at, x_t_sought, x_t_found) else (f_Md_save_L32 fu x_t_places x_t_persons x_t_many x_t_size x_t_entries x_t_marked fu p0 p1 (0 : Int32) (0 : Int32) (0 : Int32) p1 (-1 : Int32))))
set_option maxHeartbeats 4000000 in
set_option maxRecDepth 100000 in
theorem c_Md_save (l : Launch) (G : gG) (sz : Nat) (a_t a_t_truth a_t_present a_t_helped a_t_counted a_t_told a_t_runs a_t_whose a_t_where a_t_what a_t_before a_t_behind a_t_isOn a_t_tryEntries a_t_tryMarks a_t_text a_t_entries a_t_marked : Nat) (fu : Nat)  (p0 : Int32) (p1 : Int32) (x_t_thrown : Int32) (x_t_places : Int32) (x_t_persons : Int32) (x_t_many : Int32) (x_t_size : Int32) (x_t_at : Int32) (x_t_sought : Int32) (x_t_found : Int32) (x_t_entries : Nat → Int32) (x_t_marked : Nat → Int32) (r : Int32) (x_t_thrown' : Int32) (x_t_at' : Int32) (x_t_sought' : Int32) (x_t_found' : Int32) (h : f_Md_save fu p0 p1 x_t_thrown x_t_places x_t_persons x_t_many x_t_size x_t_at x_t_sought x_t_found x_t_entries x_t_marked = some (r, x_t_thrown', x_t_at', x_t_sought', x_t_found'))  : cN l y_Md_save w_Md_save { frames := 1, cells := 0, slots := 0, locals := 21 } G sz [.ref a_t, .int p0, .int p1] (ws_Md_save G a_t a_t_truth a_t_present a_t_helped a_t_counted a_t_told a_t_runs a_t_whose a_t_where a_t_what a_t_before a_t_behind a_t_isOn a_t_tryEntries a_t_tryMarks a_t_text a_t_entries a_t_marked x_t_thrown x_t_places x_t_persons x_t_many x_t_size x_t_at x_t_sought x_t_found x_t_entries x_t_marked) (some (.int r)) (wB G (ws_Md_save G a_t a_t_truth a_t_present a_t_helped a_t_counted a_t_told a_t_runs a_t_whose a_t_where a_t_what a_t_before a_t_behind a_t_isOn a_t_tryEntries a_t_tryMarks a_t_text a_t_entries a_t_marked x_t_thrown' x_t_places x_t_persons x_t_many x_t_size x_t_at' x_t_sought' x_t_found' x_t_entries x_t_marked)) 0 0 := by
  refine cN_ofW (cc := prog_8_method_29_code) (maxL := 7) (ret := (some .int)) (by decide) rfl (Nat.le_of_ble_eq_true rfl) ?_
  intro p e s m args below meth c A H locs ls hx hb hr hts hown hlocks hin hml hK hN hP hD hA hS hl
  replace hl : lv_has ls 7 [(0, .ref a_t), (1, .int p0), (2, .int p1)] := hl
  replace hown : s.vm.findClass "PlayStatesModel" = some m.cls := hown
  unfold f_Md_save at h
  refine lv_aload_n hx hb d_Md_save_0 rfl (lv_at hl 0 rfl) ?_
  refine lv_iconst (v := (0 : Int32)) hx hb d_Md_save_1 (by decide) ?_
  refine va_put (D := G.1) (ci := 6) (v := .int (0 : Int32)) (ty := .int) (C := "PlayStatesModel") (T := TMd) (N := 25) hx hb hts iw_6 tyMd tyMd_ok nmMd hown hK hP hD hS 0 rfl rfl 0 (by decide) (hts _ gw_379) (fun _ h9 => h9) rfl (by decide +kernel) (by rfl) (by rfl) (Nat.le_of_ble_eq_true rfl) d_Md_save_2 (fun H locs hP hD hS => ?_)
  replace hP : va_P G.1 vwCl (ws_Md_save G a_t a_t_truth a_t_present a_t_helped a_t_counted a_t_told a_t_runs a_t_whose a_t_where a_t_what a_t_before a_t_behind a_t_isOn a_t_tryEntries a_t_tryMarks a_t_text a_t_entries a_t_marked (0 : Int32) x_t_places x_t_persons x_t_many x_t_size x_t_at x_t_sought x_t_found x_t_entries x_t_marked) H := hP
  replace hD : va_D A (ws_Md_save G a_t a_t_truth a_t_present a_t_helped a_t_counted a_t_told a_t_runs a_t_whose a_t_where a_t_what a_t_before a_t_behind a_t_isOn a_t_tryEntries a_t_tryMarks a_t_text a_t_entries a_t_marked (0 : Int32) x_t_places x_t_persons x_t_many x_t_size x_t_at x_t_sought x_t_found x_t_entries x_t_marked) := hD
  refine lv_aload_n hx hb d_Md_save_5 rfl (lv_at hl 0 rfl) ?_
  refine lv_iload_n hx hb d_Md_save_6 rfl (lv_at hl 1 rfl) ?_
  obtain ⟨y1, hy1, h⟩ := o_bind h
  have hPc := hP.sub (ws' := (ws_Md_isPerson G a_t a_t_truth a_t_entries a_t_marked a_t_present a_t_helped a_t_counted a_t_told a_t_runs a_t_whose a_t_where a_t_what a_t_before a_t_behind a_t_isOn a_t_tryEntries a_t_tryMarks a_t_text (0 : Int32) x_t_places x_t_persons x_t_many x_t_size x_t_at x_t_sought x_t_found)) [0] rfl
  have hDc := hD.sub (ws' := (ws_Md_isPerson G a_t a_t_truth a_t_entries a_t_marked a_t_present a_t_helped a_t_counted a_t_told a_t_runs a_t_whose a_t_where a_t_what a_t_before a_t_behind a_t_isOn a_t_tryEntries a_t_tryMarks a_t_text (0 : Int32) x_t_places x_t_persons x_t_many x_t_size x_t_at x_t_sought x_t_found)) [0] (by decide) rfl
  have hFc := va_free (wc := (ws_Md_isPerson G a_t a_t_truth a_t_entries a_t_marked a_t_present a_t_helped a_t_counted a_t_told a_t_runs a_t_whose a_t_where a_t_what a_t_before a_t_behind a_t_isOn a_t_tryEntries a_t_tryMarks a_t_text (0 : Int32) x_t_places x_t_persons x_t_many x_t_size x_t_at x_t_sought x_t_found)) hD hS hA [0] rfl
  refine q_call1 (va_runV (As := [.int p0]) (rest := []) ⟨hx, hb, hml, hown, hts⟩ (c_Md_isPerson l G H.size a_t a_t_truth a_t_entries a_t_marked a_t_present a_t_helped a_t_counted a_t_told a_t_runs a_t_whose a_t_where a_t_what a_t_before a_t_behind a_t_isOn a_t_tryEntries a_t_tryMarks a_t_text p0 (0 : Int32) x_t_places x_t_persons x_t_many x_t_size x_t_at x_t_sought x_t_found _ hy1) (cwV 1 hts (gV gw_441 gw_442 gw_17 gw_36 gw_443) rfl rfl rfl (by decide +kernel) ⟨Nat.le_of_ble_eq_true rfl, Nat.le_of_ble_eq_true rfl⟩) (pV hK hN hPc hDc (ci := 6) (q0 := 0) rfl rfl) rfl rfl hl.1 rfl (lv_room (Nat.le_of_ble_eq_true rfl)) d_Md_save_7 ⟨Nat.le_of_ble_eq_true rfl, Nat.le_of_ble_eq_true rfl⟩) hS (fun q _ h => hFc q h) hFc (fun H1 locs hB hz hk hS => ?_)
  obtain ⟨hP, hD⟩ := q_join (wr := [(a_t_entries, .inl (G.2 0, 648, .inl x_t_entries)), (a_t_marked, .inl (G.2 0, 648, .inl x_t_marked))]) (wn := (ws_Md_save G a_t a_t_truth a_t_present a_t_helped a_t_counted a_t_told a_t_runs a_t_whose a_t_where a_t_what a_t_before a_t_behind a_t_isOn a_t_tryEntries a_t_tryMarks a_t_text a_t_entries a_t_marked (0 : Int32) x_t_places x_t_persons x_t_many x_t_size x_t_at x_t_sought x_t_found x_t_entries x_t_marked)) hP hD [0] [1, 2] [2, 0, 1] rfl rfl (by decide) (by decide) rfl (by decide) hk hFc hB.1 hB.2
  generalize H1 = H at hP hS ⊢
  replace hP : va_P G.1 vwCl (ws_Md_save G a_t a_t_truth a_t_present a_t_helped a_t_counted a_t_told a_t_runs a_t_whose a_t_where a_t_what a_t_before a_t_behind a_t_isOn a_t_tryEntries a_t_tryMarks a_t_text a_t_entries a_t_marked (0 : Int32) x_t_places x_t_persons x_t_many x_t_size x_t_at x_t_sought x_t_found x_t_entries x_t_marked) H := hP
  replace hD : va_D A (ws_Md_save G a_t a_t_truth a_t_present a_t_helped a_t_counted a_t_told a_t_runs a_t_whose a_t_where a_t_what a_t_before a_t_behind a_t_isOn a_t_tryEntries a_t_tryMarks a_t_text a_t_entries a_t_marked (0 : Int32) x_t_places x_t_persons x_t_many x_t_size x_t_at x_t_sought x_t_found x_t_entries x_t_marked) := hD
  refine lv_if_ne (tgt := 15) hx hb d_Md_save_10 (by decide) (fun c2 => ?_) (fun c2 => ?_)
  · replace h := (if_neg c2).symm.trans h
    refine lv_aload_n hx hb d_Md_save_15 rfl (lv_at hl 0 rfl) ?_
    refine lv_iconst (v := (0 : Int32)) hx hb d_Md_save_16 (by decide) ?_
    refine va_put (D := G.1) (ci := 6) (v := .int (0 : Int32)) (ty := .int) (C := "PlayStatesModel") (T := TMd) (N := 25) hx hb hts iw_6 tyMd tyMd_ok nmMd hown hK hP hD hS 0 rfl rfl 22 (by decide) (hts _ gw_401) (fun _ h9 => h9) rfl (by decide +kernel) (by rfl) (by rfl) (Nat.le_of_ble_eq_true rfl) d_Md_save_17 (fun H locs hP hD hS => ?_)
    replace hP : va_P G.1 vwCl (ws_Md_save G a_t a_t_truth a_t_present a_t_helped a_t_counted a_t_told a_t_runs a_t_whose a_t_where a_t_what a_t_before a_t_behind a_t_isOn a_t_tryEntries a_t_tryMarks a_t_text a_t_entries a_t_marked (0 : Int32) x_t_places x_t_persons x_t_many x_t_size (0 : Int32) x_t_sought x_t_found x_t_entries x_t_marked) H := hP
    replace hD : va_D A (ws_Md_save G a_t a_t_truth a_t_present a_t_helped a_t_counted a_t_told a_t_runs a_t_whose a_t_where a_t_what a_t_before a_t_behind a_t_isOn a_t_tryEntries a_t_tryMarks a_t_text a_t_entries a_t_marked (0 : Int32) x_t_places x_t_persons x_t_many x_t_size (0 : Int32) x_t_sought x_t_found x_t_entries x_t_marked) := hD
    refine lv_aload_n hx hb d_Md_save_20 rfl (lv_at hl 0 rfl) ?_
    refine lv_iload_n hx hb d_Md_save_21 rfl (lv_at hl 2 rfl) ?_
    refine va_put (D := G.1) (ci := 6) (v := .int p1) (ty := .int) (C := "PlayStatesModel") (T := TMd) (N := 25) hx hb hts iw_6 tyMd tyMd_ok nmMd hown hK hP hD hS 0 rfl rfl 23 (by decide) (hts _ gw_402) (fun _ h9 => h9) rfl (by decide +kernel) (by rfl) (by rfl) (Nat.le_of_ble_eq_true rfl) d_Md_save_22 (fun H locs hP hD hS => ?_)
    replace hP : va_P G.1 vwCl (ws_Md_save G a_t a_t_truth a_t_present a_t_helped a_t_counted a_t_told a_t_runs a_t_whose a_t_where a_t_what a_t_before a_t_behind a_t_isOn a_t_tryEntries a_t_tryMarks a_t_text a_t_entries a_t_marked (0 : Int32) x_t_places x_t_persons x_t_many x_t_size (0 : Int32) p1 x_t_found x_t_entries x_t_marked) H := hP
    replace hD : va_D A (ws_Md_save G a_t a_t_truth a_t_present a_t_helped a_t_counted a_t_told a_t_runs a_t_whose a_t_where a_t_what a_t_before a_t_behind a_t_isOn a_t_tryEntries a_t_tryMarks a_t_text a_t_entries a_t_marked (0 : Int32) x_t_places x_t_persons x_t_many x_t_size (0 : Int32) p1 x_t_found x_t_entries x_t_marked) := hD
    refine lv_aload_n hx hb d_Md_save_25 rfl (lv_at hl 0 rfl) ?_
    refine lv_iconst (v := (-1 : Int32)) hx hb d_Md_save_26 (by decide) ?_
    refine va_put (D := G.1) (ci := 6) (v := .int (-1 : Int32)) (ty := .int) (C := "PlayStatesModel") (T := TMd) (N := 25) hx hb hts iw_6 tyMd tyMd_ok nmMd hown hK hP hD hS 0 rfl rfl 24 (by decide) (hts _ gw_403) (fun _ h9 => h9) rfl (by decide +kernel) (by rfl) (by rfl) (Nat.le_of_ble_eq_true rfl) d_Md_save_27 (fun H locs hP hD hS => ?_)
    replace hP : va_P G.1 vwCl (ws_Md_save G a_t a_t_truth a_t_present a_t_helped a_t_counted a_t_told a_t_runs a_t_whose a_t_where a_t_what a_t_before a_t_behind a_t_isOn a_t_tryEntries a_t_tryMarks a_t_text a_t_entries a_t_marked (0 : Int32) x_t_places x_t_persons x_t_many x_t_size (0 : Int32) p1 (-1 : Int32) x_t_entries x_t_marked) H := hP
    replace hD : va_D A (ws_Md_save G a_t a_t_truth a_t_present a_t_helped a_t_counted a_t_told a_t_runs a_t_whose a_t_where a_t_what a_t_before a_t_behind a_t_isOn a_t_tryEntries a_t_tryMarks a_t_text a_t_entries a_t_marked (0 : Int32) x_t_places x_t_persons x_t_many x_t_size (0 : Int32) p1 (-1 : Int32) x_t_entries x_t_marked) := hD
    refine lv_iconst (v := (0 : Int32)) hx hb d_Md_save_30 (by decide) ?_
    refine lv_istore_n (lv' := [(3, .int (0 : Int32)), (0, .ref a_t), (1, .int p0), (2, .int p1)]) hx hb d_Md_save_31 rfl hl (by decide) rfl (fun ls hl => ?_)
    have L32 : ∀ (nf : Nat) (l32_1 : Int32) (l32_2 : Int32) (l32_3 : Int32) (x_t_thrown_32 : Int32) (x_t_at_32 : Int32) (x_t_sought_32 : Int32) (x_t_found_32 : Int32) (H : Heap) (locs : List Loc) (ls : Array Slot), f_Md_save_L32 fu x_t_places x_t_persons x_t_many x_t_size x_t_entries x_t_marked nf l32_1 l32_2 l32_3 x_t_thrown_32 x_t_at_32 x_t_sought_32 x_t_found_32 = some (r, x_t_thrown', x_t_at', x_t_sought', x_t_found') → va_P G.1 vwCl (ws_Md_save G a_t a_t_truth a_t_present a_t_helped a_t_counted a_t_told a_t_runs a_t_whose a_t_where a_t_what a_t_before a_t_behind a_t_isOn a_t_tryEntries a_t_tryMarks a_t_text a_t_entries a_t_marked x_t_thrown_32 x_t_places x_t_persons x_t_many x_t_size x_t_at_32 x_t_sought_32 x_t_found_32 x_t_entries x_t_marked) H → va_D A (ws_Md_save G a_t a_t_truth a_t_present a_t_helped a_t_counted a_t_told a_t_runs a_t_whose a_t_where a_t_what a_t_before a_t_behind a_t_isOn a_t_tryEntries a_t_tryMarks a_t_text a_t_entries a_t_marked x_t_thrown_32 x_t_places x_t_persons x_t_many x_t_size x_t_at_32 x_t_sought_32 x_t_found_32 x_t_entries x_t_marked) → va_S A s.heap H locs → lv_has ls 7 [(0, .ref a_t), (1, .int l32_1), (2, .int l32_2), (3, .int l32_3)] → W p l e { frames := 1, cells := 0, slots := 0, locals := 21 } s m args below meth c H locs 0 0 (MQ below (qQ (some (.int r)) (wB G (ws_Md_save G a_t a_t_truth a_t_present a_t_helped a_t_counted a_t_told a_t_runs a_t_whose a_t_where a_t_what a_t_before a_t_behind a_t_isOn a_t_tryEntries a_t_tryMarks a_t_text a_t_entries a_t_marked x_t_thrown' x_t_places x_t_persons x_t_many x_t_size x_t_at' x_t_sought' x_t_found' x_t_entries x_t_marked) A) A) args s 0 0 A) (F0 m 32 ls []) := by
      clear h hP hD hS hl
      intro n32
      induction n32 with
      | zero => intro _ _ _ _ _ _ _ H locs ls h; exact nomatch (show none = some _ from h)
      | succ n32 ih32 =>
        intro l32_1 l32_2 l32_3 x_t_thrown_32 x_t_at_32 x_t_sought_32 x_t_found_32 H locs ls h hP hD hS hl
        replace h : fb_Md_save_L32 fu x_t_places x_t_persons x_t_many x_t_size x_t_entries x_t_marked (f_Md_save_L32 fu x_t_places x_t_persons x_t_many x_t_size x_t_entries x_t_marked n32) l32_1 l32_2 l32_3 x_t_thrown_32 x_t_at_32 x_t_sought_32 x_t_found_32 = some (r, x_t_thrown', x_t_at', x_t_sought', x_t_found') := h
        unfold fb_Md_save_L32 at h
        refine lv_iload_n hx hb d_Md_save_32 rfl (lv_at hl 3 rfl) ?_
        refine lv_aload_n hx hb d_Md_save_33 rfl (lv_at hl 0 rfl) ?_
        refine va_get (D := G.1) (ci := 6) (v := .int x_t_places) (C := "PlayStatesModel") (T := TMd) (N := 25) hx hb hts iw_6 hown hK hP 0 rfl rfl 1 (by decide) (hts _ gw_380) (fun _ h9 => h9) rfl d_Md_save_34 ?_
        refine lv_icmp_ge (tgt := 147) hx hb d_Md_save_37 (by decide) (fun c3 => ?_) (fun c3 => ?_)
        · replace h := (if_pos c3).symm.trans h
          refine lv_aload_n hx hb d_Md_save_147 rfl (lv_at hl 0 rfl) ?_
          refine va_get (D := G.1) (ci := 6) (v := .int x_t_found_32) (C := "PlayStatesModel") (T := TMd) (N := 25) hx hb hts iw_6 hown hK hP 0 rfl rfl 24 (by decide) (hts _ gw_403) (fun _ h9 => h9) rfl d_Md_save_148 ?_
          cases h
          exact q_iretW hx hb hr hlocks hP hD hS d_Md_save_151
        · replace h := (if_neg c3).symm.trans h
          refine lv_aload_n hx hb d_Md_save_40 rfl (lv_at hl 0 rfl) ?_
          refine va_get (D := G.1) (ci := 6) (v := .ref a_t_entries) (C := "PlayStatesModel") (T := TMd) (N := 25) hx hb hts iw_6 hown hK hP 0 rfl rfl 4 (by decide) (hts _ gw_383) (fun _ h9 => h9) rfl d_Md_save_41 ?_
          refine lv_bipush (v := (81 : Int32)) hx hb d_Md_save_44 (by decide) ?_
          refine lv_iload_n hx hb d_Md_save_46 rfl (lv_at hl 1 rfl) ?_
          refine lv_imul hx hb d_Md_save_47 ?_
          refine lv_iload_n hx hb d_Md_save_48 rfl (lv_at hl 3 rfl) ?_
          refine lv_iadd hx hb d_Md_save_49 ?_
          obtain ⟨i4, h⟩ := o_if h
          refine va_iald (n := 648) (f := x_t_entries) hx hb hK hP 1 0 rfl rfl i4 d_Md_save_50 ?_
          refine lv_istore (lv' := [(4, .int (x_t_entries (((81 : Int32) * l32_1) + l32_3).toNatClampNeg)), (0, .ref a_t), (1, .int l32_1), (2, .int l32_2), (3, .int l32_3)]) hx hb d_Md_save_51 hl (by decide) rfl (fun ls hl => ?_)
          refine lv_aload_n hx hb d_Md_save_53 rfl (lv_at hl 1 rfl) ?_
          refine va_get (D := G.1) (ci := 6) (v := .ref a_t_marked) (C := "PlayStatesModel") (T := TMd) (N := 25) hx hb hts iw_6 hown hK hP 0 rfl rfl 5 (by decide) (hts _ gw_384) (fun _ h9 => h9) rfl d_Md_save_54 ?_
          refine lv_bipush (v := (81 : Int32)) hx hb d_Md_save_57 (by decide) ?_
          refine lv_iload_n hx hb d_Md_save_59 rfl (lv_at hl 2 rfl) ?_
          refine lv_imul hx hb d_Md_save_60 ?_
          refine lv_iload_n hx hb d_Md_save_61 rfl (lv_at hl 4 rfl) ?_
          refine lv_iadd hx hb d_Md_save_62 ?_
          obtain ⟨i5, h⟩ := o_if h
          refine va_iald (n := 648) (f := x_t_marked) hx hb hK hP 2 0 rfl rfl i5 d_Md_save_63 ?_
          refine lv_istore (lv' := [(5, .int (x_t_marked (((81 : Int32) * l32_1) + l32_3).toNatClampNeg)), (4, .int (x_t_entries (((81 : Int32) * l32_1) + l32_3).toNatClampNeg)), (0, .ref a_t), (1, .int l32_1), (2, .int l32_2), (3, .int l32_3)]) hx hb d_Md_save_64 hl (by decide) rfl (fun ls hl => ?_)
          refine lv_aload_n hx hb d_Md_save_66 rfl (lv_at hl 2 rfl) ?_
          refine lv_iload hx hb d_Md_save_67 (lv_at hl 1 rfl) ?_
          refine lv_if_ne (tgt := 77) hx hb d_Md_save_69 (by decide) (fun c6 => ?_) (fun c6 => ?_)
          · replace h := (if_neg c6).symm.trans h
            refine lv_bipush (v := (48 : Int32)) hx hb d_Md_save_77 (by decide) ?_
            refine lv_iload hx hb d_Md_save_79 (lv_at hl 1 rfl) ?_
            refine lv_iadd hx hb d_Md_save_81 ?_
            obtain ⟨y7, hy7, h⟩ := o_bind h
            have hPc := hP.sub (ws' := (ws_Md_say G a_t a_t_truth a_t_entries a_t_marked a_t_present a_t_helped a_t_counted a_t_told a_t_runs a_t_whose a_t_where a_t_what a_t_before a_t_behind a_t_isOn a_t_tryEntries a_t_tryMarks a_t_text x_t_thrown_32 x_t_places x_t_persons x_t_many x_t_size x_t_at_32 x_t_sought_32 x_t_found_32)) [0] rfl
            have hDc := hD.sub (ws' := (ws_Md_say G a_t a_t_truth a_t_entries a_t_marked a_t_present a_t_helped a_t_counted a_t_told a_t_runs a_t_whose a_t_where a_t_what a_t_before a_t_behind a_t_isOn a_t_tryEntries a_t_tryMarks a_t_text x_t_thrown_32 x_t_places x_t_persons x_t_many x_t_size x_t_at_32 x_t_sought_32 x_t_found_32)) [0] (by decide) rfl
            have hFc := va_free (wc := (ws_Md_say G a_t a_t_truth a_t_entries a_t_marked a_t_present a_t_helped a_t_counted a_t_told a_t_runs a_t_whose a_t_where a_t_what a_t_before a_t_behind a_t_isOn a_t_tryEntries a_t_tryMarks a_t_text x_t_thrown_32 x_t_places x_t_persons x_t_many x_t_size x_t_at_32 x_t_sought_32 x_t_found_32)) hD hS hA [0] rfl
            refine q_call0 (va_runV (As := [.int ((48 : Int32) + (x_t_entries (((81 : Int32) * l32_1) + l32_3).toNatClampNeg))]) (rest := []) ⟨hx, hb, hml, hown, hts⟩ (c_Md_say l G H.size a_t a_t_truth a_t_entries a_t_marked a_t_present a_t_helped a_t_counted a_t_told a_t_runs a_t_whose a_t_where a_t_what a_t_before a_t_behind a_t_isOn a_t_tryEntries a_t_tryMarks a_t_text ((48 : Int32) + (x_t_entries (((81 : Int32) * l32_1) + l32_3).toNatClampNeg)) x_t_thrown_32 x_t_places x_t_persons x_t_many x_t_size x_t_at_32 x_t_sought_32 x_t_found_32 _ _ hy7) (cwV 1 hts (gV gw_524 gw_525 gw_26 gw_36 gw_526) rfl rfl rfl (by decide +kernel) ⟨Nat.le_of_ble_eq_true rfl, Nat.le_of_ble_eq_true rfl⟩) (pV hK hN hPc hDc (ci := 6) (q0 := 0) rfl rfl) rfl rfl hl.1 rfl (lv_room (Nat.le_of_ble_eq_true rfl)) d_Md_save_82 ⟨Nat.le_of_ble_eq_true rfl, Nat.le_of_ble_eq_true rfl⟩) hS (fun q _ h => hFc q h) hFc (fun H1 locs hB hz hk hS => ?_)
            obtain ⟨hP, hD⟩ := q_join (wr := [(a_t_entries, .inl (G.2 0, 648, .inl x_t_entries)), (a_t_marked, .inl (G.2 0, 648, .inl x_t_marked))]) (wn := (ws_Md_save G a_t a_t_truth a_t_present a_t_helped a_t_counted a_t_told a_t_runs a_t_whose a_t_where a_t_what a_t_before a_t_behind a_t_isOn a_t_tryEntries a_t_tryMarks a_t_text a_t_entries a_t_marked x_t_thrown_32 x_t_places x_t_persons x_t_many x_t_size y7.1 x_t_sought_32 y7.2 x_t_entries x_t_marked)) hP hD [0] [1, 2] [2, 0, 1] rfl rfl (by decide) (by decide) rfl (by decide) hk hFc hB.1 hB.2
            generalize H1 = H at hP hS ⊢
            replace hP : va_P G.1 vwCl (ws_Md_save G a_t a_t_truth a_t_present a_t_helped a_t_counted a_t_told a_t_runs a_t_whose a_t_where a_t_what a_t_before a_t_behind a_t_isOn a_t_tryEntries a_t_tryMarks a_t_text a_t_entries a_t_marked x_t_thrown_32 x_t_places x_t_persons x_t_many x_t_size y7.1 x_t_sought_32 y7.2 x_t_entries x_t_marked) H := hP
            replace hD : va_D A (ws_Md_save G a_t a_t_truth a_t_present a_t_helped a_t_counted a_t_told a_t_runs a_t_whose a_t_where a_t_what a_t_before a_t_behind a_t_isOn a_t_tryEntries a_t_tryMarks a_t_text a_t_entries a_t_marked x_t_thrown_32 x_t_places x_t_persons x_t_many x_t_size y7.1 x_t_sought_32 y7.2 x_t_entries x_t_marked) := hD
            refine lv_iload hx hb d_Md_save_85 (lv_at hl 0 rfl) ?_
            refine lv_if_ne (tgt := 93) hx hb d_Md_save_87 (by decide) (fun c8 => ?_) (fun c8 => ?_)
            · replace h := (if_neg c8).symm.trans h
              refine lv_aload_n hx hb d_Md_save_93 rfl (lv_at hl 2 rfl) ?_
              refine lv_bipush (v := (40 : Int32)) hx hb d_Md_save_94 (by decide) ?_
              obtain ⟨y9, hy9, h⟩ := o_bind h
              have hPc := hP.sub (ws' := (ws_Md_say G a_t a_t_truth a_t_entries a_t_marked a_t_present a_t_helped a_t_counted a_t_told a_t_runs a_t_whose a_t_where a_t_what a_t_before a_t_behind a_t_isOn a_t_tryEntries a_t_tryMarks a_t_text x_t_thrown_32 x_t_places x_t_persons x_t_many x_t_size y7.1 x_t_sought_32 y7.2)) [0] rfl
              have hDc := hD.sub (ws' := (ws_Md_say G a_t a_t_truth a_t_entries a_t_marked a_t_present a_t_helped a_t_counted a_t_told a_t_runs a_t_whose a_t_where a_t_what a_t_before a_t_behind a_t_isOn a_t_tryEntries a_t_tryMarks a_t_text x_t_thrown_32 x_t_places x_t_persons x_t_many x_t_size y7.1 x_t_sought_32 y7.2)) [0] (by decide) rfl
              have hFc := va_free (wc := (ws_Md_say G a_t a_t_truth a_t_entries a_t_marked a_t_present a_t_helped a_t_counted a_t_told a_t_runs a_t_whose a_t_where a_t_what a_t_before a_t_behind a_t_isOn a_t_tryEntries a_t_tryMarks a_t_text x_t_thrown_32 x_t_places x_t_persons x_t_many x_t_size y7.1 x_t_sought_32 y7.2)) hD hS hA [0] rfl
              refine q_call0 (va_runV (As := [.int (40 : Int32)]) (rest := []) ⟨hx, hb, hml, hown, hts⟩ (c_Md_say l G H.size a_t a_t_truth a_t_entries a_t_marked a_t_present a_t_helped a_t_counted a_t_told a_t_runs a_t_whose a_t_where a_t_what a_t_before a_t_behind a_t_isOn a_t_tryEntries a_t_tryMarks a_t_text (40 : Int32) x_t_thrown_32 x_t_places x_t_persons x_t_many x_t_size y7.1 x_t_sought_32 y7.2 _ _ hy9) (cwV 1 hts (gV gw_524 gw_525 gw_26 gw_36 gw_526) rfl rfl rfl (by decide +kernel) ⟨Nat.le_of_ble_eq_true rfl, Nat.le_of_ble_eq_true rfl⟩) (pV hK hN hPc hDc (ci := 6) (q0 := 0) rfl rfl) rfl rfl hl.1 rfl (lv_room (Nat.le_of_ble_eq_true rfl)) d_Md_save_96 ⟨Nat.le_of_ble_eq_true rfl, Nat.le_of_ble_eq_true rfl⟩) hS (fun q _ h => hFc q h) hFc (fun H1 locs hB hz hk hS => ?_)
              obtain ⟨hP, hD⟩ := q_join (wr := [(a_t_entries, .inl (G.2 0, 648, .inl x_t_entries)), (a_t_marked, .inl (G.2 0, 648, .inl x_t_marked))]) (wn := (ws_Md_save G a_t a_t_truth a_t_present a_t_helped a_t_counted a_t_told a_t_runs a_t_whose a_t_where a_t_what a_t_before a_t_behind a_t_isOn a_t_tryEntries a_t_tryMarks a_t_text a_t_entries a_t_marked x_t_thrown_32 x_t_places x_t_persons x_t_many x_t_size y9.1 x_t_sought_32 y9.2 x_t_entries x_t_marked)) hP hD [0] [1, 2] [2, 0, 1] rfl rfl (by decide) (by decide) rfl (by decide) hk hFc hB.1 hB.2
              generalize H1 = H at hP hS ⊢
              replace hP : va_P G.1 vwCl (ws_Md_save G a_t a_t_truth a_t_present a_t_helped a_t_counted a_t_told a_t_runs a_t_whose a_t_where a_t_what a_t_before a_t_behind a_t_isOn a_t_tryEntries a_t_tryMarks a_t_text a_t_entries a_t_marked x_t_thrown_32 x_t_places x_t_persons x_t_many x_t_size y9.1 x_t_sought_32 y9.2 x_t_entries x_t_marked) H := hP
              replace hD : va_D A (ws_Md_save G a_t a_t_truth a_t_present a_t_helped a_t_counted a_t_told a_t_runs a_t_whose a_t_where a_t_what a_t_before a_t_behind a_t_isOn a_t_tryEntries a_t_tryMarks a_t_text a_t_entries a_t_marked x_t_thrown_32 x_t_places x_t_persons x_t_many x_t_size y9.1 x_t_sought_32 y9.2 x_t_entries x_t_marked) := hD
              refine lv_iconst (v := (1 : Int32)) hx hb d_Md_save_99 (by decide) ?_
              refine lv_istore (lv' := [(6, .int (1 : Int32)), (5, .int (x_t_marked (((81 : Int32) * l32_1) + l32_3).toNatClampNeg)), (4, .int (x_t_entries (((81 : Int32) * l32_1) + l32_3).toNatClampNeg)), (0, .ref a_t), (1, .int l32_1), (2, .int l32_2), (3, .int l32_3)]) hx hb d_Md_save_100 hl (by decide) rfl (fun ls hl => ?_)
              have L102 : ∀ (nf : Nat) (l102_1 : Int32) (l102_2 : Int32) (l102_3 : Int32) (l102_4 : Int32) (l102_5 : Int32) (l102_6 : Int32) (x_t_thrown_102 : Int32) (x_t_at_102 : Int32) (x_t_sought_102 : Int32) (x_t_found_102 : Int32) (H : Heap) (locs : List Loc) (ls : Array Slot), f_Md_save_L102 fu x_t_places x_t_persons x_t_many x_t_size x_t_entries x_t_marked (f_Md_save_L32 fu x_t_places x_t_persons x_t_many x_t_size x_t_entries x_t_marked n32) nf l102_1 l102_2 l102_3 l102_4 l102_5 l102_6 x_t_thrown_102 x_t_at_102 x_t_sought_102 x_t_found_102 = some (r, x_t_thrown', x_t_at', x_t_sought', x_t_found') → va_P G.1 vwCl (ws_Md_save G a_t a_t_truth a_t_present a_t_helped a_t_counted a_t_told a_t_runs a_t_whose a_t_where a_t_what a_t_before a_t_behind a_t_isOn a_t_tryEntries a_t_tryMarks a_t_text a_t_entries a_t_marked x_t_thrown_102 x_t_places x_t_persons x_t_many x_t_size x_t_at_102 x_t_sought_102 x_t_found_102 x_t_entries x_t_marked) H → va_D A (ws_Md_save G a_t a_t_truth a_t_present a_t_helped a_t_counted a_t_told a_t_runs a_t_whose a_t_where a_t_what a_t_before a_t_behind a_t_isOn a_t_tryEntries a_t_tryMarks a_t_text a_t_entries a_t_marked x_t_thrown_102 x_t_places x_t_persons x_t_many x_t_size x_t_at_102 x_t_sought_102 x_t_found_102 x_t_entries x_t_marked) → va_S A s.heap H locs → lv_has ls 7 [(0, .ref a_t), (1, .int l102_1), (2, .int l102_2), (3, .int l102_3), (4, .int l102_4), (5, .int l102_5), (6, .int l102_6)] → W p l e { frames := 1, cells := 0, slots := 0, locals := 21 } s m args below meth c H locs 0 0 (MQ below (qQ (some (.int r)) (wB G (ws_Md_save G a_t a_t_truth a_t_present a_t_helped a_t_counted a_t_told a_t_runs a_t_whose a_t_where a_t_what a_t_before a_t_behind a_t_isOn a_t_tryEntries a_t_tryMarks a_t_text a_t_entries a_t_marked x_t_thrown' x_t_places x_t_persons x_t_many x_t_size x_t_at' x_t_sought' x_t_found' x_t_entries x_t_marked) A) A) args s 0 0 A) (F0 m 102 ls []) := by
                clear h hP hD hS hl
                intro n102
                induction n102 with
                | zero => intro _ _ _ _ _ _ _ _ _ _ H locs ls h; exact nomatch (show none = some _ from h)
                | succ n102 ih102 =>
                  intro l102_1 l102_2 l102_3 l102_4 l102_5 l102_6 x_t_thrown_102 x_t_at_102 x_t_sought_102 x_t_found_102 H locs ls h hP hD hS hl
                  replace h : fb_Md_save_L102 fu x_t_places x_t_persons x_t_many x_t_size x_t_entries x_t_marked (f_Md_save_L32 fu x_t_places x_t_persons x_t_many x_t_size x_t_entries x_t_marked n32) (f_Md_save_L102 fu x_t_places x_t_persons x_t_many x_t_size x_t_entries x_t_marked (f_Md_save_L32 fu x_t_places x_t_persons x_t_many x_t_size x_t_entries x_t_marked n32) n102) l102_1 l102_2 l102_3 l102_4 l102_5 l102_6 x_t_thrown_102 x_t_at_102 x_t_sought_102 x_t_found_102 = some (r, x_t_thrown', x_t_at', x_t_sought', x_t_found') := h
                  unfold fb_Md_save_L102 at h
                  refine lv_iload hx hb d_Md_save_102 (lv_at hl 6 rfl) ?_
                  refine lv_bipush (v := (10 : Int32)) hx hb d_Md_save_104 (by decide) ?_
                  refine lv_icmp_ge (tgt := 135) hx hb d_Md_save_106 (by decide) (fun c10 => ?_) (fun c10 => ?_)
                  · replace h := (if_pos c10).symm.trans h
                    refine lv_aload_n hx hb d_Md_save_135 rfl (lv_at hl 0 rfl) ?_
                    refine lv_bipush (v := (41 : Int32)) hx hb d_Md_save_136 (by decide) ?_
                    obtain ⟨y11, hy11, h⟩ := o_bind h
                    have hPc := hP.sub (ws' := (ws_Md_say G a_t a_t_truth a_t_entries a_t_marked a_t_present a_t_helped a_t_counted a_t_told a_t_runs a_t_whose a_t_where a_t_what a_t_before a_t_behind a_t_isOn a_t_tryEntries a_t_tryMarks a_t_text x_t_thrown_102 x_t_places x_t_persons x_t_many x_t_size x_t_at_102 x_t_sought_102 x_t_found_102)) [0] rfl
                    have hDc := hD.sub (ws' := (ws_Md_say G a_t a_t_truth a_t_entries a_t_marked a_t_present a_t_helped a_t_counted a_t_told a_t_runs a_t_whose a_t_where a_t_what a_t_before a_t_behind a_t_isOn a_t_tryEntries a_t_tryMarks a_t_text x_t_thrown_102 x_t_places x_t_persons x_t_many x_t_size x_t_at_102 x_t_sought_102 x_t_found_102)) [0] (by decide) rfl
                    have hFc := va_free (wc := (ws_Md_say G a_t a_t_truth a_t_entries a_t_marked a_t_present a_t_helped a_t_counted a_t_told a_t_runs a_t_whose a_t_where a_t_what a_t_before a_t_behind a_t_isOn a_t_tryEntries a_t_tryMarks a_t_text x_t_thrown_102 x_t_places x_t_persons x_t_many x_t_size x_t_at_102 x_t_sought_102 x_t_found_102)) hD hS hA [0] rfl
                    refine q_call0 (va_runV (As := [.int (41 : Int32)]) (rest := []) ⟨hx, hb, hml, hown, hts⟩ (c_Md_say l G H.size a_t a_t_truth a_t_entries a_t_marked a_t_present a_t_helped a_t_counted a_t_told a_t_runs a_t_whose a_t_where a_t_what a_t_before a_t_behind a_t_isOn a_t_tryEntries a_t_tryMarks a_t_text (41 : Int32) x_t_thrown_102 x_t_places x_t_persons x_t_many x_t_size x_t_at_102 x_t_sought_102 x_t_found_102 _ _ hy11) (cwV 1 hts (gV gw_524 gw_525 gw_26 gw_36 gw_526) rfl rfl rfl (by decide +kernel) ⟨Nat.le_of_ble_eq_true rfl, Nat.le_of_ble_eq_true rfl⟩) (pV hK hN hPc hDc (ci := 6) (q0 := 0) rfl rfl) rfl rfl hl.1 rfl (lv_room (Nat.le_of_ble_eq_true rfl)) d_Md_save_138 ⟨Nat.le_of_ble_eq_true rfl, Nat.le_of_ble_eq_true rfl⟩) hS (fun q _ h => hFc q h) hFc (fun H1 locs hB hz hk hS => ?_)
                    obtain ⟨hP, hD⟩ := q_join (wr := [(a_t_entries, .inl (G.2 0, 648, .inl x_t_entries)), (a_t_marked, .inl (G.2 0, 648, .inl x_t_marked))]) (wn := (ws_Md_save G a_t a_t_truth a_t_present a_t_helped a_t_counted a_t_told a_t_runs a_t_whose a_t_where a_t_what a_t_before a_t_behind a_t_isOn a_t_tryEntries a_t_tryMarks a_t_text a_t_entries a_t_marked x_t_thrown_102 x_t_places x_t_persons x_t_many x_t_size y11.1 x_t_sought_102 y11.2 x_t_entries x_t_marked)) hP hD [0] [1, 2] [2, 0, 1] rfl rfl (by decide) (by decide) rfl (by decide) hk hFc hB.1 hB.2
                    generalize H1 = H at hP hS ⊢
                    replace hP : va_P G.1 vwCl (ws_Md_save G a_t a_t_truth a_t_present a_t_helped a_t_counted a_t_told a_t_runs a_t_whose a_t_where a_t_what a_t_before a_t_behind a_t_isOn a_t_tryEntries a_t_tryMarks a_t_text a_t_entries a_t_marked x_t_thrown_102 x_t_places x_t_persons x_t_many x_t_size y11.1 x_t_sought_102 y11.2 x_t_entries x_t_marked) H := hP
                    replace hD : va_D A (ws_Md_save G a_t a_t_truth a_t_present a_t_helped a_t_counted a_t_told a_t_runs a_t_whose a_t_where a_t_what a_t_before a_t_behind a_t_isOn a_t_tryEntries a_t_tryMarks a_t_text a_t_entries a_t_marked x_t_thrown_102 x_t_places x_t_persons x_t_many x_t_size y11.1 x_t_sought_102 y11.2 x_t_entries x_t_marked) := hD
                    refine lv_iinc (v := (l102_3 + (1 : Int32))) (lv' := [(3, .int (l102_3 + (1 : Int32))), (0, .ref a_t), (1, .int l102_1), (2, .int l102_2), (4, .int l102_4), (5, .int l102_5), (6, .int l102_6)]) hx hb d_Md_save_141 hl (k := 3) rfl rfl (by decide) rfl (fun ls hl => ?_)
                    refine lv_goto (tgt := 32) hx hb d_Md_save_144 (by decide) ?_
                    exact ih32 l102_1 l102_2 (l102_3 + (1 : Int32)) x_t_thrown_102 y11.1 x_t_sought_102 y11.2 _ _ _ h hP hD hS (lv_sub hl [1, 2, 3, 0] rfl)
                  · replace h := (if_neg c10).symm.trans h
                    refine lv_iload hx hb d_Md_save_109 (lv_at hl 5 rfl) ?_
                    refine lv_iload hx hb d_Md_save_111 (lv_at hl 6 rfl) ?_
                    refine lv_ishr hx hb d_Md_save_113 ?_
                    refine lv_iconst (v := (1 : Int32)) hx hb d_Md_save_114 (by decide) ?_
                    refine lv_iand hx hb d_Md_save_115 ?_
                    refine lv_iconst (v := (1 : Int32)) hx hb d_Md_save_116 (by decide) ?_
                    refine lv_icmp_ne (tgt := 129) hx hb d_Md_save_117 (by decide) (fun c12 => ?_) (fun c12 => ?_)
                    · replace h := (if_neg c12).symm.trans h
                      refine lv_iinc (v := (l102_6 + (1 : Int32))) (lv' := [(6, .int (l102_6 + (1 : Int32))), (0, .ref a_t), (1, .int l102_1), (2, .int l102_2), (3, .int l102_3), (4, .int l102_4), (5, .int l102_5)]) hx hb d_Md_save_129 hl (k := 6) rfl rfl (by decide) rfl (fun ls hl => ?_)
                      refine lv_goto (tgt := 102) hx hb d_Md_save_132 (by decide) ?_
                      exact ih102 l102_1 l102_2 l102_3 l102_4 l102_5 (l102_6 + (1 : Int32)) x_t_thrown_102 x_t_at_102 x_t_sought_102 x_t_found_102 _ _ _ h hP hD hS (lv_sub hl [1, 2, 3, 4, 5, 6, 0] rfl)
                    · replace h := (if_pos c12).symm.trans h
                      refine lv_aload_n hx hb d_Md_save_120 rfl (lv_at hl 0 rfl) ?_
                      refine lv_bipush (v := (48 : Int32)) hx hb d_Md_save_121 (by decide) ?_
                      refine lv_iload hx hb d_Md_save_123 (lv_at hl 6 rfl) ?_
                      refine lv_iadd hx hb d_Md_save_125 ?_
                      obtain ⟨y13, hy13, h⟩ := o_bind h
                      have hPc := hP.sub (ws' := (ws_Md_say G a_t a_t_truth a_t_entries a_t_marked a_t_present a_t_helped a_t_counted a_t_told a_t_runs a_t_whose a_t_where a_t_what a_t_before a_t_behind a_t_isOn a_t_tryEntries a_t_tryMarks a_t_text x_t_thrown_102 x_t_places x_t_persons x_t_many x_t_size x_t_at_102 x_t_sought_102 x_t_found_102)) [0] rfl
                      have hDc := hD.sub (ws' := (ws_Md_say G a_t a_t_truth a_t_entries a_t_marked a_t_present a_t_helped a_t_counted a_t_told a_t_runs a_t_whose a_t_where a_t_what a_t_before a_t_behind a_t_isOn a_t_tryEntries a_t_tryMarks a_t_text x_t_thrown_102 x_t_places x_t_persons x_t_many x_t_size x_t_at_102 x_t_sought_102 x_t_found_102)) [0] (by decide) rfl
                      have hFc := va_free (wc := (ws_Md_say G a_t a_t_truth a_t_entries a_t_marked a_t_present a_t_helped a_t_counted a_t_told a_t_runs a_t_whose a_t_where a_t_what a_t_before a_t_behind a_t_isOn a_t_tryEntries a_t_tryMarks a_t_text x_t_thrown_102 x_t_places x_t_persons x_t_many x_t_size x_t_at_102 x_t_sought_102 x_t_found_102)) hD hS hA [0] rfl
                      refine q_call0 (va_runV (As := [.int ((48 : Int32) + l102_6)]) (rest := []) ⟨hx, hb, hml, hown, hts⟩ (c_Md_say l G H.size a_t a_t_truth a_t_entries a_t_marked a_t_present a_t_helped a_t_counted a_t_told a_t_runs a_t_whose a_t_where a_t_what a_t_before a_t_behind a_t_isOn a_t_tryEntries a_t_tryMarks a_t_text ((48 : Int32) + l102_6) x_t_thrown_102 x_t_places x_t_persons x_t_many x_t_size x_t_at_102 x_t_sought_102 x_t_found_102 _ _ hy13) (cwV 1 hts (gV gw_524 gw_525 gw_26 gw_36 gw_526) rfl rfl rfl (by decide +kernel) ⟨Nat.le_of_ble_eq_true rfl, Nat.le_of_ble_eq_true rfl⟩) (pV hK hN hPc hDc (ci := 6) (q0 := 0) rfl rfl) rfl rfl hl.1 rfl (lv_room (Nat.le_of_ble_eq_true rfl)) d_Md_save_126 ⟨Nat.le_of_ble_eq_true rfl, Nat.le_of_ble_eq_true rfl⟩) hS (fun q _ h => hFc q h) hFc (fun H1 locs hB hz hk hS => ?_)
                      obtain ⟨hP, hD⟩ := q_join (wr := [(a_t_entries, .inl (G.2 0, 648, .inl x_t_entries)), (a_t_marked, .inl (G.2 0, 648, .inl x_t_marked))]) (wn := (ws_Md_save G a_t a_t_truth a_t_present a_t_helped a_t_counted a_t_told a_t_runs a_t_whose a_t_where a_t_what a_t_before a_t_behind a_t_isOn a_t_tryEntries a_t_tryMarks a_t_text a_t_entries a_t_marked x_t_thrown_102 x_t_places x_t_persons x_t_many x_t_size y13.1 x_t_sought_102 y13.2 x_t_entries x_t_marked)) hP hD [0] [1, 2] [2, 0, 1] rfl rfl (by decide) (by decide) rfl (by decide) hk hFc hB.1 hB.2
                      generalize H1 = H at hP hS ⊢
                      replace hP : va_P G.1 vwCl (ws_Md_save G a_t a_t_truth a_t_present a_t_helped a_t_counted a_t_told a_t_runs a_t_whose a_t_where a_t_what a_t_before a_t_behind a_t_isOn a_t_tryEntries a_t_tryMarks a_t_text a_t_entries a_t_marked x_t_thrown_102 x_t_places x_t_persons x_t_many x_t_size y13.1 x_t_sought_102 y13.2 x_t_entries x_t_marked) H := hP
                      replace hD : va_D A (ws_Md_save G a_t a_t_truth a_t_present a_t_helped a_t_counted a_t_told a_t_runs a_t_whose a_t_where a_t_what a_t_before a_t_behind a_t_isOn a_t_tryEntries a_t_tryMarks a_t_text a_t_entries a_t_marked x_t_thrown_102 x_t_places x_t_persons x_t_many x_t_size y13.1 x_t_sought_102 y13.2 x_t_entries x_t_marked) := hD
                      refine lv_iinc (v := (l102_6 + (1 : Int32))) (lv' := [(6, .int (l102_6 + (1 : Int32))), (0, .ref a_t), (1, .int l102_1), (2, .int l102_2), (3, .int l102_3), (4, .int l102_4), (5, .int l102_5)]) hx hb d_Md_save_129 hl (k := 6) rfl rfl (by decide) rfl (fun ls hl => ?_)
                      refine lv_goto (tgt := 102) hx hb d_Md_save_132 (by decide) ?_
                      exact ih102 l102_1 l102_2 l102_3 l102_4 l102_5 (l102_6 + (1 : Int32)) x_t_thrown_102 y13.1 x_t_sought_102 y13.2 _ _ _ h hP hD hS (lv_sub hl [1, 2, 3, 4, 5, 6, 0] rfl)
              exact L102 fu l32_1 l32_2 l32_3 (x_t_entries (((81 : Int32) * l32_1) + l32_3).toNatClampNeg) (x_t_marked (((81 : Int32) * l32_1) + l32_3).toNatClampNeg) (1 : Int32) x_t_thrown_32 y9.1 x_t_sought_32 y9.2 _ _ _ h hP hD hS (lv_sub hl [3, 4, 5, 6, 2, 1, 0] rfl)
            · replace h := (if_pos c8).symm.trans h
              refine lv_goto (tgt := 141) hx hb d_Md_save_90 (by decide) ?_
              refine lv_iinc (v := (l32_3 + (1 : Int32))) (lv' := [(3, .int (l32_3 + (1 : Int32))), (5, .int (x_t_marked (((81 : Int32) * l32_1) + l32_3).toNatClampNeg)), (4, .int (x_t_entries (((81 : Int32) * l32_1) + l32_3).toNatClampNeg)), (0, .ref a_t), (1, .int l32_1), (2, .int l32_2)]) hx hb d_Md_save_141 hl (k := 5) rfl rfl (by decide) rfl (fun ls hl => ?_)
              refine lv_goto (tgt := 32) hx hb d_Md_save_144 (by decide) ?_
              exact ih32 l32_1 l32_2 (l32_3 + (1 : Int32)) x_t_thrown_32 y7.1 x_t_sought_32 y7.2 _ _ _ h hP hD hS (lv_sub hl [3, 4, 5, 0] rfl)
          · replace h := (if_pos c6).symm.trans h
            refine lv_bipush (v := (46 : Int32)) hx hb d_Md_save_72 (by decide) ?_
            refine lv_goto (tgt := 82) hx hb d_Md_save_74 (by decide) ?_
            obtain ⟨y14, hy14, h⟩ := o_bind h
            have hPc := hP.sub (ws' := (ws_Md_say G a_t a_t_truth a_t_entries a_t_marked a_t_present a_t_helped a_t_counted a_t_told a_t_runs a_t_whose a_t_where a_t_what a_t_before a_t_behind a_t_isOn a_t_tryEntries a_t_tryMarks a_t_text x_t_thrown_32 x_t_places x_t_persons x_t_many x_t_size x_t_at_32 x_t_sought_32 x_t_found_32)) [0] rfl
            have hDc := hD.sub (ws' := (ws_Md_say G a_t a_t_truth a_t_entries a_t_marked a_t_present a_t_helped a_t_counted a_t_told a_t_runs a_t_whose a_t_where a_t_what a_t_before a_t_behind a_t_isOn a_t_tryEntries a_t_tryMarks a_t_text x_t_thrown_32 x_t_places x_t_persons x_t_many x_t_size x_t_at_32 x_t_sought_32 x_t_found_32)) [0] (by decide) rfl
            have hFc := va_free (wc := (ws_Md_say G a_t a_t_truth a_t_entries a_t_marked a_t_present a_t_helped a_t_counted a_t_told a_t_runs a_t_whose a_t_where a_t_what a_t_before a_t_behind a_t_isOn a_t_tryEntries a_t_tryMarks a_t_text x_t_thrown_32 x_t_places x_t_persons x_t_many x_t_size x_t_at_32 x_t_sought_32 x_t_found_32)) hD hS hA [0] rfl
            refine q_call0 (va_runV (As := [.int (46 : Int32)]) (rest := []) ⟨hx, hb, hml, hown, hts⟩ (c_Md_say l G H.size a_t a_t_truth a_t_entries a_t_marked a_t_present a_t_helped a_t_counted a_t_told a_t_runs a_t_whose a_t_where a_t_what a_t_before a_t_behind a_t_isOn a_t_tryEntries a_t_tryMarks a_t_text (46 : Int32) x_t_thrown_32 x_t_places x_t_persons x_t_many x_t_size x_t_at_32 x_t_sought_32 x_t_found_32 _ _ hy14) (cwV 1 hts (gV gw_524 gw_525 gw_26 gw_36 gw_526) rfl rfl rfl (by decide +kernel) ⟨Nat.le_of_ble_eq_true rfl, Nat.le_of_ble_eq_true rfl⟩) (pV hK hN hPc hDc (ci := 6) (q0 := 0) rfl rfl) rfl rfl hl.1 rfl (lv_room (Nat.le_of_ble_eq_true rfl)) d_Md_save_82 ⟨Nat.le_of_ble_eq_true rfl, Nat.le_of_ble_eq_true rfl⟩) hS (fun q _ h => hFc q h) hFc (fun H1 locs hB hz hk hS => ?_)
            obtain ⟨hP, hD⟩ := q_join (wr := [(a_t_entries, .inl (G.2 0, 648, .inl x_t_entries)), (a_t_marked, .inl (G.2 0, 648, .inl x_t_marked))]) (wn := (ws_Md_save G a_t a_t_truth a_t_present a_t_helped a_t_counted a_t_told a_t_runs a_t_whose a_t_where a_t_what a_t_before a_t_behind a_t_isOn a_t_tryEntries a_t_tryMarks a_t_text a_t_entries a_t_marked x_t_thrown_32 x_t_places x_t_persons x_t_many x_t_size y14.1 x_t_sought_32 y14.2 x_t_entries x_t_marked)) hP hD [0] [1, 2] [2, 0, 1] rfl rfl (by decide) (by decide) rfl (by decide) hk hFc hB.1 hB.2
            generalize H1 = H at hP hS ⊢
            replace hP : va_P G.1 vwCl (ws_Md_save G a_t a_t_truth a_t_present a_t_helped a_t_counted a_t_told a_t_runs a_t_whose a_t_where a_t_what a_t_before a_t_behind a_t_isOn a_t_tryEntries a_t_tryMarks a_t_text a_t_entries a_t_marked x_t_thrown_32 x_t_places x_t_persons x_t_many x_t_size y14.1 x_t_sought_32 y14.2 x_t_entries x_t_marked) H := hP
            replace hD : va_D A (ws_Md_save G a_t a_t_truth a_t_present a_t_helped a_t_counted a_t_told a_t_runs a_t_whose a_t_where a_t_what a_t_before a_t_behind a_t_isOn a_t_tryEntries a_t_tryMarks a_t_text a_t_entries a_t_marked x_t_thrown_32 x_t_places x_t_persons x_t_many x_t_size y14.1 x_t_sought_32 y14.2 x_t_entries x_t_marked) := hD
            refine lv_iload hx hb d_Md_save_85 (lv_at hl 0 rfl) ?_
            refine lv_if_ne (tgt := 93) hx hb d_Md_save_87 (by decide) (fun c15 => ?_) (fun c15 => ?_)
            · replace h := (if_neg c15).symm.trans h
              refine lv_aload_n hx hb d_Md_save_93 rfl (lv_at hl 2 rfl) ?_
              refine lv_bipush (v := (40 : Int32)) hx hb d_Md_save_94 (by decide) ?_
              obtain ⟨y16, hy16, h⟩ := o_bind h
              have hPc := hP.sub (ws' := (ws_Md_say G a_t a_t_truth a_t_entries a_t_marked a_t_present a_t_helped a_t_counted a_t_told a_t_runs a_t_whose a_t_where a_t_what a_t_before a_t_behind a_t_isOn a_t_tryEntries a_t_tryMarks a_t_text x_t_thrown_32 x_t_places x_t_persons x_t_many x_t_size y14.1 x_t_sought_32 y14.2)) [0] rfl
              have hDc := hD.sub (ws' := (ws_Md_say G a_t a_t_truth a_t_entries a_t_marked a_t_present a_t_helped a_t_counted a_t_told a_t_runs a_t_whose a_t_where a_t_what a_t_before a_t_behind a_t_isOn a_t_tryEntries a_t_tryMarks a_t_text x_t_thrown_32 x_t_places x_t_persons x_t_many x_t_size y14.1 x_t_sought_32 y14.2)) [0] (by decide) rfl
              have hFc := va_free (wc := (ws_Md_say G a_t a_t_truth a_t_entries a_t_marked a_t_present a_t_helped a_t_counted a_t_told a_t_runs a_t_whose a_t_where a_t_what a_t_before a_t_behind a_t_isOn a_t_tryEntries a_t_tryMarks a_t_text x_t_thrown_32 x_t_places x_t_persons x_t_many x_t_size y14.1 x_t_sought_32 y14.2)) hD hS hA [0] rfl
              refine q_call0 (va_runV (As := [.int (40 : Int32)]) (rest := []) ⟨hx, hb, hml, hown, hts⟩ (c_Md_say l G H.size a_t a_t_truth a_t_entries a_t_marked a_t_present a_t_helped a_t_counted a_t_told a_t_runs a_t_whose a_t_where a_t_what a_t_before a_t_behind a_t_isOn a_t_tryEntries a_t_tryMarks a_t_text (40 : Int32) x_t_thrown_32 x_t_places x_t_persons x_t_many x_t_size y14.1 x_t_sought_32 y14.2 _ _ hy16) (cwV 1 hts (gV gw_524 gw_525 gw_26 gw_36 gw_526) rfl rfl rfl (by decide +kernel) ⟨Nat.le_of_ble_eq_true rfl, Nat.le_of_ble_eq_true rfl⟩) (pV hK hN hPc hDc (ci := 6) (q0 := 0) rfl rfl) rfl rfl hl.1 rfl (lv_room (Nat.le_of_ble_eq_true rfl)) d_Md_save_96 ⟨Nat.le_of_ble_eq_true rfl, Nat.le_of_ble_eq_true rfl⟩) hS (fun q _ h => hFc q h) hFc (fun H1 locs hB hz hk hS => ?_)
              obtain ⟨hP, hD⟩ := q_join (wr := [(a_t_entries, .inl (G.2 0, 648, .inl x_t_entries)), (a_t_marked, .inl (G.2 0, 648, .inl x_t_marked))]) (wn := (ws_Md_save G a_t a_t_truth a_t_present a_t_helped a_t_counted a_t_told a_t_runs a_t_whose a_t_where a_t_what a_t_before a_t_behind a_t_isOn a_t_tryEntries a_t_tryMarks a_t_text a_t_entries a_t_marked x_t_thrown_32 x_t_places x_t_persons x_t_many x_t_size y16.1 x_t_sought_32 y16.2 x_t_entries x_t_marked)) hP hD [0] [1, 2] [2, 0, 1] rfl rfl (by decide) (by decide) rfl (by decide) hk hFc hB.1 hB.2
              generalize H1 = H at hP hS ⊢
              replace hP : va_P G.1 vwCl (ws_Md_save G a_t a_t_truth a_t_present a_t_helped a_t_counted a_t_told a_t_runs a_t_whose a_t_where a_t_what a_t_before a_t_behind a_t_isOn a_t_tryEntries a_t_tryMarks a_t_text a_t_entries a_t_marked x_t_thrown_32 x_t_places x_t_persons x_t_many x_t_size y16.1 x_t_sought_32 y16.2 x_t_entries x_t_marked) H := hP
              replace hD : va_D A (ws_Md_save G a_t a_t_truth a_t_present a_t_helped a_t_counted a_t_told a_t_runs a_t_whose a_t_where a_t_what a_t_before a_t_behind a_t_isOn a_t_tryEntries a_t_tryMarks a_t_text a_t_entries a_t_marked x_t_thrown_32 x_t_places x_t_persons x_t_many x_t_size y16.1 x_t_sought_32 y16.2 x_t_entries x_t_marked) := hD
              refine lv_iconst (v := (1 : Int32)) hx hb d_Md_save_99 (by decide) ?_
              refine lv_istore (lv' := [(6, .int (1 : Int32)), (5, .int (x_t_marked (((81 : Int32) * l32_1) + l32_3).toNatClampNeg)), (4, .int (x_t_entries (((81 : Int32) * l32_1) + l32_3).toNatClampNeg)), (0, .ref a_t), (1, .int l32_1), (2, .int l32_2), (3, .int l32_3)]) hx hb d_Md_save_100 hl (by decide) rfl (fun ls hl => ?_)
              have L102 : ∀ (nf : Nat) (l102_1 : Int32) (l102_2 : Int32) (l102_3 : Int32) (l102_4 : Int32) (l102_5 : Int32) (l102_6 : Int32) (x_t_thrown_102 : Int32) (x_t_at_102 : Int32) (x_t_sought_102 : Int32) (x_t_found_102 : Int32) (H : Heap) (locs : List Loc) (ls : Array Slot), f_Md_save_L102 fu x_t_places x_t_persons x_t_many x_t_size x_t_entries x_t_marked (f_Md_save_L32 fu x_t_places x_t_persons x_t_many x_t_size x_t_entries x_t_marked n32) nf l102_1 l102_2 l102_3 l102_4 l102_5 l102_6 x_t_thrown_102 x_t_at_102 x_t_sought_102 x_t_found_102 = some (r, x_t_thrown', x_t_at', x_t_sought', x_t_found') → va_P G.1 vwCl (ws_Md_save G a_t a_t_truth a_t_present a_t_helped a_t_counted a_t_told a_t_runs a_t_whose a_t_where a_t_what a_t_before a_t_behind a_t_isOn a_t_tryEntries a_t_tryMarks a_t_text a_t_entries a_t_marked x_t_thrown_102 x_t_places x_t_persons x_t_many x_t_size x_t_at_102 x_t_sought_102 x_t_found_102 x_t_entries x_t_marked) H → va_D A (ws_Md_save G a_t a_t_truth a_t_present a_t_helped a_t_counted a_t_told a_t_runs a_t_whose a_t_where a_t_what a_t_before a_t_behind a_t_isOn a_t_tryEntries a_t_tryMarks a_t_text a_t_entries a_t_marked x_t_thrown_102 x_t_places x_t_persons x_t_many x_t_size x_t_at_102 x_t_sought_102 x_t_found_102 x_t_entries x_t_marked) → va_S A s.heap H locs → lv_has ls 7 [(0, .ref a_t), (1, .int l102_1), (2, .int l102_2), (3, .int l102_3), (4, .int l102_4), (5, .int l102_5), (6, .int l102_6)] → W p l e { frames := 1, cells := 0, slots := 0, locals := 21 } s m args below meth c H locs 0 0 (MQ below (qQ (some (.int r)) (wB G (ws_Md_save G a_t a_t_truth a_t_present a_t_helped a_t_counted a_t_told a_t_runs a_t_whose a_t_where a_t_what a_t_before a_t_behind a_t_isOn a_t_tryEntries a_t_tryMarks a_t_text a_t_entries a_t_marked x_t_thrown' x_t_places x_t_persons x_t_many x_t_size x_t_at' x_t_sought' x_t_found' x_t_entries x_t_marked) A) A) args s 0 0 A) (F0 m 102 ls []) := by
                clear h hP hD hS hl
                intro n102
                induction n102 with
                | zero => intro _ _ _ _ _ _ _ _ _ _ H locs ls h; exact nomatch (show none = some _ from h)
                | succ n102 ih102 =>
                  intro l102_1 l102_2 l102_3 l102_4 l102_5 l102_6 x_t_thrown_102 x_t_at_102 x_t_sought_102 x_t_found_102 H locs ls h hP hD hS hl
                  replace h : fb_Md_save_L102 fu x_t_places x_t_persons x_t_many x_t_size x_t_entries x_t_marked (f_Md_save_L32 fu x_t_places x_t_persons x_t_many x_t_size x_t_entries x_t_marked n32) (f_Md_save_L102 fu x_t_places x_t_persons x_t_many x_t_size x_t_entries x_t_marked (f_Md_save_L32 fu x_t_places x_t_persons x_t_many x_t_size x_t_entries x_t_marked n32) n102) l102_1 l102_2 l102_3 l102_4 l102_5 l102_6 x_t_thrown_102 x_t_at_102 x_t_sought_102 x_t_found_102 = some (r, x_t_thrown', x_t_at', x_t_sought', x_t_found') := h
                  unfold fb_Md_save_L102 at h
                  refine lv_iload hx hb d_Md_save_102 (lv_at hl 6 rfl) ?_
                  refine lv_bipush (v := (10 : Int32)) hx hb d_Md_save_104 (by decide) ?_
                  refine lv_icmp_ge (tgt := 135) hx hb d_Md_save_106 (by decide) (fun c17 => ?_) (fun c17 => ?_)
                  · replace h := (if_pos c17).symm.trans h
                    refine lv_aload_n hx hb d_Md_save_135 rfl (lv_at hl 0 rfl) ?_
                    refine lv_bipush (v := (41 : Int32)) hx hb d_Md_save_136 (by decide) ?_
                    obtain ⟨y18, hy18, h⟩ := o_bind h
                    have hPc := hP.sub (ws' := (ws_Md_say G a_t a_t_truth a_t_entries a_t_marked a_t_present a_t_helped a_t_counted a_t_told a_t_runs a_t_whose a_t_where a_t_what a_t_before a_t_behind a_t_isOn a_t_tryEntries a_t_tryMarks a_t_text x_t_thrown_102 x_t_places x_t_persons x_t_many x_t_size x_t_at_102 x_t_sought_102 x_t_found_102)) [0] rfl
                    have hDc := hD.sub (ws' := (ws_Md_say G a_t a_t_truth a_t_entries a_t_marked a_t_present a_t_helped a_t_counted a_t_told a_t_runs a_t_whose a_t_where a_t_what a_t_before a_t_behind a_t_isOn a_t_tryEntries a_t_tryMarks a_t_text x_t_thrown_102 x_t_places x_t_persons x_t_many x_t_size x_t_at_102 x_t_sought_102 x_t_found_102)) [0] (by decide) rfl
                    have hFc := va_free (wc := (ws_Md_say G a_t a_t_truth a_t_entries a_t_marked a_t_present a_t_helped a_t_counted a_t_told a_t_runs a_t_whose a_t_where a_t_what a_t_before a_t_behind a_t_isOn a_t_tryEntries a_t_tryMarks a_t_text x_t_thrown_102 x_t_places x_t_persons x_t_many x_t_size x_t_at_102 x_t_sought_102 x_t_found_102)) hD hS hA [0] rfl
                    refine q_call0 (va_runV (As := [.int (41 : Int32)]) (rest := []) ⟨hx, hb, hml, hown, hts⟩ (c_Md_say l G H.size a_t a_t_truth a_t_entries a_t_marked a_t_present a_t_helped a_t_counted a_t_told a_t_runs a_t_whose a_t_where a_t_what a_t_before a_t_behind a_t_isOn a_t_tryEntries a_t_tryMarks a_t_text (41 : Int32) x_t_thrown_102 x_t_places x_t_persons x_t_many x_t_size x_t_at_102 x_t_sought_102 x_t_found_102 _ _ hy18) (cwV 1 hts (gV gw_524 gw_525 gw_26 gw_36 gw_526) rfl rfl rfl (by decide +kernel) ⟨Nat.le_of_ble_eq_true rfl, Nat.le_of_ble_eq_true rfl⟩) (pV hK hN hPc hDc (ci := 6) (q0 := 0) rfl rfl) rfl rfl hl.1 rfl (lv_room (Nat.le_of_ble_eq_true rfl)) d_Md_save_138 ⟨Nat.le_of_ble_eq_true rfl, Nat.le_of_ble_eq_true rfl⟩) hS (fun q _ h => hFc q h) hFc (fun H1 locs hB hz hk hS => ?_)
                    obtain ⟨hP, hD⟩ := q_join (wr := [(a_t_entries, .inl (G.2 0, 648, .inl x_t_entries)), (a_t_marked, .inl (G.2 0, 648, .inl x_t_marked))]) (wn := (ws_Md_save G a_t a_t_truth a_t_present a_t_helped a_t_counted a_t_told a_t_runs a_t_whose a_t_where a_t_what a_t_before a_t_behind a_t_isOn a_t_tryEntries a_t_tryMarks a_t_text a_t_entries a_t_marked x_t_thrown_102 x_t_places x_t_persons x_t_many x_t_size y18.1 x_t_sought_102 y18.2 x_t_entries x_t_marked)) hP hD [0] [1, 2] [2, 0, 1] rfl rfl (by decide) (by decide) rfl (by decide) hk hFc hB.1 hB.2
                    generalize H1 = H at hP hS ⊢
                    replace hP : va_P G.1 vwCl (ws_Md_save G a_t a_t_truth a_t_present a_t_helped a_t_counted a_t_told a_t_runs a_t_whose a_t_where a_t_what a_t_before a_t_behind a_t_isOn a_t_tryEntries a_t_tryMarks a_t_text a_t_entries a_t_marked x_t_thrown_102 x_t_places x_t_persons x_t_many x_t_size y18.1 x_t_sought_102 y18.2 x_t_entries x_t_marked) H := hP
                    replace hD : va_D A (ws_Md_save G a_t a_t_truth a_t_present a_t_helped a_t_counted a_t_told a_t_runs a_t_whose a_t_where a_t_what a_t_before a_t_behind a_t_isOn a_t_tryEntries a_t_tryMarks a_t_text a_t_entries a_t_marked x_t_thrown_102 x_t_places x_t_persons x_t_many x_t_size y18.1 x_t_sought_102 y18.2 x_t_entries x_t_marked) := hD
                    refine lv_iinc (v := (l102_3 + (1 : Int32))) (lv' := [(3, .int (l102_3 + (1 : Int32))), (0, .ref a_t), (1, .int l102_1), (2, .int l102_2), (4, .int l102_4), (5, .int l102_5), (6, .int l102_6)]) hx hb d_Md_save_141 hl (k := 3) rfl rfl (by decide) rfl (fun ls hl => ?_)
                    refine lv_goto (tgt := 32) hx hb d_Md_save_144 (by decide) ?_
                    exact ih32 l102_1 l102_2 (l102_3 + (1 : Int32)) x_t_thrown_102 y18.1 x_t_sought_102 y18.2 _ _ _ h hP hD hS (lv_sub hl [1, 2, 3, 0] rfl)
                  · replace h := (if_neg c17).symm.trans h
                    refine lv_iload hx hb d_Md_save_109 (lv_at hl 5 rfl) ?_
                    refine lv_iload hx hb d_Md_save_111 (lv_at hl 6 rfl) ?_
                    refine lv_ishr hx hb d_Md_save_113 ?_
                    refine lv_iconst (v := (1 : Int32)) hx hb d_Md_save_114 (by decide) ?_
                    refine lv_iand hx hb d_Md_save_115 ?_
                    refine lv_iconst (v := (1 : Int32)) hx hb d_Md_save_116 (by decide) ?_
                    refine lv_icmp_ne (tgt := 129) hx hb d_Md_save_117 (by decide) (fun c19 => ?_) (fun c19 => ?_)
                    · replace h := (if_neg c19).symm.trans h
                      refine lv_iinc (v := (l102_6 + (1 : Int32))) (lv' := [(6, .int (l102_6 + (1 : Int32))), (0, .ref a_t), (1, .int l102_1), (2, .int l102_2), (3, .int l102_3), (4, .int l102_4), (5, .int l102_5)]) hx hb d_Md_save_129 hl (k := 6) rfl rfl (by decide) rfl (fun ls hl => ?_)
                      refine lv_goto (tgt := 102) hx hb d_Md_save_132 (by decide) ?_
                      exact ih102 l102_1 l102_2 l102_3 l102_4 l102_5 (l102_6 + (1 : Int32)) x_t_thrown_102 x_t_at_102 x_t_sought_102 x_t_found_102 _ _ _ h hP hD hS (lv_sub hl [1, 2, 3, 4, 5, 6, 0] rfl)
                    · replace h := (if_pos c19).symm.trans h
                      refine lv_aload_n hx hb d_Md_save_120 rfl (lv_at hl 0 rfl) ?_
                      refine lv_bipush (v := (48 : Int32)) hx hb d_Md_save_121 (by decide) ?_
                      refine lv_iload hx hb d_Md_save_123 (lv_at hl 6 rfl) ?_
                      refine lv_iadd hx hb d_Md_save_125 ?_
                      obtain ⟨y20, hy20, h⟩ := o_bind h
                      have hPc := hP.sub (ws' := (ws_Md_say G a_t a_t_truth a_t_entries a_t_marked a_t_present a_t_helped a_t_counted a_t_told a_t_runs a_t_whose a_t_where a_t_what a_t_before a_t_behind a_t_isOn a_t_tryEntries a_t_tryMarks a_t_text x_t_thrown_102 x_t_places x_t_persons x_t_many x_t_size x_t_at_102 x_t_sought_102 x_t_found_102)) [0] rfl
                      have hDc := hD.sub (ws' := (ws_Md_say G a_t a_t_truth a_t_entries a_t_marked a_t_present a_t_helped a_t_counted a_t_told a_t_runs a_t_whose a_t_where a_t_what a_t_before a_t_behind a_t_isOn a_t_tryEntries a_t_tryMarks a_t_text x_t_thrown_102 x_t_places x_t_persons x_t_many x_t_size x_t_at_102 x_t_sought_102 x_t_found_102)) [0] (by decide) rfl
                      have hFc := va_free (wc := (ws_Md_say G a_t a_t_truth a_t_entries a_t_marked a_t_present a_t_helped a_t_counted a_t_told a_t_runs a_t_whose a_t_where a_t_what a_t_before a_t_behind a_t_isOn a_t_tryEntries a_t_tryMarks a_t_text x_t_thrown_102 x_t_places x_t_persons x_t_many x_t_size x_t_at_102 x_t_sought_102 x_t_found_102)) hD hS hA [0] rfl
                      refine q_call0 (va_runV (As := [.int ((48 : Int32) + l102_6)]) (rest := []) ⟨hx, hb, hml, hown, hts⟩ (c_Md_say l G H.size a_t a_t_truth a_t_entries a_t_marked a_t_present a_t_helped a_t_counted a_t_told a_t_runs a_t_whose a_t_where a_t_what a_t_before a_t_behind a_t_isOn a_t_tryEntries a_t_tryMarks a_t_text ((48 : Int32) + l102_6) x_t_thrown_102 x_t_places x_t_persons x_t_many x_t_size x_t_at_102 x_t_sought_102 x_t_found_102 _ _ hy20) (cwV 1 hts (gV gw_524 gw_525 gw_26 gw_36 gw_526) rfl rfl rfl (by decide +kernel) ⟨Nat.le_of_ble_eq_true rfl, Nat.le_of_ble_eq_true rfl⟩) (pV hK hN hPc hDc (ci := 6) (q0 := 0) rfl rfl) rfl rfl hl.1 rfl (lv_room (Nat.le_of_ble_eq_true rfl)) d_Md_save_126 ⟨Nat.le_of_ble_eq_true rfl, Nat.le_of_ble_eq_true rfl⟩) hS (fun q _ h => hFc q h) hFc (fun H1 locs hB hz hk hS => ?_)
                      obtain ⟨hP, hD⟩ := q_join (wr := [(a_t_entries, .inl (G.2 0, 648, .inl x_t_entries)), (a_t_marked, .inl (G.2 0, 648, .inl x_t_marked))]) (wn := (ws_Md_save G a_t a_t_truth a_t_present a_t_helped a_t_counted a_t_told a_t_runs a_t_whose a_t_where a_t_what a_t_before a_t_behind a_t_isOn a_t_tryEntries a_t_tryMarks a_t_text a_t_entries a_t_marked x_t_thrown_102 x_t_places x_t_persons x_t_many x_t_size y20.1 x_t_sought_102 y20.2 x_t_entries x_t_marked)) hP hD [0] [1, 2] [2, 0, 1] rfl rfl (by decide) (by decide) rfl (by decide) hk hFc hB.1 hB.2
                      generalize H1 = H at hP hS ⊢
                      replace hP : va_P G.1 vwCl (ws_Md_save G a_t a_t_truth a_t_present a_t_helped a_t_counted a_t_told a_t_runs a_t_whose a_t_where a_t_what a_t_before a_t_behind a_t_isOn a_t_tryEntries a_t_tryMarks a_t_text a_t_entries a_t_marked x_t_thrown_102 x_t_places x_t_persons x_t_many x_t_size y20.1 x_t_sought_102 y20.2 x_t_entries x_t_marked) H := hP
                      replace hD : va_D A (ws_Md_save G a_t a_t_truth a_t_present a_t_helped a_t_counted a_t_told a_t_runs a_t_whose a_t_where a_t_what a_t_before a_t_behind a_t_isOn a_t_tryEntries a_t_tryMarks a_t_text a_t_entries a_t_marked x_t_thrown_102 x_t_places x_t_persons x_t_many x_t_size y20.1 x_t_sought_102 y20.2 x_t_entries x_t_marked) := hD
                      refine lv_iinc (v := (l102_6 + (1 : Int32))) (lv' := [(6, .int (l102_6 + (1 : Int32))), (0, .ref a_t), (1, .int l102_1), (2, .int l102_2), (3, .int l102_3), (4, .int l102_4), (5, .int l102_5)]) hx hb d_Md_save_129 hl (k := 6) rfl rfl (by decide) rfl (fun ls hl => ?_)
                      refine lv_goto (tgt := 102) hx hb d_Md_save_132 (by decide) ?_
                      exact ih102 l102_1 l102_2 l102_3 l102_4 l102_5 (l102_6 + (1 : Int32)) x_t_thrown_102 y20.1 x_t_sought_102 y20.2 _ _ _ h hP hD hS (lv_sub hl [1, 2, 3, 4, 5, 6, 0] rfl)
              exact L102 fu l32_1 l32_2 l32_3 (x_t_entries (((81 : Int32) * l32_1) + l32_3).toNatClampNeg) (x_t_marked (((81 : Int32) * l32_1) + l32_3).toNatClampNeg) (1 : Int32) x_t_thrown_32 y16.1 x_t_sought_32 y16.2 _ _ _ h hP hD hS (lv_sub hl [3, 4, 5, 6, 2, 1, 0] rfl)
            · replace h := (if_pos c15).symm.trans h
              refine lv_goto (tgt := 141) hx hb d_Md_save_90 (by decide) ?_
              refine lv_iinc (v := (l32_3 + (1 : Int32))) (lv' := [(3, .int (l32_3 + (1 : Int32))), (5, .int (x_t_marked (((81 : Int32) * l32_1) + l32_3).toNatClampNeg)), (4, .int (x_t_entries (((81 : Int32) * l32_1) + l32_3).toNatClampNeg)), (0, .ref a_t), (1, .int l32_1), (2, .int l32_2)]) hx hb d_Md_save_141 hl (k := 5) rfl rfl (by decide) rfl (fun ls hl => ?_)
              refine lv_goto (tgt := 32) hx hb d_Md_save_144 (by decide) ?_
              exact ih32 l32_1 l32_2 (l32_3 + (1 : Int32)) x_t_thrown_32 y14.1 x_t_sought_32 y14.2 _ _ _ h hP hD hS (lv_sub hl [3, 4, 5, 0] rfl)
    exact L32 fu p0 p1 (0 : Int32) (0 : Int32) (0 : Int32) p1 (-1 : Int32) _ _ _ h hP hD hS (lv_sub hl [1, 2, 3, 0] rfl)
  · replace h := (if_pos c2).symm.trans h
    refine lv_iconst (v := (-1 : Int32)) hx hb d_Md_save_13 (by decide) ?_
    cases h
    exact q_iretW hx hb hr hlocks hP hD hS d_Md_save_14

theorem gw_397 : (.fieldLink "PlayStatesModel" 54 "PlayStatesModel" "tryEntries" "[I" : Cond) ∈ GW := gT 435 (by decide +kernel) (by decide +kernel)
theorem gw_540 : (.code ⟨"PlayStatesModel", "digitAt", "(I)I"⟩ prog_8_method_32_code 2 (some .int) : Cond) ∈ GW := gT 617 (by decide +kernel) (by decide +kernel)
theorem gw_538 : (.methodLink "PlayStatesModel" 135 ⟨"PlayStatesModel", "digitAt", "(I)I"⟩ : Cond) ∈ GW := gT 614 (by decide +kernel) (by decide +kernel)
theorem gw_539 : (.instanceMethod ⟨"PlayStatesModel", "digitAt", "(I)I"⟩ : Cond) ∈ GW := gT 616 (by decide +kernel) (by decide +kernel)
theorem gw_28 : (.selects "PlayStatesModel" ⟨"PlayStatesModel", "digitAt", "(I)I"⟩ ⟨"PlayStatesModel", "digitAt", "(I)I"⟩ : Cond) ∈ GW := gP 28 (by decide +kernel) (by decide +kernel)
theorem gw_398 : (.fieldLink "PlayStatesModel" 57 "PlayStatesModel" "tryMarks" "[I" : Cond) ∈ GW := gT 436 (by decide +kernel) (by decide +kernel)
theorem d_Md_parse_0 : decode prog_8_method_33_code 0 = .ok (.iconst 0, 1) := by decide +kernel
theorem d_Md_parse_1 : decode prog_8_method_33_code 1 = .ok (.istore_n 1, 1) := by decide +kernel
theorem d_Md_parse_2 : decode prog_8_method_33_code 2 = .ok (.iconst 0, 1) := by decide +kernel
theorem d_Md_parse_3 : decode prog_8_method_33_code 3 = .ok (.istore_n 2, 1) := by decide +kernel
theorem d_Md_parse_4 : decode prog_8_method_33_code 4 = .ok (.iload_n 2, 1) := by decide +kernel
theorem d_Md_parse_5 : decode prog_8_method_33_code 5 = .ok (.aload_n 0, 1) := by decide +kernel
theorem d_Md_parse_6 : decode prog_8_method_33_code 6 = .ok (.getfield 63, 3) := by decide +kernel
theorem d_Md_parse_9 : decode prog_8_method_33_code 9 = .ok (.if_icmp .ge 125, 3) := by decide +kernel
theorem d_Md_parse_12 : decode prog_8_method_33_code 12 = .ok (.aload_n 0, 1) := by decide +kernel
theorem d_Md_parse_13 : decode prog_8_method_33_code 13 = .ok (.getfield 54, 3) := by decide +kernel
theorem d_Md_parse_16 : decode prog_8_method_33_code 16 = .ok (.iload_n 2, 1) := by decide +kernel
theorem d_Md_parse_17 : decode prog_8_method_33_code 17 = .ok (.aload_n 0, 1) := by decide +kernel
theorem d_Md_parse_18 : decode prog_8_method_33_code 18 = .ok (.iload_n 1, 1) := by decide +kernel
theorem d_Md_parse_19 : decode prog_8_method_33_code 19 = .ok (.invokevirtual 135, 3) := by decide +kernel
theorem d_Md_parse_22 : decode prog_8_method_33_code 22 = .ok (.iastore, 1) := by decide +kernel
theorem d_Md_parse_23 : decode prog_8_method_33_code 23 = .ok (.aload_n 0, 1) := by decide +kernel
theorem d_Md_parse_24 : decode prog_8_method_33_code 24 = .ok (.getfield 57, 3) := by decide +kernel
theorem d_Md_parse_27 : decode prog_8_method_33_code 27 = .ok (.iload_n 2, 1) := by decide +kernel
theorem d_Md_parse_28 : decode prog_8_method_33_code 28 = .ok (.iconst 0, 1) := by decide +kernel
theorem d_Md_parse_29 : decode prog_8_method_33_code 29 = .ok (.iastore, 1) := by decide +kernel
theorem d_Md_parse_30 : decode prog_8_method_33_code 30 = .ok (.aload_n 0, 1) := by decide +kernel
theorem d_Md_parse_31 : decode prog_8_method_33_code 31 = .ok (.getfield 54, 3) := by decide +kernel
theorem d_Md_parse_34 : decode prog_8_method_33_code 34 = .ok (.iload_n 2, 1) := by decide +kernel
theorem d_Md_parse_35 : decode prog_8_method_33_code 35 = .ok (.iaload, 1) := by decide +kernel
theorem d_Md_parse_36 : decode prog_8_method_33_code 36 = .ok (.ifCond .ne 15, 3) := by decide +kernel
theorem d_Md_parse_39 : decode prog_8_method_33_code 39 = .ok (.aload_n 0, 1) := by decide +kernel
theorem d_Md_parse_40 : decode prog_8_method_33_code 40 = .ok (.iload_n 1, 1) := by decide +kernel
theorem d_Md_parse_41 : decode prog_8_method_33_code 41 = .ok (.invokevirtual 131, 3) := by decide +kernel
theorem d_Md_parse_44 : decode prog_8_method_33_code 44 = .ok (.bipush 46, 2) := by decide +kernel
theorem d_Md_parse_46 : decode prog_8_method_33_code 46 = .ok (.if_icmp .eq 5, 3) := by decide +kernel
theorem d_Md_parse_49 : decode prog_8_method_33_code 49 = .ok (.iload_n 1, 1) := by decide +kernel
theorem d_Md_parse_50 : decode prog_8_method_33_code 50 = .ok (.ireturn, 1) := by decide +kernel
theorem d_Md_parse_51 : decode prog_8_method_33_code 51 = .ok (.iinc 1 1, 3) := by decide +kernel
theorem d_Md_parse_54 : decode prog_8_method_33_code 54 = .ok (.aload_n 0, 1) := by decide +kernel
theorem d_Md_parse_55 : decode prog_8_method_33_code 55 = .ok (.iload_n 1, 1) := by decide +kernel
theorem d_Md_parse_56 : decode prog_8_method_33_code 56 = .ok (.invokevirtual 131, 3) := by decide +kernel
theorem d_Md_parse_59 : decode prog_8_method_33_code 59 = .ok (.bipush 40, 2) := by decide +kernel
theorem d_Md_parse_61 : decode prog_8_method_33_code 61 = .ok (.if_icmp .eq 6, 3) := by decide +kernel
theorem d_Md_parse_64 : decode prog_8_method_33_code 64 = .ok (.goto 64, 3) := by decide +kernel
theorem d_Md_parse_67 : decode prog_8_method_33_code 67 = .ok (.iinc 1 1, 3) := by decide +kernel
theorem d_Md_parse_70 : decode prog_8_method_33_code 70 = .ok (.iconst 0, 1) := by decide +kernel
theorem d_Md_parse_71 : decode prog_8_method_33_code 71 = .ok (.istore_n 3, 1) := by decide +kernel
theorem d_Md_parse_72 : decode prog_8_method_33_code 72 = .ok (.aload_n 0, 1) := by decide +kernel
theorem d_Md_parse_73 : decode prog_8_method_33_code 73 = .ok (.iload_n 1, 1) := by decide +kernel
theorem d_Md_parse_74 : decode prog_8_method_33_code 74 = .ok (.invokevirtual 135, 3) := by decide +kernel
theorem d_Md_parse_77 : decode prog_8_method_33_code 77 = .ok (.iload_n 3, 1) := by decide +kernel
theorem d_Md_parse_78 : decode prog_8_method_33_code 78 = .ok (.if_icmp .le 31, 3) := by decide +kernel
theorem d_Md_parse_81 : decode prog_8_method_33_code 81 = .ok (.aload_n 0, 1) := by decide +kernel
theorem d_Md_parse_82 : decode prog_8_method_33_code 82 = .ok (.iload_n 1, 1) := by decide +kernel
theorem d_Md_parse_83 : decode prog_8_method_33_code 83 = .ok (.invokevirtual 135, 3) := by decide +kernel
theorem d_Md_parse_86 : decode prog_8_method_33_code 86 = .ok (.istore_n 3, 1) := by decide +kernel
theorem d_Md_parse_87 : decode prog_8_method_33_code 87 = .ok (.aload_n 0, 1) := by decide +kernel
theorem d_Md_parse_88 : decode prog_8_method_33_code 88 = .ok (.getfield 57, 3) := by decide +kernel
theorem d_Md_parse_91 : decode prog_8_method_33_code 91 = .ok (.iload_n 2, 1) := by decide +kernel
theorem d_Md_parse_92 : decode prog_8_method_33_code 92 = .ok (.aload_n 0, 1) := by decide +kernel
theorem d_Md_parse_93 : decode prog_8_method_33_code 93 = .ok (.getfield 57, 3) := by decide +kernel
theorem d_Md_parse_96 : decode prog_8_method_33_code 96 = .ok (.iload_n 2, 1) := by decide +kernel
theorem d_Md_parse_97 : decode prog_8_method_33_code 97 = .ok (.iaload, 1) := by decide +kernel
theorem d_Md_parse_98 : decode prog_8_method_33_code 98 = .ok (.iconst 1, 1) := by decide +kernel
theorem d_Md_parse_99 : decode prog_8_method_33_code 99 = .ok (.iload_n 3, 1) := by decide +kernel
theorem d_Md_parse_100 : decode prog_8_method_33_code 100 = .ok (.ishl, 1) := by decide +kernel
theorem d_Md_parse_101 : decode prog_8_method_33_code 101 = .ok (.ior, 1) := by decide +kernel
theorem d_Md_parse_102 : decode prog_8_method_33_code 102 = .ok (.iastore, 1) := by decide +kernel
theorem d_Md_parse_103 : decode prog_8_method_33_code 103 = .ok (.iinc 1 1, 3) := by decide +kernel
theorem d_Md_parse_106 : decode prog_8_method_33_code 106 = .ok (.goto (-34), 3) := by decide +kernel
theorem d_Md_parse_109 : decode prog_8_method_33_code 109 = .ok (.iload_n 3, 1) := by decide +kernel
theorem d_Md_parse_110 : decode prog_8_method_33_code 110 = .ok (.ifCond .eq 13, 3) := by decide +kernel
theorem d_Md_parse_113 : decode prog_8_method_33_code 113 = .ok (.aload_n 0, 1) := by decide +kernel
theorem d_Md_parse_114 : decode prog_8_method_33_code 114 = .ok (.iload_n 1, 1) := by decide +kernel
theorem d_Md_parse_115 : decode prog_8_method_33_code 115 = .ok (.invokevirtual 131, 3) := by decide +kernel
theorem d_Md_parse_118 : decode prog_8_method_33_code 118 = .ok (.bipush 41, 2) := by decide +kernel
theorem d_Md_parse_120 : decode prog_8_method_33_code 120 = .ok (.if_icmp .eq 5, 3) := by decide +kernel
theorem d_Md_parse_123 : decode prog_8_method_33_code 123 = .ok (.iload_n 1, 1) := by decide +kernel
theorem d_Md_parse_124 : decode prog_8_method_33_code 124 = .ok (.ireturn, 1) := by decide +kernel
theorem d_Md_parse_125 : decode prog_8_method_33_code 125 = .ok (.iinc 1 1, 3) := by decide +kernel
theorem d_Md_parse_128 : decode prog_8_method_33_code 128 = .ok (.iinc 2 1, 3) := by decide +kernel
theorem d_Md_parse_131 : decode prog_8_method_33_code 131 = .ok (.goto (-127), 3) := by decide +kernel
theorem d_Md_parse_134 : decode prog_8_method_33_code 134 = .ok (.iload_n 1, 1) := by decide +kernel
theorem d_Md_parse_135 : decode prog_8_method_33_code 135 = .ok (.aload_n 0, 1) := by decide +kernel
theorem d_Md_parse_136 : decode prog_8_method_33_code 136 = .ok (.getfield 128, 3) := by decide +kernel
theorem d_Md_parse_139 : decode prog_8_method_33_code 139 = .ok (.if_icmp .ge 7, 3) := by decide +kernel
theorem d_Md_parse_142 : decode prog_8_method_33_code 142 = .ok (.iload_n 1, 1) := by decide +kernel
theorem d_Md_parse_143 : decode prog_8_method_33_code 143 = .ok (.goto 4, 3) := by decide +kernel
theorem d_Md_parse_146 : decode prog_8_method_33_code 146 = .ok (.iconst (-1), 1) := by decide +kernel
theorem d_Md_parse_147 : decode prog_8_method_33_code 147 = .ok (.ireturn, 1) := by decide +kernel
-- PlayStatesModel.parse()I 
def ws_Md_parse (G : gG) (a_t a_t_truth a_t_entries a_t_marked a_t_present a_t_helped a_t_counted a_t_told a_t_runs a_t_whose a_t_where a_t_what a_t_before a_t_behind a_t_isOn a_t_tryEntries a_t_tryMarks a_t_text : Nat)  (x_t_thrown : Int32) (x_t_places : Int32) (x_t_persons : Int32) (x_t_many : Int32) (x_t_size : Int32) (x_t_at : Int32) (x_t_sought : Int32) (x_t_found : Int32) (x_t_tryEntries : Nat → Int32) (x_t_tryMarks : Nat → Int32) (x_t_text : Nat → Int32) : va_W := [(a_t, .inr (6, [.int x_t_thrown, .int x_t_places, .int x_t_persons, .ref a_t_truth, .ref a_t_entries, .ref a_t_marked, .ref a_t_present, .ref a_t_helped, .ref a_t_counted, .ref a_t_told, .ref a_t_runs, .int x_t_many, .ref a_t_whose, .ref a_t_where, .ref a_t_what, .ref a_t_before, .ref a_t_behind, .ref a_t_isOn, .ref a_t_tryEntries, .ref a_t_tryMarks, .int x_t_size, .ref a_t_text, .int x_t_at, .int x_t_sought, .int x_t_found])), (a_t_tryEntries, .inl (G.2 0, 81, .inl x_t_tryEntries)), (a_t_tryMarks, .inl (G.2 0, 81, .inl x_t_tryMarks)), (a_t_text, .inl (G.2 0, 1000, .inl x_t_text))]
def fb_Md_parse_L72 (fu : Nat) (x_t_thrown : Int32) (x_t_places : Int32) (x_t_persons : Int32) (x_t_many : Int32) (x_t_size : Int32) (x_t_at : Int32) (x_t_sought : Int32) (x_t_found : Int32) (x_t_text : Nat → Int32) (k4 : (Int32 → Int32 → (Nat → Int32) → (Nat → Int32) → Option (Int32 × (Nat → Int32) × (Nat → Int32)))) (k72 : (Int32 → Int32 → Int32 → (Nat → Int32) → (Nat → Int32) → Option (Int32 × (Nat → Int32) × (Nat → Int32)))) (l72_1 : Int32) (l72_2 : Int32) (l72_3 : Int32) (x_t_tryEntries_72 : Nat → Int32) (x_t_tryMarks_72 : Nat → Int32) : Option (Int32 × (Nat → Int32) × (Nat → Int32)) :=
  ((f_Md_digitAt l72_1 x_t_thrown x_t_places x_t_persons x_t_many x_t_size x_t_at x_t_sought x_t_found x_t_text).bind fun y10 => (if y10 ≤ l72_3 then (if l72_3 = 0 then some (l72_1, x_t_tryEntries_72, x_t_tryMarks_72) else ((f_Md_byteAt l72_1 x_t_thrown x_t_places x_t_persons x_t_many x_t_size x_t_at x_t_sought x_t_found x_t_text).bind fun y13 => (if y13 = (41 : Int32) then (k4 (l72_1 + (1 : Int32)) (l72_2 + (1 : Int32)) x_t_tryEntries_72 x_t_tryMarks_72) else some (l72_1, x_t_tryEntries_72, x_t_tryMarks_72)))) else ((f_Md_digitAt l72_1 x_t_thrown x_t_places x_t_persons x_t_many x_t_size x_t_at x_t_sought x_t_found x_t_text).bind fun y15 => (if inB l72_2 81 then (if inB l72_2 81 then (k72 (l72_1 + (1 : Int32)) l72_2 y15 x_t_tryEntries_72 (upd x_t_tryMarks_72 l72_2.toNatClampNeg ((x_t_tryMarks_72 l72_2.toNatClampNeg) ||| ((1 : Int32) <<< (y15 &&& 31))))) else none) else none))))
def f_Md_parse_L72 (fu : Nat) (x_t_thrown : Int32) (x_t_places : Int32) (x_t_persons : Int32) (x_t_many : Int32) (x_t_size : Int32) (x_t_at : Int32) (x_t_sought : Int32) (x_t_found : Int32) (x_t_text : Nat → Int32) (k4 : (Int32 → Int32 → (Nat → Int32) → (Nat → Int32) → Option (Int32 × (Nat → Int32) × (Nat → Int32)))) : Nat → Int32 → Int32 → Int32 → (Nat → Int32) → (Nat → Int32) → Option (Int32 × (Nat → Int32) × (Nat → Int32))
  | 0 => fun _ _ _ _ _ => none
  | k9 + 1 => fb_Md_parse_L72 fu x_t_thrown x_t_places x_t_persons x_t_many x_t_size x_t_at x_t_sought x_t_found x_t_text k4 (f_Md_parse_L72 fu x_t_thrown x_t_places x_t_persons x_t_many x_t_size x_t_at x_t_sought x_t_found x_t_text k4 k9)
def fb_Md_parse_L4 (fu : Nat) (x_t_thrown : Int32) (x_t_places : Int32) (x_t_persons : Int32) (x_t_many : Int32) (x_t_size : Int32) (x_t_at : Int32) (x_t_sought : Int32) (x_t_found : Int32) (x_t_text : Nat → Int32)  (k4 : (Int32 → Int32 → (Nat → Int32) → (Nat → Int32) → Option (Int32 × (Nat → Int32) × (Nat → Int32)))) (l4_1 : Int32) (l4_2 : Int32) (x_t_tryEntries_4 : Nat → Int32) (x_t_tryMarks_4 : Nat → Int32) : Option (Int32 × (Nat → Int32) × (Nat → Int32)) :=
  (if x_t_places ≤ l4_2 then (if x_t_size ≤ l4_1 then some ((-1 : Int32), x_t_tryEntries_4, x_t_tryMarks_4) else some (l4_1, x_t_tryEntries_4, x_t_tryMarks_4)) else ((f_Md_digitAt l4_1 x_t_thrown x_t_places x_t_persons x_t_many x_t_size x_t_at x_t_sought x_t_found x_t_text).bind fun y3 => (if inB l4_2 81 then (if inB l4_2 81 then (if inB l4_2 81 then (if ((upd x_t_tryEntries_4 l4_2.toNatClampNeg y3) l4_2.toNatClampNeg) = 0 then ((f_Md_byteAt l4_1 x_t_thrown x_t_places x_t_persons x_t_many x_t_size x_t_at x_t_sought x_t_found x_t_text).bind fun y18 => (if y18 = (46 : Int32) then ((f_Md_byteAt (l4_1 + (1 : Int32)) x_t_thrown x_t_places x_t_persons x_t_many x_t_size x_t_at x_t_sought x_t_found x_t_text).bind fun y20 => (if y20 = (40 : Int32) then (f_Md_parse_L72 fu x_t_thrown x_t_places x_t_persons x_t_many x_t_size x_t_at x_t_sought x_t_found x_t_text k4 fu ((l4_1 + (1 : Int32)) + (1 : Int32)) l4_2 (0 : Int32) (upd x_t_tryEntries_4 l4_2.toNatClampNeg y3) (upd x_t_tryMarks_4 l4_2.toNatClampNeg (0 : Int32))) else (k4 (l4_1 + (1 : Int32)) (l4_2 + (1 : Int32)) (upd x_t_tryEntries_4 l4_2.toNatClampNeg y3) (upd x_t_tryMarks_4 l4_2.toNatClampNeg (0 : Int32))))) else some (l4_1, (upd x_t_tryEntries_4 l4_2.toNatClampNeg y3), (upd x_t_tryMarks_4 l4_2.toNatClampNeg (0 : Int32))))) else ((f_Md_byteAt (l4_1 + (1 : Int32)) x_t_thrown x_t_places x_t_persons x_t_many x_t_size x_t_at x_t_sought x_t_found x_t_text).bind fun y8 => (if y8 = (40 : Int32) then (f_Md_parse_L72 fu x_t_thrown x_t_places x_t_persons x_t_many x_t_size x_t_at x_t_sought x_t_found x_t_text k4 fu ((l4_1 + (1 : Int32)) + (1 : Int32)) l4_2 (0 : Int32) (upd x_t_tryEntries_4 l4_2.toNatClampNeg y3) (upd x_t_tryMarks_4 l4_2.toNatClampNeg (0 : Int32))) else (k4 (l4_1 + (1 : Int32)) (l4_2 + (1 : Int32)) (upd x_t_tryEntries_4 l4_2.toNatClampNeg y3) (upd x_t_tryMarks_4 l4_2.toNatClampNeg (0 : Int32)))))) else none) else none) else none)))
def f_Md_parse_L4 (fu : Nat) (x_t_thrown : Int32) (x_t_places : Int32) (x_t_persons : Int32) (x_t_many : Int32) (x_t_size : Int32) (x_t_at : Int32) (x_t_sought : Int32) (x_t_found : Int32) (x_t_text : Nat → Int32)  : Nat → Int32 → Int32 → (Nat → Int32) → (Nat → Int32) → Option (Int32 × (Nat → Int32) × (Nat → Int32))
  | 0 => fun _ _ _ _ => none
  | k9 + 1 => fb_Md_parse_L4 fu x_t_thrown x_t_places x_t_persons x_t_many x_t_size x_t_at x_t_sought x_t_found x_t_text (f_Md_parse_L4 fu x_t_thrown x_t_places x_t_persons x_t_many x_t_size x_t_at x_t_sought x_t_found x_t_text k9)
def f_Md_parse (fu : Nat)   (x_t_thrown : Int32) (x_t_places : Int32) (x_t_persons : Int32) (x_t_many : Int32) (x_t_size : Int32) (x_t_at : Int32) (x_t_sought : Int32) (x_t_found : Int32) (x_t_tryEntries : Nat → Int32) (x_t_tryMarks : Nat → Int32) (x_t_text : Nat → Int32) : Option (Int32 × (Nat → Int32) × (Nat → Int32)) :=
  (f_Md_parse_L4 fu x_t_thrown x_t_places x_t_persons x_t_many x_t_size x_t_at x_t_sought x_t_found x_t_text fu (0 : Int32) (0 : Int32) x_t_tryEntries x_t_tryMarks)
set_option maxHeartbeats 4000000 in
set_option maxRecDepth 100000 in
theorem c_Md_parse (l : Launch) (G : gG) (sz : Nat) (a_t a_t_truth a_t_entries a_t_marked a_t_present a_t_helped a_t_counted a_t_told a_t_runs a_t_whose a_t_where a_t_what a_t_before a_t_behind a_t_isOn a_t_tryEntries a_t_tryMarks a_t_text : Nat) (fu : Nat)   (x_t_thrown : Int32) (x_t_places : Int32) (x_t_persons : Int32) (x_t_many : Int32) (x_t_size : Int32) (x_t_at : Int32) (x_t_sought : Int32) (x_t_found : Int32) (x_t_tryEntries : Nat → Int32) (x_t_tryMarks : Nat → Int32) (x_t_text : Nat → Int32) (r : Int32) (x_t_tryEntries' : Nat → Int32) (x_t_tryMarks' : Nat → Int32) (h : f_Md_parse fu x_t_thrown x_t_places x_t_persons x_t_many x_t_size x_t_at x_t_sought x_t_found x_t_tryEntries x_t_tryMarks x_t_text = some (r, x_t_tryEntries', x_t_tryMarks'))  : cN l y_Md_parse w_Md_parse { frames := 2, cells := 0, slots := 0, locals := 42 } G sz [.ref a_t] (ws_Md_parse G a_t a_t_truth a_t_entries a_t_marked a_t_present a_t_helped a_t_counted a_t_told a_t_runs a_t_whose a_t_where a_t_what a_t_before a_t_behind a_t_isOn a_t_tryEntries a_t_tryMarks a_t_text x_t_thrown x_t_places x_t_persons x_t_many x_t_size x_t_at x_t_sought x_t_found x_t_tryEntries x_t_tryMarks x_t_text) (some (.int r)) (wB G (ws_Md_parse G a_t a_t_truth a_t_entries a_t_marked a_t_present a_t_helped a_t_counted a_t_told a_t_runs a_t_whose a_t_where a_t_what a_t_before a_t_behind a_t_isOn a_t_tryEntries a_t_tryMarks a_t_text x_t_thrown x_t_places x_t_persons x_t_many x_t_size x_t_at x_t_sought x_t_found x_t_tryEntries' x_t_tryMarks' x_t_text)) 0 0 := by
  refine cN_ofW (cc := prog_8_method_33_code) (maxL := 4) (ret := (some .int)) (by decide) rfl (Nat.le_of_ble_eq_true rfl) ?_
  intro p e s m args below meth c A H locs ls hx hb hr hts hown hlocks hin hml hK hN hP hD hA hS hl
  replace hl : lv_has ls 4 [(0, .ref a_t)] := hl
  replace hown : s.vm.findClass "PlayStatesModel" = some m.cls := hown
  unfold f_Md_parse at h
  refine lv_iconst (v := (0 : Int32)) hx hb d_Md_parse_0 (by decide) ?_
  refine lv_istore_n (lv' := [(1, .int (0 : Int32)), (0, .ref a_t)]) hx hb d_Md_parse_1 rfl hl (by decide) rfl (fun ls hl => ?_)
  refine lv_iconst (v := (0 : Int32)) hx hb d_Md_parse_2 (by decide) ?_
  refine lv_istore_n (lv' := [(2, .int (0 : Int32)), (1, .int (0 : Int32)), (0, .ref a_t)]) hx hb d_Md_parse_3 rfl hl (by decide) rfl (fun ls hl => ?_)
  have L4 : ∀ (nf : Nat) (l4_1 : Int32) (l4_2 : Int32) (x_t_tryEntries_4 : Nat → Int32) (x_t_tryMarks_4 : Nat → Int32) (H : Heap) (locs : List Loc) (ls : Array Slot), f_Md_parse_L4 fu x_t_thrown x_t_places x_t_persons x_t_many x_t_size x_t_at x_t_sought x_t_found x_t_text nf l4_1 l4_2 x_t_tryEntries_4 x_t_tryMarks_4 = some (r, x_t_tryEntries', x_t_tryMarks') → va_P G.1 vwCl (ws_Md_parse G a_t a_t_truth a_t_entries a_t_marked a_t_present a_t_helped a_t_counted a_t_told a_t_runs a_t_whose a_t_where a_t_what a_t_before a_t_behind a_t_isOn a_t_tryEntries a_t_tryMarks a_t_text x_t_thrown x_t_places x_t_persons x_t_many x_t_size x_t_at x_t_sought x_t_found x_t_tryEntries_4 x_t_tryMarks_4 x_t_text) H → va_D A (ws_Md_parse G a_t a_t_truth a_t_entries a_t_marked a_t_present a_t_helped a_t_counted a_t_told a_t_runs a_t_whose a_t_where a_t_what a_t_before a_t_behind a_t_isOn a_t_tryEntries a_t_tryMarks a_t_text x_t_thrown x_t_places x_t_persons x_t_many x_t_size x_t_at x_t_sought x_t_found x_t_tryEntries_4 x_t_tryMarks_4 x_t_text) → va_S A s.heap H locs → lv_has ls 4 [(0, .ref a_t), (1, .int l4_1), (2, .int l4_2)] → W p l e { frames := 2, cells := 0, slots := 0, locals := 42 } s m args below meth c H locs 0 0 (MQ below (qQ (some (.int r)) (wB G (ws_Md_parse G a_t a_t_truth a_t_entries a_t_marked a_t_present a_t_helped a_t_counted a_t_told a_t_runs a_t_whose a_t_where a_t_what a_t_before a_t_behind a_t_isOn a_t_tryEntries a_t_tryMarks a_t_text x_t_thrown x_t_places x_t_persons x_t_many x_t_size x_t_at x_t_sought x_t_found x_t_tryEntries' x_t_tryMarks' x_t_text) A) A) args s 0 0 A) (F0 m 4 ls []) := by
    clear h hP hD hS hl
    intro n4
    induction n4 with
    | zero => intro _ _ _ _ H locs ls h; exact nomatch (show none = some _ from h)
    | succ n4 ih4 =>
      intro l4_1 l4_2 x_t_tryEntries_4 x_t_tryMarks_4 H locs ls h hP hD hS hl
      replace h : fb_Md_parse_L4 fu x_t_thrown x_t_places x_t_persons x_t_many x_t_size x_t_at x_t_sought x_t_found x_t_text (f_Md_parse_L4 fu x_t_thrown x_t_places x_t_persons x_t_many x_t_size x_t_at x_t_sought x_t_found x_t_text n4) l4_1 l4_2 x_t_tryEntries_4 x_t_tryMarks_4 = some (r, x_t_tryEntries', x_t_tryMarks') := h
      unfold fb_Md_parse_L4 at h
      refine lv_iload_n hx hb d_Md_parse_4 rfl (lv_at hl 2 rfl) ?_
      refine lv_aload_n hx hb d_Md_parse_5 rfl (lv_at hl 0 rfl) ?_
      refine va_get (D := G.1) (ci := 6) (v := .int x_t_places) (C := "PlayStatesModel") (T := TMd) (N := 25) hx hb hts iw_6 hown hK hP 0 rfl rfl 1 (by decide) (hts _ gw_380) (fun _ h9 => h9) rfl d_Md_parse_6 ?_
      refine lv_icmp_ge (tgt := 134) hx hb d_Md_parse_9 (by decide) (fun c1 => ?_) (fun c1 => ?_)
      · replace h := (if_pos c1).symm.trans h
        refine lv_iload_n hx hb d_Md_parse_134 rfl (lv_at hl 1 rfl) ?_
        refine lv_aload_n hx hb d_Md_parse_135 rfl (lv_at hl 0 rfl) ?_
        refine va_get (D := G.1) (ci := 6) (v := .int x_t_size) (C := "PlayStatesModel") (T := TMd) (N := 25) hx hb hts iw_6 hown hK hP 0 rfl rfl 20 (by decide) (hts _ gw_399) (fun _ h9 => h9) rfl d_Md_parse_136 ?_
        refine lv_icmp_ge (tgt := 146) hx hb d_Md_parse_139 (by decide) (fun c2 => ?_) (fun c2 => ?_)
        · replace h := (if_pos c2).symm.trans h
          refine lv_iconst (v := (-1 : Int32)) hx hb d_Md_parse_146 (by decide) ?_
          cases h
          exact q_iretW hx hb hr hlocks hP hD hS d_Md_parse_147
        · replace h := (if_neg c2).symm.trans h
          refine lv_iload_n hx hb d_Md_parse_142 rfl (lv_at hl 1 rfl) ?_
          refine lv_goto (tgt := 147) hx hb d_Md_parse_143 (by decide) ?_
          cases h
          exact q_iretW hx hb hr hlocks hP hD hS d_Md_parse_147
      · replace h := (if_neg c1).symm.trans h
        refine lv_aload_n hx hb d_Md_parse_12 rfl (lv_at hl 0 rfl) ?_
        refine va_get (D := G.1) (ci := 6) (v := .ref a_t_tryEntries) (C := "PlayStatesModel") (T := TMd) (N := 25) hx hb hts iw_6 hown hK hP 0 rfl rfl 18 (by decide) (hts _ gw_397) (fun _ h9 => h9) rfl d_Md_parse_13 ?_
        refine lv_iload_n hx hb d_Md_parse_16 rfl (lv_at hl 2 rfl) ?_
        refine lv_aload_n hx hb d_Md_parse_17 rfl (lv_at hl 0 rfl) ?_
        refine lv_iload_n hx hb d_Md_parse_18 rfl (lv_at hl 1 rfl) ?_
        obtain ⟨y3, hy3, h⟩ := o_bind h
        have hPc := hP.sub (ws' := (ws_Md_digitAt G a_t a_t_truth a_t_entries a_t_marked a_t_present a_t_helped a_t_counted a_t_told a_t_runs a_t_whose a_t_where a_t_what a_t_before a_t_behind a_t_isOn a_t_tryEntries a_t_tryMarks a_t_text x_t_thrown x_t_places x_t_persons x_t_many x_t_size x_t_at x_t_sought x_t_found x_t_text)) [0, 3] rfl
        have hDc := hD.sub (ws' := (ws_Md_digitAt G a_t a_t_truth a_t_entries a_t_marked a_t_present a_t_helped a_t_counted a_t_told a_t_runs a_t_whose a_t_where a_t_what a_t_before a_t_behind a_t_isOn a_t_tryEntries a_t_tryMarks a_t_text x_t_thrown x_t_places x_t_persons x_t_many x_t_size x_t_at x_t_sought x_t_found x_t_text)) [0, 3] (by decide) rfl
        have hFc := va_free (wc := (ws_Md_digitAt G a_t a_t_truth a_t_entries a_t_marked a_t_present a_t_helped a_t_counted a_t_told a_t_runs a_t_whose a_t_where a_t_what a_t_before a_t_behind a_t_isOn a_t_tryEntries a_t_tryMarks a_t_text x_t_thrown x_t_places x_t_persons x_t_many x_t_size x_t_at x_t_sought x_t_found x_t_text)) hD hS hA [0, 3] rfl
        refine q_call1 (va_runV (As := [.int l4_1]) (rest := [.int l4_2, .ref a_t_tryEntries]) ⟨hx, hb, hml, hown, hts⟩ (c_Md_digitAt l G H.size a_t a_t_truth a_t_entries a_t_marked a_t_present a_t_helped a_t_counted a_t_told a_t_runs a_t_whose a_t_where a_t_what a_t_before a_t_behind a_t_isOn a_t_tryEntries a_t_tryMarks a_t_text l4_1 x_t_thrown x_t_places x_t_persons x_t_many x_t_size x_t_at x_t_sought x_t_found x_t_text _ hy3) (cwV 1 hts (gV gw_538 gw_539 gw_28 gw_36 gw_540) rfl rfl rfl (by decide +kernel) ⟨Nat.le_of_ble_eq_true rfl, Nat.le_of_ble_eq_true rfl⟩) (pV hK hN hPc hDc (ci := 6) (q0 := 0) rfl rfl) rfl rfl hl.1 rfl (lv_room (Nat.le_of_ble_eq_true rfl)) d_Md_parse_19 ⟨Nat.le_of_ble_eq_true rfl, Nat.le_of_ble_eq_true rfl⟩) hS (fun q _ h => hFc q h) hFc (fun H1 locs hB hz hk hS => ?_)
        obtain ⟨hP, hD⟩ := q_join (wr := [(a_t_tryEntries, .inl (G.2 0, 81, .inl x_t_tryEntries_4)), (a_t_tryMarks, .inl (G.2 0, 81, .inl x_t_tryMarks_4))]) (wn := (ws_Md_parse G a_t a_t_truth a_t_entries a_t_marked a_t_present a_t_helped a_t_counted a_t_told a_t_runs a_t_whose a_t_where a_t_what a_t_before a_t_behind a_t_isOn a_t_tryEntries a_t_tryMarks a_t_text x_t_thrown x_t_places x_t_persons x_t_many x_t_size x_t_at x_t_sought x_t_found x_t_tryEntries_4 x_t_tryMarks_4 x_t_text)) hP hD [0, 3] [1, 2] [2, 0, 1, 3] rfl rfl (by decide) (by decide) rfl (by decide) hk hFc hB.1 hB.2
        generalize H1 = H at hP hS ⊢
        replace hP : va_P G.1 vwCl (ws_Md_parse G a_t a_t_truth a_t_entries a_t_marked a_t_present a_t_helped a_t_counted a_t_told a_t_runs a_t_whose a_t_where a_t_what a_t_before a_t_behind a_t_isOn a_t_tryEntries a_t_tryMarks a_t_text x_t_thrown x_t_places x_t_persons x_t_many x_t_size x_t_at x_t_sought x_t_found x_t_tryEntries_4 x_t_tryMarks_4 x_t_text) H := hP
        replace hD : va_D A (ws_Md_parse G a_t a_t_truth a_t_entries a_t_marked a_t_present a_t_helped a_t_counted a_t_told a_t_runs a_t_whose a_t_where a_t_what a_t_before a_t_behind a_t_isOn a_t_tryEntries a_t_tryMarks a_t_text x_t_thrown x_t_places x_t_persons x_t_many x_t_size x_t_at x_t_sought x_t_found x_t_tryEntries_4 x_t_tryMarks_4 x_t_text) := hD
        obtain ⟨i4, h⟩ := o_if h
        refine va_iast (n := 81) (f := x_t_tryEntries_4) hx hb hK hP hD hS 1 0 rfl rfl i4 d_Md_parse_22 (fun H locs hP hD hS => ?_)
        replace hP : va_P G.1 vwCl (ws_Md_parse G a_t a_t_truth a_t_entries a_t_marked a_t_present a_t_helped a_t_counted a_t_told a_t_runs a_t_whose a_t_where a_t_what a_t_before a_t_behind a_t_isOn a_t_tryEntries a_t_tryMarks a_t_text x_t_thrown x_t_places x_t_persons x_t_many x_t_size x_t_at x_t_sought x_t_found (upd x_t_tryEntries_4 l4_2.toNatClampNeg y3) x_t_tryMarks_4 x_t_text) H := hP
        replace hD : va_D A (ws_Md_parse G a_t a_t_truth a_t_entries a_t_marked a_t_present a_t_helped a_t_counted a_t_told a_t_runs a_t_whose a_t_where a_t_what a_t_before a_t_behind a_t_isOn a_t_tryEntries a_t_tryMarks a_t_text x_t_thrown x_t_places x_t_persons x_t_many x_t_size x_t_at x_t_sought x_t_found (upd x_t_tryEntries_4 l4_2.toNatClampNeg y3) x_t_tryMarks_4 x_t_text) := hD
        refine lv_aload_n hx hb d_Md_parse_23 rfl (lv_at hl 0 rfl) ?_
        refine va_get (D := G.1) (ci := 6) (v := .ref a_t_tryMarks) (C := "PlayStatesModel") (T := TMd) (N := 25) hx hb hts iw_6 hown hK hP 0 rfl rfl 19 (by decide) (hts _ gw_398) (fun _ h9 => h9) rfl d_Md_parse_24 ?_
        refine lv_iload_n hx hb d_Md_parse_27 rfl (lv_at hl 2 rfl) ?_
        refine lv_iconst (v := (0 : Int32)) hx hb d_Md_parse_28 (by decide) ?_
        obtain ⟨i5, h⟩ := o_if h
        refine va_iast (n := 81) (f := x_t_tryMarks_4) hx hb hK hP hD hS 2 0 rfl rfl i5 d_Md_parse_29 (fun H locs hP hD hS => ?_)
        replace hP : va_P G.1 vwCl (ws_Md_parse G a_t a_t_truth a_t_entries a_t_marked a_t_present a_t_helped a_t_counted a_t_told a_t_runs a_t_whose a_t_where a_t_what a_t_before a_t_behind a_t_isOn a_t_tryEntries a_t_tryMarks a_t_text x_t_thrown x_t_places x_t_persons x_t_many x_t_size x_t_at x_t_sought x_t_found (upd x_t_tryEntries_4 l4_2.toNatClampNeg y3) (upd x_t_tryMarks_4 l4_2.toNatClampNeg (0 : Int32)) x_t_text) H := hP
        replace hD : va_D A (ws_Md_parse G a_t a_t_truth a_t_entries a_t_marked a_t_present a_t_helped a_t_counted a_t_told a_t_runs a_t_whose a_t_where a_t_what a_t_before a_t_behind a_t_isOn a_t_tryEntries a_t_tryMarks a_t_text x_t_thrown x_t_places x_t_persons x_t_many x_t_size x_t_at x_t_sought x_t_found (upd x_t_tryEntries_4 l4_2.toNatClampNeg y3) (upd x_t_tryMarks_4 l4_2.toNatClampNeg (0 : Int32)) x_t_text) := hD
        refine lv_aload_n hx hb d_Md_parse_30 rfl (lv_at hl 0 rfl) ?_
        refine va_get (D := G.1) (ci := 6) (v := .ref a_t_tryEntries) (C := "PlayStatesModel") (T := TMd) (N := 25) hx hb hts iw_6 hown hK hP 0 rfl rfl 18 (by decide) (hts _ gw_397) (fun _ h9 => h9) rfl d_Md_parse_31 ?_
        refine lv_iload_n hx hb d_Md_parse_34 rfl (lv_at hl 2 rfl) ?_
        obtain ⟨i6, h⟩ := o_if h
        refine va_iald (n := 81) (f := (upd x_t_tryEntries_4 l4_2.toNatClampNeg y3)) hx hb hK hP 1 0 rfl rfl i6 d_Md_parse_35 ?_
        refine lv_if_ne (tgt := 51) hx hb d_Md_parse_36 (by decide) (fun c7 => ?_) (fun c7 => ?_)
        · replace h := (if_neg c7).symm.trans h
          refine lv_iinc (v := (l4_1 + (1 : Int32))) (lv' := [(1, .int (l4_1 + (1 : Int32))), (0, .ref a_t), (2, .int l4_2)]) hx hb d_Md_parse_51 hl (k := 1) rfl rfl (by decide) rfl (fun ls hl => ?_)
          refine lv_aload_n hx hb d_Md_parse_54 rfl (lv_at hl 1 rfl) ?_
          refine lv_iload_n hx hb d_Md_parse_55 rfl (lv_at hl 0 rfl) ?_
          obtain ⟨y8, hy8, h⟩ := o_bind h
          have hPc := hP.sub (ws' := (ws_Md_byteAt G a_t a_t_truth a_t_entries a_t_marked a_t_present a_t_helped a_t_counted a_t_told a_t_runs a_t_whose a_t_where a_t_what a_t_before a_t_behind a_t_isOn a_t_tryEntries a_t_tryMarks a_t_text x_t_thrown x_t_places x_t_persons x_t_many x_t_size x_t_at x_t_sought x_t_found x_t_text)) [0, 3] rfl
          have hDc := hD.sub (ws' := (ws_Md_byteAt G a_t a_t_truth a_t_entries a_t_marked a_t_present a_t_helped a_t_counted a_t_told a_t_runs a_t_whose a_t_where a_t_what a_t_before a_t_behind a_t_isOn a_t_tryEntries a_t_tryMarks a_t_text x_t_thrown x_t_places x_t_persons x_t_many x_t_size x_t_at x_t_sought x_t_found x_t_text)) [0, 3] (by decide) rfl
          have hFc := va_free (wc := (ws_Md_byteAt G a_t a_t_truth a_t_entries a_t_marked a_t_present a_t_helped a_t_counted a_t_told a_t_runs a_t_whose a_t_where a_t_what a_t_before a_t_behind a_t_isOn a_t_tryEntries a_t_tryMarks a_t_text x_t_thrown x_t_places x_t_persons x_t_many x_t_size x_t_at x_t_sought x_t_found x_t_text)) hD hS hA [0, 3] rfl
          refine q_call1 (va_runV (As := [.int (l4_1 + (1 : Int32))]) (rest := []) ⟨hx, hb, hml, hown, hts⟩ (c_Md_byteAt l G H.size a_t a_t_truth a_t_entries a_t_marked a_t_present a_t_helped a_t_counted a_t_told a_t_runs a_t_whose a_t_where a_t_what a_t_before a_t_behind a_t_isOn a_t_tryEntries a_t_tryMarks a_t_text (l4_1 + (1 : Int32)) x_t_thrown x_t_places x_t_persons x_t_many x_t_size x_t_at x_t_sought x_t_found x_t_text _ hy8) (cwV 1 hts (gV gw_541 gw_542 gw_29 gw_36 gw_543) rfl rfl rfl (by decide +kernel) ⟨Nat.le_of_ble_eq_true rfl, Nat.le_of_ble_eq_true rfl⟩) (pV hK hN hPc hDc (ci := 6) (q0 := 0) rfl rfl) rfl rfl hl.1 rfl (lv_room (Nat.le_of_ble_eq_true rfl)) d_Md_parse_56 ⟨Nat.le_of_ble_eq_true rfl, Nat.le_of_ble_eq_true rfl⟩) hS (fun q _ h => hFc q h) hFc (fun H1 locs hB hz hk hS => ?_)
          obtain ⟨hP, hD⟩ := q_join (wr := [(a_t_tryEntries, .inl (G.2 0, 81, .inl (upd x_t_tryEntries_4 l4_2.toNatClampNeg y3))), (a_t_tryMarks, .inl (G.2 0, 81, .inl (upd x_t_tryMarks_4 l4_2.toNatClampNeg (0 : Int32))))]) (wn := (ws_Md_parse G a_t a_t_truth a_t_entries a_t_marked a_t_present a_t_helped a_t_counted a_t_told a_t_runs a_t_whose a_t_where a_t_what a_t_before a_t_behind a_t_isOn a_t_tryEntries a_t_tryMarks a_t_text x_t_thrown x_t_places x_t_persons x_t_many x_t_size x_t_at x_t_sought x_t_found (upd x_t_tryEntries_4 l4_2.toNatClampNeg y3) (upd x_t_tryMarks_4 l4_2.toNatClampNeg (0 : Int32)) x_t_text)) hP hD [0, 3] [1, 2] [2, 0, 1, 3] rfl rfl (by decide) (by decide) rfl (by decide) hk hFc hB.1 hB.2
          generalize H1 = H at hP hS ⊢
          replace hP : va_P G.1 vwCl (ws_Md_parse G a_t a_t_truth a_t_entries a_t_marked a_t_present a_t_helped a_t_counted a_t_told a_t_runs a_t_whose a_t_where a_t_what a_t_before a_t_behind a_t_isOn a_t_tryEntries a_t_tryMarks a_t_text x_t_thrown x_t_places x_t_persons x_t_many x_t_size x_t_at x_t_sought x_t_found (upd x_t_tryEntries_4 l4_2.toNatClampNeg y3) (upd x_t_tryMarks_4 l4_2.toNatClampNeg (0 : Int32)) x_t_text) H := hP
          replace hD : va_D A (ws_Md_parse G a_t a_t_truth a_t_entries a_t_marked a_t_present a_t_helped a_t_counted a_t_told a_t_runs a_t_whose a_t_where a_t_what a_t_before a_t_behind a_t_isOn a_t_tryEntries a_t_tryMarks a_t_text x_t_thrown x_t_places x_t_persons x_t_many x_t_size x_t_at x_t_sought x_t_found (upd x_t_tryEntries_4 l4_2.toNatClampNeg y3) (upd x_t_tryMarks_4 l4_2.toNatClampNeg (0 : Int32)) x_t_text) := hD
          refine lv_bipush (v := (40 : Int32)) hx hb d_Md_parse_59 (by decide) ?_
          refine lv_icmp_eq (tgt := 67) hx hb d_Md_parse_61 (by decide) (fun c9 => ?_) (fun c9 => ?_)
          · replace h := (if_pos c9).symm.trans h
            refine lv_iinc (v := ((l4_1 + (1 : Int32)) + (1 : Int32))) (lv' := [(1, .int ((l4_1 + (1 : Int32)) + (1 : Int32))), (0, .ref a_t), (2, .int l4_2)]) hx hb d_Md_parse_67 hl (k := 0) rfl rfl (by decide) rfl (fun ls hl => ?_)
            refine lv_iconst (v := (0 : Int32)) hx hb d_Md_parse_70 (by decide) ?_
            refine lv_istore_n (lv' := [(3, .int (0 : Int32)), (1, .int ((l4_1 + (1 : Int32)) + (1 : Int32))), (0, .ref a_t), (2, .int l4_2)]) hx hb d_Md_parse_71 rfl hl (by decide) rfl (fun ls hl => ?_)
            have L72 : ∀ (nf : Nat) (l72_1 : Int32) (l72_2 : Int32) (l72_3 : Int32) (x_t_tryEntries_72 : Nat → Int32) (x_t_tryMarks_72 : Nat → Int32) (H : Heap) (locs : List Loc) (ls : Array Slot), f_Md_parse_L72 fu x_t_thrown x_t_places x_t_persons x_t_many x_t_size x_t_at x_t_sought x_t_found x_t_text (f_Md_parse_L4 fu x_t_thrown x_t_places x_t_persons x_t_many x_t_size x_t_at x_t_sought x_t_found x_t_text n4) nf l72_1 l72_2 l72_3 x_t_tryEntries_72 x_t_tryMarks_72 = some (r, x_t_tryEntries', x_t_tryMarks') → va_P G.1 vwCl (ws_Md_parse G a_t a_t_truth a_t_entries a_t_marked a_t_present a_t_helped a_t_counted a_t_told a_t_runs a_t_whose a_t_where a_t_what a_t_before a_t_behind a_t_isOn a_t_tryEntries a_t_tryMarks a_t_text x_t_thrown x_t_places x_t_persons x_t_many x_t_size x_t_at x_t_sought x_t_found x_t_tryEntries_72 x_t_tryMarks_72 x_t_text) H → va_D A (ws_Md_parse G a_t a_t_truth a_t_entries a_t_marked a_t_present a_t_helped a_t_counted a_t_told a_t_runs a_t_whose a_t_where a_t_what a_t_before a_t_behind a_t_isOn a_t_tryEntries a_t_tryMarks a_t_text x_t_thrown x_t_places x_t_persons x_t_many x_t_size x_t_at x_t_sought x_t_found x_t_tryEntries_72 x_t_tryMarks_72 x_t_text) → va_S A s.heap H locs → lv_has ls 4 [(0, .ref a_t), (1, .int l72_1), (2, .int l72_2), (3, .int l72_3)] → W p l e { frames := 2, cells := 0, slots := 0, locals := 42 } s m args below meth c H locs 0 0 (MQ below (qQ (some (.int r)) (wB G (ws_Md_parse G a_t a_t_truth a_t_entries a_t_marked a_t_present a_t_helped a_t_counted a_t_told a_t_runs a_t_whose a_t_where a_t_what a_t_before a_t_behind a_t_isOn a_t_tryEntries a_t_tryMarks a_t_text x_t_thrown x_t_places x_t_persons x_t_many x_t_size x_t_at x_t_sought x_t_found x_t_tryEntries' x_t_tryMarks' x_t_text) A) A) args s 0 0 A) (F0 m 72 ls []) := by
              clear h hP hD hS hl
              intro n72
              induction n72 with
              | zero => intro _ _ _ _ _ H locs ls h; exact nomatch (show none = some _ from h)
              | succ n72 ih72 =>
                intro l72_1 l72_2 l72_3 x_t_tryEntries_72 x_t_tryMarks_72 H locs ls h hP hD hS hl
                replace h : fb_Md_parse_L72 fu x_t_thrown x_t_places x_t_persons x_t_many x_t_size x_t_at x_t_sought x_t_found x_t_text (f_Md_parse_L4 fu x_t_thrown x_t_places x_t_persons x_t_many x_t_size x_t_at x_t_sought x_t_found x_t_text n4) (f_Md_parse_L72 fu x_t_thrown x_t_places x_t_persons x_t_many x_t_size x_t_at x_t_sought x_t_found x_t_text (f_Md_parse_L4 fu x_t_thrown x_t_places x_t_persons x_t_many x_t_size x_t_at x_t_sought x_t_found x_t_text n4) n72) l72_1 l72_2 l72_3 x_t_tryEntries_72 x_t_tryMarks_72 = some (r, x_t_tryEntries', x_t_tryMarks') := h
                unfold fb_Md_parse_L72 at h
                refine lv_aload_n hx hb d_Md_parse_72 rfl (lv_at hl 0 rfl) ?_
                refine lv_iload_n hx hb d_Md_parse_73 rfl (lv_at hl 1 rfl) ?_
                obtain ⟨y10, hy10, h⟩ := o_bind h
                have hPc := hP.sub (ws' := (ws_Md_digitAt G a_t a_t_truth a_t_entries a_t_marked a_t_present a_t_helped a_t_counted a_t_told a_t_runs a_t_whose a_t_where a_t_what a_t_before a_t_behind a_t_isOn a_t_tryEntries a_t_tryMarks a_t_text x_t_thrown x_t_places x_t_persons x_t_many x_t_size x_t_at x_t_sought x_t_found x_t_text)) [0, 3] rfl
                have hDc := hD.sub (ws' := (ws_Md_digitAt G a_t a_t_truth a_t_entries a_t_marked a_t_present a_t_helped a_t_counted a_t_told a_t_runs a_t_whose a_t_where a_t_what a_t_before a_t_behind a_t_isOn a_t_tryEntries a_t_tryMarks a_t_text x_t_thrown x_t_places x_t_persons x_t_many x_t_size x_t_at x_t_sought x_t_found x_t_text)) [0, 3] (by decide) rfl
                have hFc := va_free (wc := (ws_Md_digitAt G a_t a_t_truth a_t_entries a_t_marked a_t_present a_t_helped a_t_counted a_t_told a_t_runs a_t_whose a_t_where a_t_what a_t_before a_t_behind a_t_isOn a_t_tryEntries a_t_tryMarks a_t_text x_t_thrown x_t_places x_t_persons x_t_many x_t_size x_t_at x_t_sought x_t_found x_t_text)) hD hS hA [0, 3] rfl
                refine q_call1 (va_runV (As := [.int l72_1]) (rest := []) ⟨hx, hb, hml, hown, hts⟩ (c_Md_digitAt l G H.size a_t a_t_truth a_t_entries a_t_marked a_t_present a_t_helped a_t_counted a_t_told a_t_runs a_t_whose a_t_where a_t_what a_t_before a_t_behind a_t_isOn a_t_tryEntries a_t_tryMarks a_t_text l72_1 x_t_thrown x_t_places x_t_persons x_t_many x_t_size x_t_at x_t_sought x_t_found x_t_text _ hy10) (cwV 1 hts (gV gw_538 gw_539 gw_28 gw_36 gw_540) rfl rfl rfl (by decide +kernel) ⟨Nat.le_of_ble_eq_true rfl, Nat.le_of_ble_eq_true rfl⟩) (pV hK hN hPc hDc (ci := 6) (q0 := 0) rfl rfl) rfl rfl hl.1 rfl (lv_room (Nat.le_of_ble_eq_true rfl)) d_Md_parse_74 ⟨Nat.le_of_ble_eq_true rfl, Nat.le_of_ble_eq_true rfl⟩) hS (fun q _ h => hFc q h) hFc (fun H1 locs hB hz hk hS => ?_)
                obtain ⟨hP, hD⟩ := q_join (wr := [(a_t_tryEntries, .inl (G.2 0, 81, .inl x_t_tryEntries_72)), (a_t_tryMarks, .inl (G.2 0, 81, .inl x_t_tryMarks_72))]) (wn := (ws_Md_parse G a_t a_t_truth a_t_entries a_t_marked a_t_present a_t_helped a_t_counted a_t_told a_t_runs a_t_whose a_t_where a_t_what a_t_before a_t_behind a_t_isOn a_t_tryEntries a_t_tryMarks a_t_text x_t_thrown x_t_places x_t_persons x_t_many x_t_size x_t_at x_t_sought x_t_found x_t_tryEntries_72 x_t_tryMarks_72 x_t_text)) hP hD [0, 3] [1, 2] [2, 0, 1, 3] rfl rfl (by decide) (by decide) rfl (by decide) hk hFc hB.1 hB.2
                generalize H1 = H at hP hS ⊢
                replace hP : va_P G.1 vwCl (ws_Md_parse G a_t a_t_truth a_t_entries a_t_marked a_t_present a_t_helped a_t_counted a_t_told a_t_runs a_t_whose a_t_where a_t_what a_t_before a_t_behind a_t_isOn a_t_tryEntries a_t_tryMarks a_t_text x_t_thrown x_t_places x_t_persons x_t_many x_t_size x_t_at x_t_sought x_t_found x_t_tryEntries_72 x_t_tryMarks_72 x_t_text) H := hP
                replace hD : va_D A (ws_Md_parse G a_t a_t_truth a_t_entries a_t_marked a_t_present a_t_helped a_t_counted a_t_told a_t_runs a_t_whose a_t_where a_t_what a_t_before a_t_behind a_t_isOn a_t_tryEntries a_t_tryMarks a_t_text x_t_thrown x_t_places x_t_persons x_t_many x_t_size x_t_at x_t_sought x_t_found x_t_tryEntries_72 x_t_tryMarks_72 x_t_text) := hD
                refine lv_iload_n hx hb d_Md_parse_77 rfl (lv_at hl 3 rfl) ?_
                refine lv_icmp_le (tgt := 109) hx hb d_Md_parse_78 (by decide) (fun c11 => ?_) (fun c11 => ?_)
                · replace h := (if_pos c11).symm.trans h
                  refine lv_iload_n hx hb d_Md_parse_109 rfl (lv_at hl 3 rfl) ?_
                  refine lv_if_eq (tgt := 123) hx hb d_Md_parse_110 (by decide) (fun c12 => ?_) (fun c12 => ?_)
                  · replace h := (if_pos c12).symm.trans h
                    refine lv_iload_n hx hb d_Md_parse_123 rfl (lv_at hl 1 rfl) ?_
                    cases h
                    exact q_iretW hx hb hr hlocks hP hD hS d_Md_parse_124
                  · replace h := (if_neg c12).symm.trans h
                    refine lv_aload_n hx hb d_Md_parse_113 rfl (lv_at hl 0 rfl) ?_
                    refine lv_iload_n hx hb d_Md_parse_114 rfl (lv_at hl 1 rfl) ?_
                    obtain ⟨y13, hy13, h⟩ := o_bind h
                    have hPc := hP.sub (ws' := (ws_Md_byteAt G a_t a_t_truth a_t_entries a_t_marked a_t_present a_t_helped a_t_counted a_t_told a_t_runs a_t_whose a_t_where a_t_what a_t_before a_t_behind a_t_isOn a_t_tryEntries a_t_tryMarks a_t_text x_t_thrown x_t_places x_t_persons x_t_many x_t_size x_t_at x_t_sought x_t_found x_t_text)) [0, 3] rfl
                    have hDc := hD.sub (ws' := (ws_Md_byteAt G a_t a_t_truth a_t_entries a_t_marked a_t_present a_t_helped a_t_counted a_t_told a_t_runs a_t_whose a_t_where a_t_what a_t_before a_t_behind a_t_isOn a_t_tryEntries a_t_tryMarks a_t_text x_t_thrown x_t_places x_t_persons x_t_many x_t_size x_t_at x_t_sought x_t_found x_t_text)) [0, 3] (by decide) rfl
                    have hFc := va_free (wc := (ws_Md_byteAt G a_t a_t_truth a_t_entries a_t_marked a_t_present a_t_helped a_t_counted a_t_told a_t_runs a_t_whose a_t_where a_t_what a_t_before a_t_behind a_t_isOn a_t_tryEntries a_t_tryMarks a_t_text x_t_thrown x_t_places x_t_persons x_t_many x_t_size x_t_at x_t_sought x_t_found x_t_text)) hD hS hA [0, 3] rfl
                    refine q_call1 (va_runV (As := [.int l72_1]) (rest := []) ⟨hx, hb, hml, hown, hts⟩ (c_Md_byteAt l G H.size a_t a_t_truth a_t_entries a_t_marked a_t_present a_t_helped a_t_counted a_t_told a_t_runs a_t_whose a_t_where a_t_what a_t_before a_t_behind a_t_isOn a_t_tryEntries a_t_tryMarks a_t_text l72_1 x_t_thrown x_t_places x_t_persons x_t_many x_t_size x_t_at x_t_sought x_t_found x_t_text _ hy13) (cwV 1 hts (gV gw_541 gw_542 gw_29 gw_36 gw_543) rfl rfl rfl (by decide +kernel) ⟨Nat.le_of_ble_eq_true rfl, Nat.le_of_ble_eq_true rfl⟩) (pV hK hN hPc hDc (ci := 6) (q0 := 0) rfl rfl) rfl rfl hl.1 rfl (lv_room (Nat.le_of_ble_eq_true rfl)) d_Md_parse_115 ⟨Nat.le_of_ble_eq_true rfl, Nat.le_of_ble_eq_true rfl⟩) hS (fun q _ h => hFc q h) hFc (fun H1 locs hB hz hk hS => ?_)
                    obtain ⟨hP, hD⟩ := q_join (wr := [(a_t_tryEntries, .inl (G.2 0, 81, .inl x_t_tryEntries_72)), (a_t_tryMarks, .inl (G.2 0, 81, .inl x_t_tryMarks_72))]) (wn := (ws_Md_parse G a_t a_t_truth a_t_entries a_t_marked a_t_present a_t_helped a_t_counted a_t_told a_t_runs a_t_whose a_t_where a_t_what a_t_before a_t_behind a_t_isOn a_t_tryEntries a_t_tryMarks a_t_text x_t_thrown x_t_places x_t_persons x_t_many x_t_size x_t_at x_t_sought x_t_found x_t_tryEntries_72 x_t_tryMarks_72 x_t_text)) hP hD [0, 3] [1, 2] [2, 0, 1, 3] rfl rfl (by decide) (by decide) rfl (by decide) hk hFc hB.1 hB.2
                    generalize H1 = H at hP hS ⊢
                    replace hP : va_P G.1 vwCl (ws_Md_parse G a_t a_t_truth a_t_entries a_t_marked a_t_present a_t_helped a_t_counted a_t_told a_t_runs a_t_whose a_t_where a_t_what a_t_before a_t_behind a_t_isOn a_t_tryEntries a_t_tryMarks a_t_text x_t_thrown x_t_places x_t_persons x_t_many x_t_size x_t_at x_t_sought x_t_found x_t_tryEntries_72 x_t_tryMarks_72 x_t_text) H := hP
                    replace hD : va_D A (ws_Md_parse G a_t a_t_truth a_t_entries a_t_marked a_t_present a_t_helped a_t_counted a_t_told a_t_runs a_t_whose a_t_where a_t_what a_t_before a_t_behind a_t_isOn a_t_tryEntries a_t_tryMarks a_t_text x_t_thrown x_t_places x_t_persons x_t_many x_t_size x_t_at x_t_sought x_t_found x_t_tryEntries_72 x_t_tryMarks_72 x_t_text) := hD
                    refine lv_bipush (v := (41 : Int32)) hx hb d_Md_parse_118 (by decide) ?_
                    refine lv_icmp_eq (tgt := 125) hx hb d_Md_parse_120 (by decide) (fun c14 => ?_) (fun c14 => ?_)
                    · replace h := (if_pos c14).symm.trans h
                      refine lv_iinc (v := (l72_1 + (1 : Int32))) (lv' := [(1, .int (l72_1 + (1 : Int32))), (0, .ref a_t), (2, .int l72_2), (3, .int l72_3)]) hx hb d_Md_parse_125 hl (k := 1) rfl rfl (by decide) rfl (fun ls hl => ?_)
                      refine lv_iinc (v := (l72_2 + (1 : Int32))) (lv' := [(2, .int (l72_2 + (1 : Int32))), (1, .int (l72_1 + (1 : Int32))), (0, .ref a_t), (3, .int l72_3)]) hx hb d_Md_parse_128 hl (k := 2) rfl rfl (by decide) rfl (fun ls hl => ?_)
                      refine lv_goto (tgt := 4) hx hb d_Md_parse_131 (by decide) ?_
                      exact ih4 (l72_1 + (1 : Int32)) (l72_2 + (1 : Int32)) x_t_tryEntries_72 x_t_tryMarks_72 _ _ _ h hP hD hS (lv_sub hl [2, 1, 0] rfl)
                    · replace h := (if_neg c14).symm.trans h
                      refine lv_iload_n hx hb d_Md_parse_123 rfl (lv_at hl 1 rfl) ?_
                      cases h
                      exact q_iretW hx hb hr hlocks hP hD hS d_Md_parse_124
                · replace h := (if_neg c11).symm.trans h
                  refine lv_aload_n hx hb d_Md_parse_81 rfl (lv_at hl 0 rfl) ?_
                  refine lv_iload_n hx hb d_Md_parse_82 rfl (lv_at hl 1 rfl) ?_
                  obtain ⟨y15, hy15, h⟩ := o_bind h
                  have hPc := hP.sub (ws' := (ws_Md_digitAt G a_t a_t_truth a_t_entries a_t_marked a_t_present a_t_helped a_t_counted a_t_told a_t_runs a_t_whose a_t_where a_t_what a_t_before a_t_behind a_t_isOn a_t_tryEntries a_t_tryMarks a_t_text x_t_thrown x_t_places x_t_persons x_t_many x_t_size x_t_at x_t_sought x_t_found x_t_text)) [0, 3] rfl
                  have hDc := hD.sub (ws' := (ws_Md_digitAt G a_t a_t_truth a_t_entries a_t_marked a_t_present a_t_helped a_t_counted a_t_told a_t_runs a_t_whose a_t_where a_t_what a_t_before a_t_behind a_t_isOn a_t_tryEntries a_t_tryMarks a_t_text x_t_thrown x_t_places x_t_persons x_t_many x_t_size x_t_at x_t_sought x_t_found x_t_text)) [0, 3] (by decide) rfl
                  have hFc := va_free (wc := (ws_Md_digitAt G a_t a_t_truth a_t_entries a_t_marked a_t_present a_t_helped a_t_counted a_t_told a_t_runs a_t_whose a_t_where a_t_what a_t_before a_t_behind a_t_isOn a_t_tryEntries a_t_tryMarks a_t_text x_t_thrown x_t_places x_t_persons x_t_many x_t_size x_t_at x_t_sought x_t_found x_t_text)) hD hS hA [0, 3] rfl
                  refine q_call1 (va_runV (As := [.int l72_1]) (rest := []) ⟨hx, hb, hml, hown, hts⟩ (c_Md_digitAt l G H.size a_t a_t_truth a_t_entries a_t_marked a_t_present a_t_helped a_t_counted a_t_told a_t_runs a_t_whose a_t_where a_t_what a_t_before a_t_behind a_t_isOn a_t_tryEntries a_t_tryMarks a_t_text l72_1 x_t_thrown x_t_places x_t_persons x_t_many x_t_size x_t_at x_t_sought x_t_found x_t_text _ hy15) (cwV 1 hts (gV gw_538 gw_539 gw_28 gw_36 gw_540) rfl rfl rfl (by decide +kernel) ⟨Nat.le_of_ble_eq_true rfl, Nat.le_of_ble_eq_true rfl⟩) (pV hK hN hPc hDc (ci := 6) (q0 := 0) rfl rfl) rfl rfl hl.1 rfl (lv_room (Nat.le_of_ble_eq_true rfl)) d_Md_parse_83 ⟨Nat.le_of_ble_eq_true rfl, Nat.le_of_ble_eq_true rfl⟩) hS (fun q _ h => hFc q h) hFc (fun H1 locs hB hz hk hS => ?_)
                  obtain ⟨hP, hD⟩ := q_join (wr := [(a_t_tryEntries, .inl (G.2 0, 81, .inl x_t_tryEntries_72)), (a_t_tryMarks, .inl (G.2 0, 81, .inl x_t_tryMarks_72))]) (wn := (ws_Md_parse G a_t a_t_truth a_t_entries a_t_marked a_t_present a_t_helped a_t_counted a_t_told a_t_runs a_t_whose a_t_where a_t_what a_t_before a_t_behind a_t_isOn a_t_tryEntries a_t_tryMarks a_t_text x_t_thrown x_t_places x_t_persons x_t_many x_t_size x_t_at x_t_sought x_t_found x_t_tryEntries_72 x_t_tryMarks_72 x_t_text)) hP hD [0, 3] [1, 2] [2, 0, 1, 3] rfl rfl (by decide) (by decide) rfl (by decide) hk hFc hB.1 hB.2
                  generalize H1 = H at hP hS ⊢
                  replace hP : va_P G.1 vwCl (ws_Md_parse G a_t a_t_truth a_t_entries a_t_marked a_t_present a_t_helped a_t_counted a_t_told a_t_runs a_t_whose a_t_where a_t_what a_t_before a_t_behind a_t_isOn a_t_tryEntries a_t_tryMarks a_t_text x_t_thrown x_t_places x_t_persons x_t_many x_t_size x_t_at x_t_sought x_t_found x_t_tryEntries_72 x_t_tryMarks_72 x_t_text) H := hP
                  replace hD : va_D A (ws_Md_parse G a_t a_t_truth a_t_entries a_t_marked a_t_present a_t_helped a_t_counted a_t_told a_t_runs a_t_whose a_t_where a_t_what a_t_before a_t_behind a_t_isOn a_t_tryEntries a_t_tryMarks a_t_text x_t_thrown x_t_places x_t_persons x_t_many x_t_size x_t_at x_t_sought x_t_found x_t_tryEntries_72 x_t_tryMarks_72 x_t_text) := hD
                  refine lv_istore_n (lv' := [(3, .int y15), (0, .ref a_t), (1, .int l72_1), (2, .int l72_2)]) hx hb d_Md_parse_86 rfl hl (by decide) rfl (fun ls hl => ?_)
                  refine lv_aload_n hx hb d_Md_parse_87 rfl (lv_at hl 1 rfl) ?_
                  refine va_get (D := G.1) (ci := 6) (v := .ref a_t_tryMarks) (C := "PlayStatesModel") (T := TMd) (N := 25) hx hb hts iw_6 hown hK hP 0 rfl rfl 19 (by decide) (hts _ gw_398) (fun _ h9 => h9) rfl d_Md_parse_88 ?_
                  refine lv_iload_n hx hb d_Md_parse_91 rfl (lv_at hl 3 rfl) ?_
                  refine lv_aload_n hx hb d_Md_parse_92 rfl (lv_at hl 1 rfl) ?_
                  refine va_get (D := G.1) (ci := 6) (v := .ref a_t_tryMarks) (C := "PlayStatesModel") (T := TMd) (N := 25) hx hb hts iw_6 hown hK hP 0 rfl rfl 19 (by decide) (hts _ gw_398) (fun _ h9 => h9) rfl d_Md_parse_93 ?_
                  refine lv_iload_n hx hb d_Md_parse_96 rfl (lv_at hl 3 rfl) ?_
                  obtain ⟨i16, h⟩ := o_if h
                  refine va_iald (n := 81) (f := x_t_tryMarks_72) hx hb hK hP 2 0 rfl rfl i16 d_Md_parse_97 ?_
                  refine lv_iconst (v := (1 : Int32)) hx hb d_Md_parse_98 (by decide) ?_
                  refine lv_iload_n hx hb d_Md_parse_99 rfl (lv_at hl 0 rfl) ?_
                  refine lv_ishl hx hb d_Md_parse_100 ?_
                  refine lv_ior hx hb d_Md_parse_101 ?_
                  obtain ⟨i17, h⟩ := o_if h
                  refine va_iast (n := 81) (f := x_t_tryMarks_72) hx hb hK hP hD hS 2 0 rfl rfl i17 d_Md_parse_102 (fun H locs hP hD hS => ?_)
                  replace hP : va_P G.1 vwCl (ws_Md_parse G a_t a_t_truth a_t_entries a_t_marked a_t_present a_t_helped a_t_counted a_t_told a_t_runs a_t_whose a_t_where a_t_what a_t_before a_t_behind a_t_isOn a_t_tryEntries a_t_tryMarks a_t_text x_t_thrown x_t_places x_t_persons x_t_many x_t_size x_t_at x_t_sought x_t_found x_t_tryEntries_72 (upd x_t_tryMarks_72 l72_2.toNatClampNeg ((x_t_tryMarks_72 l72_2.toNatClampNeg) ||| ((1 : Int32) <<< (y15 &&& 31)))) x_t_text) H := hP
                  replace hD : va_D A (ws_Md_parse G a_t a_t_truth a_t_entries a_t_marked a_t_present a_t_helped a_t_counted a_t_told a_t_runs a_t_whose a_t_where a_t_what a_t_before a_t_behind a_t_isOn a_t_tryEntries a_t_tryMarks a_t_text x_t_thrown x_t_places x_t_persons x_t_many x_t_size x_t_at x_t_sought x_t_found x_t_tryEntries_72 (upd x_t_tryMarks_72 l72_2.toNatClampNeg ((x_t_tryMarks_72 l72_2.toNatClampNeg) ||| ((1 : Int32) <<< (y15 &&& 31)))) x_t_text) := hD
                  refine lv_iinc (v := (l72_1 + (1 : Int32))) (lv' := [(1, .int (l72_1 + (1 : Int32))), (3, .int y15), (0, .ref a_t), (2, .int l72_2)]) hx hb d_Md_parse_103 hl (k := 2) rfl rfl (by decide) rfl (fun ls hl => ?_)
                  refine lv_goto (tgt := 72) hx hb d_Md_parse_106 (by decide) ?_
                  exact ih72 (l72_1 + (1 : Int32)) l72_2 y15 x_t_tryEntries_72 (upd x_t_tryMarks_72 l72_2.toNatClampNeg ((x_t_tryMarks_72 l72_2.toNatClampNeg) ||| ((1 : Int32) <<< (y15 &&& 31)))) _ _ _ h hP hD hS (lv_sub hl [2, 0, 3, 1] rfl)
            exact L72 fu ((l4_1 + (1 : Int32)) + (1 : Int32)) l4_2 (0 : Int32) (upd x_t_tryEntries_4 l4_2.toNatClampNeg y3) (upd x_t_tryMarks_4 l4_2.toNatClampNeg (0 : Int32)) _ _ _ h hP hD hS (lv_sub hl [2, 1, 3, 0] rfl)
          · replace h := (if_neg c9).symm.trans h
            refine lv_goto (tgt := 128) hx hb d_Md_parse_64 (by decide) ?_
            refine lv_iinc (v := (l4_2 + (1 : Int32))) (lv' := [(2, .int (l4_2 + (1 : Int32))), (1, .int (l4_1 + (1 : Int32))), (0, .ref a_t)]) hx hb d_Md_parse_128 hl (k := 2) rfl rfl (by decide) rfl (fun ls hl => ?_)
            refine lv_goto (tgt := 4) hx hb d_Md_parse_131 (by decide) ?_
            exact ih4 (l4_1 + (1 : Int32)) (l4_2 + (1 : Int32)) (upd x_t_tryEntries_4 l4_2.toNatClampNeg y3) (upd x_t_tryMarks_4 l4_2.toNatClampNeg (0 : Int32)) _ _ _ h hP hD hS (lv_sub hl [2, 1, 0] rfl)
        · replace h := (if_pos c7).symm.trans h
          refine lv_aload_n hx hb d_Md_parse_39 rfl (lv_at hl 0 rfl) ?_
          refine lv_iload_n hx hb d_Md_parse_40 rfl (lv_at hl 1 rfl) ?_
          obtain ⟨y18, hy18, h⟩ := o_bind h
          have hPc := hP.sub (ws' := (ws_Md_byteAt G a_t a_t_truth a_t_entries a_t_marked a_t_present a_t_helped a_t_counted a_t_told a_t_runs a_t_whose a_t_where a_t_what a_t_before a_t_behind a_t_isOn a_t_tryEntries a_t_tryMarks a_t_text x_t_thrown x_t_places x_t_persons x_t_many x_t_size x_t_at x_t_sought x_t_found x_t_text)) [0, 3] rfl
          have hDc := hD.sub (ws' := (ws_Md_byteAt G a_t a_t_truth a_t_entries a_t_marked a_t_present a_t_helped a_t_counted a_t_told a_t_runs a_t_whose a_t_where a_t_what a_t_before a_t_behind a_t_isOn a_t_tryEntries a_t_tryMarks a_t_text x_t_thrown x_t_places x_t_persons x_t_many x_t_size x_t_at x_t_sought x_t_found x_t_text)) [0, 3] (by decide) rfl
          have hFc := va_free (wc := (ws_Md_byteAt G a_t a_t_truth a_t_entries a_t_marked a_t_present a_t_helped a_t_counted a_t_told a_t_runs a_t_whose a_t_where a_t_what a_t_before a_t_behind a_t_isOn a_t_tryEntries a_t_tryMarks a_t_text x_t_thrown x_t_places x_t_persons x_t_many x_t_size x_t_at x_t_sought x_t_found x_t_text)) hD hS hA [0, 3] rfl
          refine q_call1 (va_runV (As := [.int l4_1]) (rest := []) ⟨hx, hb, hml, hown, hts⟩ (c_Md_byteAt l G H.size a_t a_t_truth a_t_entries a_t_marked a_t_present a_t_helped a_t_counted a_t_told a_t_runs a_t_whose a_t_where a_t_what a_t_before a_t_behind a_t_isOn a_t_tryEntries a_t_tryMarks a_t_text l4_1 x_t_thrown x_t_places x_t_persons x_t_many x_t_size x_t_at x_t_sought x_t_found x_t_text _ hy18) (cwV 1 hts (gV gw_541 gw_542 gw_29 gw_36 gw_543) rfl rfl rfl (by decide +kernel) ⟨Nat.le_of_ble_eq_true rfl, Nat.le_of_ble_eq_true rfl⟩) (pV hK hN hPc hDc (ci := 6) (q0 := 0) rfl rfl) rfl rfl hl.1 rfl (lv_room (Nat.le_of_ble_eq_true rfl)) d_Md_parse_41 ⟨Nat.le_of_ble_eq_true rfl, Nat.le_of_ble_eq_true rfl⟩) hS (fun q _ h => hFc q h) hFc (fun H1 locs hB hz hk hS => ?_)
          obtain ⟨hP, hD⟩ := q_join (wr := [(a_t_tryEntries, .inl (G.2 0, 81, .inl (upd x_t_tryEntries_4 l4_2.toNatClampNeg y3))), (a_t_tryMarks, .inl (G.2 0, 81, .inl (upd x_t_tryMarks_4 l4_2.toNatClampNeg (0 : Int32))))]) (wn := (ws_Md_parse G a_t a_t_truth a_t_entries a_t_marked a_t_present a_t_helped a_t_counted a_t_told a_t_runs a_t_whose a_t_where a_t_what a_t_before a_t_behind a_t_isOn a_t_tryEntries a_t_tryMarks a_t_text x_t_thrown x_t_places x_t_persons x_t_many x_t_size x_t_at x_t_sought x_t_found (upd x_t_tryEntries_4 l4_2.toNatClampNeg y3) (upd x_t_tryMarks_4 l4_2.toNatClampNeg (0 : Int32)) x_t_text)) hP hD [0, 3] [1, 2] [2, 0, 1, 3] rfl rfl (by decide) (by decide) rfl (by decide) hk hFc hB.1 hB.2
          generalize H1 = H at hP hS ⊢
          replace hP : va_P G.1 vwCl (ws_Md_parse G a_t a_t_truth a_t_entries a_t_marked a_t_present a_t_helped a_t_counted a_t_told a_t_runs a_t_whose a_t_where a_t_what a_t_before a_t_behind a_t_isOn a_t_tryEntries a_t_tryMarks a_t_text x_t_thrown x_t_places x_t_persons x_t_many x_t_size x_t_at x_t_sought x_t_found (upd x_t_tryEntries_4 l4_2.toNatClampNeg y3) (upd x_t_tryMarks_4 l4_2.toNatClampNeg (0 : Int32)) x_t_text) H := hP
          replace hD : va_D A (ws_Md_parse G a_t a_t_truth a_t_entries a_t_marked a_t_present a_t_helped a_t_counted a_t_told a_t_runs a_t_whose a_t_where a_t_what a_t_before a_t_behind a_t_isOn a_t_tryEntries a_t_tryMarks a_t_text x_t_thrown x_t_places x_t_persons x_t_many x_t_size x_t_at x_t_sought x_t_found (upd x_t_tryEntries_4 l4_2.toNatClampNeg y3) (upd x_t_tryMarks_4 l4_2.toNatClampNeg (0 : Int32)) x_t_text) := hD
          refine lv_bipush (v := (46 : Int32)) hx hb d_Md_parse_44 (by decide) ?_
          refine lv_icmp_eq (tgt := 51) hx hb d_Md_parse_46 (by decide) (fun c19 => ?_) (fun c19 => ?_)
          · replace h := (if_pos c19).symm.trans h
            refine lv_iinc (v := (l4_1 + (1 : Int32))) (lv' := [(1, .int (l4_1 + (1 : Int32))), (0, .ref a_t), (2, .int l4_2)]) hx hb d_Md_parse_51 hl (k := 1) rfl rfl (by decide) rfl (fun ls hl => ?_)
            refine lv_aload_n hx hb d_Md_parse_54 rfl (lv_at hl 1 rfl) ?_
            refine lv_iload_n hx hb d_Md_parse_55 rfl (lv_at hl 0 rfl) ?_
            obtain ⟨y20, hy20, h⟩ := o_bind h
            have hPc := hP.sub (ws' := (ws_Md_byteAt G a_t a_t_truth a_t_entries a_t_marked a_t_present a_t_helped a_t_counted a_t_told a_t_runs a_t_whose a_t_where a_t_what a_t_before a_t_behind a_t_isOn a_t_tryEntries a_t_tryMarks a_t_text x_t_thrown x_t_places x_t_persons x_t_many x_t_size x_t_at x_t_sought x_t_found x_t_text)) [0, 3] rfl
            have hDc := hD.sub (ws' := (ws_Md_byteAt G a_t a_t_truth a_t_entries a_t_marked a_t_present a_t_helped a_t_counted a_t_told a_t_runs a_t_whose a_t_where a_t_what a_t_before a_t_behind a_t_isOn a_t_tryEntries a_t_tryMarks a_t_text x_t_thrown x_t_places x_t_persons x_t_many x_t_size x_t_at x_t_sought x_t_found x_t_text)) [0, 3] (by decide) rfl
            have hFc := va_free (wc := (ws_Md_byteAt G a_t a_t_truth a_t_entries a_t_marked a_t_present a_t_helped a_t_counted a_t_told a_t_runs a_t_whose a_t_where a_t_what a_t_before a_t_behind a_t_isOn a_t_tryEntries a_t_tryMarks a_t_text x_t_thrown x_t_places x_t_persons x_t_many x_t_size x_t_at x_t_sought x_t_found x_t_text)) hD hS hA [0, 3] rfl
            refine q_call1 (va_runV (As := [.int (l4_1 + (1 : Int32))]) (rest := []) ⟨hx, hb, hml, hown, hts⟩ (c_Md_byteAt l G H.size a_t a_t_truth a_t_entries a_t_marked a_t_present a_t_helped a_t_counted a_t_told a_t_runs a_t_whose a_t_where a_t_what a_t_before a_t_behind a_t_isOn a_t_tryEntries a_t_tryMarks a_t_text (l4_1 + (1 : Int32)) x_t_thrown x_t_places x_t_persons x_t_many x_t_size x_t_at x_t_sought x_t_found x_t_text _ hy20) (cwV 1 hts (gV gw_541 gw_542 gw_29 gw_36 gw_543) rfl rfl rfl (by decide +kernel) ⟨Nat.le_of_ble_eq_true rfl, Nat.le_of_ble_eq_true rfl⟩) (pV hK hN hPc hDc (ci := 6) (q0 := 0) rfl rfl) rfl rfl hl.1 rfl (lv_room (Nat.le_of_ble_eq_true rfl)) d_Md_parse_56 ⟨Nat.le_of_ble_eq_true rfl, Nat.le_of_ble_eq_true rfl⟩) hS (fun q _ h => hFc q h) hFc (fun H1 locs hB hz hk hS => ?_)
            obtain ⟨hP, hD⟩ := q_join (wr := [(a_t_tryEntries, .inl (G.2 0, 81, .inl (upd x_t_tryEntries_4 l4_2.toNatClampNeg y3))), (a_t_tryMarks, .inl (G.2 0, 81, .inl (upd x_t_tryMarks_4 l4_2.toNatClampNeg (0 : Int32))))]) (wn := (ws_Md_parse G a_t a_t_truth a_t_entries a_t_marked a_t_present a_t_helped a_t_counted a_t_told a_t_runs a_t_whose a_t_where a_t_what a_t_before a_t_behind a_t_isOn a_t_tryEntries a_t_tryMarks a_t_text x_t_thrown x_t_places x_t_persons x_t_many x_t_size x_t_at x_t_sought x_t_found (upd x_t_tryEntries_4 l4_2.toNatClampNeg y3) (upd x_t_tryMarks_4 l4_2.toNatClampNeg (0 : Int32)) x_t_text)) hP hD [0, 3] [1, 2] [2, 0, 1, 3] rfl rfl (by decide) (by decide) rfl (by decide) hk hFc hB.1 hB.2
            generalize H1 = H at hP hS ⊢
            replace hP : va_P G.1 vwCl (ws_Md_parse G a_t a_t_truth a_t_entries a_t_marked a_t_present a_t_helped a_t_counted a_t_told a_t_runs a_t_whose a_t_where a_t_what a_t_before a_t_behind a_t_isOn a_t_tryEntries a_t_tryMarks a_t_text x_t_thrown x_t_places x_t_persons x_t_many x_t_size x_t_at x_t_sought x_t_found (upd x_t_tryEntries_4 l4_2.toNatClampNeg y3) (upd x_t_tryMarks_4 l4_2.toNatClampNeg (0 : Int32)) x_t_text) H := hP
            replace hD : va_D A (ws_Md_parse G a_t a_t_truth a_t_entries a_t_marked a_t_present a_t_helped a_t_counted a_t_told a_t_runs a_t_whose a_t_where a_t_what a_t_before a_t_behind a_t_isOn a_t_tryEntries a_t_tryMarks a_t_text x_t_thrown x_t_places x_t_persons x_t_many x_t_size x_t_at x_t_sought x_t_found (upd x_t_tryEntries_4 l4_2.toNatClampNeg y3) (upd x_t_tryMarks_4 l4_2.toNatClampNeg (0 : Int32)) x_t_text) := hD
            refine lv_bipush (v := (40 : Int32)) hx hb d_Md_parse_59 (by decide) ?_
            refine lv_icmp_eq (tgt := 67) hx hb d_Md_parse_61 (by decide) (fun c21 => ?_) (fun c21 => ?_)
            · replace h := (if_pos c21).symm.trans h
              refine lv_iinc (v := ((l4_1 + (1 : Int32)) + (1 : Int32))) (lv' := [(1, .int ((l4_1 + (1 : Int32)) + (1 : Int32))), (0, .ref a_t), (2, .int l4_2)]) hx hb d_Md_parse_67 hl (k := 0) rfl rfl (by decide) rfl (fun ls hl => ?_)
              refine lv_iconst (v := (0 : Int32)) hx hb d_Md_parse_70 (by decide) ?_
              refine lv_istore_n (lv' := [(3, .int (0 : Int32)), (1, .int ((l4_1 + (1 : Int32)) + (1 : Int32))), (0, .ref a_t), (2, .int l4_2)]) hx hb d_Md_parse_71 rfl hl (by decide) rfl (fun ls hl => ?_)
              have L72 : ∀ (nf : Nat) (l72_1 : Int32) (l72_2 : Int32) (l72_3 : Int32) (x_t_tryEntries_72 : Nat → Int32) (x_t_tryMarks_72 : Nat → Int32) (H : Heap) (locs : List Loc) (ls : Array Slot), f_Md_parse_L72 fu x_t_thrown x_t_places x_t_persons x_t_many x_t_size x_t_at x_t_sought x_t_found x_t_text (f_Md_parse_L4 fu x_t_thrown x_t_places x_t_persons x_t_many x_t_size x_t_at x_t_sought x_t_found x_t_text n4) nf l72_1 l72_2 l72_3 x_t_tryEntries_72 x_t_tryMarks_72 = some (r, x_t_tryEntries', x_t_tryMarks') → va_P G.1 vwCl (ws_Md_parse G a_t a_t_truth a_t_entries a_t_marked a_t_present a_t_helped a_t_counted a_t_told a_t_runs a_t_whose a_t_where a_t_what a_t_before a_t_behind a_t_isOn a_t_tryEntries a_t_tryMarks a_t_text x_t_thrown x_t_places x_t_persons x_t_many x_t_size x_t_at x_t_sought x_t_found x_t_tryEntries_72 x_t_tryMarks_72 x_t_text) H → va_D A (ws_Md_parse G a_t a_t_truth a_t_entries a_t_marked a_t_present a_t_helped a_t_counted a_t_told a_t_runs a_t_whose a_t_where a_t_what a_t_before a_t_behind a_t_isOn a_t_tryEntries a_t_tryMarks a_t_text x_t_thrown x_t_places x_t_persons x_t_many x_t_size x_t_at x_t_sought x_t_found x_t_tryEntries_72 x_t_tryMarks_72 x_t_text) → va_S A s.heap H locs → lv_has ls 4 [(0, .ref a_t), (1, .int l72_1), (2, .int l72_2), (3, .int l72_3)] → W p l e { frames := 2, cells := 0, slots := 0, locals := 42 } s m args below meth c H locs 0 0 (MQ below (qQ (some (.int r)) (wB G (ws_Md_parse G a_t a_t_truth a_t_entries a_t_marked a_t_present a_t_helped a_t_counted a_t_told a_t_runs a_t_whose a_t_where a_t_what a_t_before a_t_behind a_t_isOn a_t_tryEntries a_t_tryMarks a_t_text x_t_thrown x_t_places x_t_persons x_t_many x_t_size x_t_at x_t_sought x_t_found x_t_tryEntries' x_t_tryMarks' x_t_text) A) A) args s 0 0 A) (F0 m 72 ls []) := by
                clear h hP hD hS hl
                intro n72
                induction n72 with
                | zero => intro _ _ _ _ _ H locs ls h; exact nomatch (show none = some _ from h)
                | succ n72 ih72 =>
                  intro l72_1 l72_2 l72_3 x_t_tryEntries_72 x_t_tryMarks_72 H locs ls h hP hD hS hl
                  replace h : fb_Md_parse_L72 fu x_t_thrown x_t_places x_t_persons x_t_many x_t_size x_t_at x_t_sought x_t_found x_t_text (f_Md_parse_L4 fu x_t_thrown x_t_places x_t_persons x_t_many x_t_size x_t_at x_t_sought x_t_found x_t_text n4) (f_Md_parse_L72 fu x_t_thrown x_t_places x_t_persons x_t_many x_t_size x_t_at x_t_sought x_t_found x_t_text (f_Md_parse_L4 fu x_t_thrown x_t_places x_t_persons x_t_many x_t_size x_t_at x_t_sought x_t_found x_t_text n4) n72) l72_1 l72_2 l72_3 x_t_tryEntries_72 x_t_tryMarks_72 = some (r, x_t_tryEntries', x_t_tryMarks') := h
                  unfold fb_Md_parse_L72 at h
                  refine lv_aload_n hx hb d_Md_parse_72 rfl (lv_at hl 0 rfl) ?_
                  refine lv_iload_n hx hb d_Md_parse_73 rfl (lv_at hl 1 rfl) ?_
                  obtain ⟨y22, hy22, h⟩ := o_bind h
                  have hPc := hP.sub (ws' := (ws_Md_digitAt G a_t a_t_truth a_t_entries a_t_marked a_t_present a_t_helped a_t_counted a_t_told a_t_runs a_t_whose a_t_where a_t_what a_t_before a_t_behind a_t_isOn a_t_tryEntries a_t_tryMarks a_t_text x_t_thrown x_t_places x_t_persons x_t_many x_t_size x_t_at x_t_sought x_t_found x_t_text)) [0, 3] rfl
                  have hDc := hD.sub (ws' := (ws_Md_digitAt G a_t a_t_truth a_t_entries a_t_marked a_t_present a_t_helped a_t_counted a_t_told a_t_runs a_t_whose a_t_where a_t_what a_t_before a_t_behind a_t_isOn a_t_tryEntries a_t_tryMarks a_t_text x_t_thrown x_t_places x_t_persons x_t_many x_t_size x_t_at x_t_sought x_t_found x_t_text)) [0, 3] (by decide) rfl
                  have hFc := va_free (wc := (ws_Md_digitAt G a_t a_t_truth a_t_entries a_t_marked a_t_present a_t_helped a_t_counted a_t_told a_t_runs a_t_whose a_t_where a_t_what a_t_before a_t_behind a_t_isOn a_t_tryEntries a_t_tryMarks a_t_text x_t_thrown x_t_places x_t_persons x_t_many x_t_size x_t_at x_t_sought x_t_found x_t_text)) hD hS hA [0, 3] rfl
                  refine q_call1 (va_runV (As := [.int l72_1]) (rest := []) ⟨hx, hb, hml, hown, hts⟩ (c_Md_digitAt l G H.size a_t a_t_truth a_t_entries a_t_marked a_t_present a_t_helped a_t_counted a_t_told a_t_runs a_t_whose a_t_where a_t_what a_t_before a_t_behind a_t_isOn a_t_tryEntries a_t_tryMarks a_t_text l72_1 x_t_thrown x_t_places x_t_persons x_t_many x_t_size x_t_at x_t_sought x_t_found x_t_text _ hy22) (cwV 1 hts (gV gw_538 gw_539 gw_28 gw_36 gw_540) rfl rfl rfl (by decide +kernel) ⟨Nat.le_of_ble_eq_true rfl, Nat.le_of_ble_eq_true rfl⟩) (pV hK hN hPc hDc (ci := 6) (q0 := 0) rfl rfl) rfl rfl hl.1 rfl (lv_room (Nat.le_of_ble_eq_true rfl)) d_Md_parse_74 ⟨Nat.le_of_ble_eq_true rfl, Nat.le_of_ble_eq_true rfl⟩) hS (fun q _ h => hFc q h) hFc (fun H1 locs hB hz hk hS => ?_)
                  obtain ⟨hP, hD⟩ := q_join (wr := [(a_t_tryEntries, .inl (G.2 0, 81, .inl x_t_tryEntries_72)), (a_t_tryMarks, .inl (G.2 0, 81, .inl x_t_tryMarks_72))]) (wn := (ws_Md_parse G a_t a_t_truth a_t_entries a_t_marked a_t_present a_t_helped a_t_counted a_t_told a_t_runs a_t_whose a_t_where a_t_what a_t_before a_t_behind a_t_isOn a_t_tryEntries a_t_tryMarks a_t_text x_t_thrown x_t_places x_t_persons x_t_many x_t_size x_t_at x_t_sought x_t_found x_t_tryEntries_72 x_t_tryMarks_72 x_t_text)) hP hD [0, 3] [1, 2] [2, 0, 1, 3] rfl rfl (by decide) (by decide) rfl (by decide) hk hFc hB.1 hB.2
                  generalize H1 = H at hP hS ⊢
                  replace hP : va_P G.1 vwCl (ws_Md_parse G a_t a_t_truth a_t_entries a_t_marked a_t_present a_t_helped a_t_counted a_t_told a_t_runs a_t_whose a_t_where a_t_what a_t_before a_t_behind a_t_isOn a_t_tryEntries a_t_tryMarks a_t_text x_t_thrown x_t_places x_t_persons x_t_many x_t_size x_t_at x_t_sought x_t_found x_t_tryEntries_72 x_t_tryMarks_72 x_t_text) H := hP
                  replace hD : va_D A (ws_Md_parse G a_t a_t_truth a_t_entries a_t_marked a_t_present a_t_helped a_t_counted a_t_told a_t_runs a_t_whose a_t_where a_t_what a_t_before a_t_behind a_t_isOn a_t_tryEntries a_t_tryMarks a_t_text x_t_thrown x_t_places x_t_persons x_t_many x_t_size x_t_at x_t_sought x_t_found x_t_tryEntries_72 x_t_tryMarks_72 x_t_text) := hD
                  refine lv_iload_n hx hb d_Md_parse_77 rfl (lv_at hl 3 rfl) ?_
                  refine lv_icmp_le (tgt := 109) hx hb d_Md_parse_78 (by decide) (fun c23 => ?_) (fun c23 => ?_)
                  · replace h := (if_pos c23).symm.trans h
                    refine lv_iload_n hx hb d_Md_parse_109 rfl (lv_at hl 3 rfl) ?_
                    refine lv_if_eq (tgt := 123) hx hb d_Md_parse_110 (by decide) (fun c24 => ?_) (fun c24 => ?_)
                    · replace h := (if_pos c24).symm.trans h
                      refine lv_iload_n hx hb d_Md_parse_123 rfl (lv_at hl 1 rfl) ?_
                      cases h
                      exact q_iretW hx hb hr hlocks hP hD hS d_Md_parse_124
                    · replace h := (if_neg c24).symm.trans h
                      refine lv_aload_n hx hb d_Md_parse_113 rfl (lv_at hl 0 rfl) ?_
                      refine lv_iload_n hx hb d_Md_parse_114 rfl (lv_at hl 1 rfl) ?_
                      obtain ⟨y25, hy25, h⟩ := o_bind h
                      have hPc := hP.sub (ws' := (ws_Md_byteAt G a_t a_t_truth a_t_entries a_t_marked a_t_present a_t_helped a_t_counted a_t_told a_t_runs a_t_whose a_t_where a_t_what a_t_before a_t_behind a_t_isOn a_t_tryEntries a_t_tryMarks a_t_text x_t_thrown x_t_places x_t_persons x_t_many x_t_size x_t_at x_t_sought x_t_found x_t_text)) [0, 3] rfl
                      have hDc := hD.sub (ws' := (ws_Md_byteAt G a_t a_t_truth a_t_entries a_t_marked a_t_present a_t_helped a_t_counted a_t_told a_t_runs a_t_whose a_t_where a_t_what a_t_before a_t_behind a_t_isOn a_t_tryEntries a_t_tryMarks a_t_text x_t_thrown x_t_places x_t_persons x_t_many x_t_size x_t_at x_t_sought x_t_found x_t_text)) [0, 3] (by decide) rfl
                      have hFc := va_free (wc := (ws_Md_byteAt G a_t a_t_truth a_t_entries a_t_marked a_t_present a_t_helped a_t_counted a_t_told a_t_runs a_t_whose a_t_where a_t_what a_t_before a_t_behind a_t_isOn a_t_tryEntries a_t_tryMarks a_t_text x_t_thrown x_t_places x_t_persons x_t_many x_t_size x_t_at x_t_sought x_t_found x_t_text)) hD hS hA [0, 3] rfl
                      refine q_call1 (va_runV (As := [.int l72_1]) (rest := []) ⟨hx, hb, hml, hown, hts⟩ (c_Md_byteAt l G H.size a_t a_t_truth a_t_entries a_t_marked a_t_present a_t_helped a_t_counted a_t_told a_t_runs a_t_whose a_t_where a_t_what a_t_before a_t_behind a_t_isOn a_t_tryEntries a_t_tryMarks a_t_text l72_1 x_t_thrown x_t_places x_t_persons x_t_many x_t_size x_t_at x_t_sought x_t_found x_t_text _ hy25) (cwV 1 hts (gV gw_541 gw_542 gw_29 gw_36 gw_543) rfl rfl rfl (by decide +kernel) ⟨Nat.le_of_ble_eq_true rfl, Nat.le_of_ble_eq_true rfl⟩) (pV hK hN hPc hDc (ci := 6) (q0 := 0) rfl rfl) rfl rfl hl.1 rfl (lv_room (Nat.le_of_ble_eq_true rfl)) d_Md_parse_115 ⟨Nat.le_of_ble_eq_true rfl, Nat.le_of_ble_eq_true rfl⟩) hS (fun q _ h => hFc q h) hFc (fun H1 locs hB hz hk hS => ?_)
                      obtain ⟨hP, hD⟩ := q_join (wr := [(a_t_tryEntries, .inl (G.2 0, 81, .inl x_t_tryEntries_72)), (a_t_tryMarks, .inl (G.2 0, 81, .inl x_t_tryMarks_72))]) (wn := (ws_Md_parse G a_t a_t_truth a_t_entries a_t_marked a_t_present a_t_helped a_t_counted a_t_told a_t_runs a_t_whose a_t_where a_t_what a_t_before a_t_behind a_t_isOn a_t_tryEntries a_t_tryMarks a_t_text x_t_thrown x_t_places x_t_persons x_t_many x_t_size x_t_at x_t_sought x_t_found x_t_tryEntries_72 x_t_tryMarks_72 x_t_text)) hP hD [0, 3] [1, 2] [2, 0, 1, 3] rfl rfl (by decide) (by decide) rfl (by decide) hk hFc hB.1 hB.2
                      generalize H1 = H at hP hS ⊢
                      replace hP : va_P G.1 vwCl (ws_Md_parse G a_t a_t_truth a_t_entries a_t_marked a_t_present a_t_helped a_t_counted a_t_told a_t_runs a_t_whose a_t_where a_t_what a_t_before a_t_behind a_t_isOn a_t_tryEntries a_t_tryMarks a_t_text x_t_thrown x_t_places x_t_persons x_t_many x_t_size x_t_at x_t_sought x_t_found x_t_tryEntries_72 x_t_tryMarks_72 x_t_text) H := hP
                      replace hD : va_D A (ws_Md_parse G a_t a_t_truth a_t_entries a_t_marked a_t_present a_t_helped a_t_counted a_t_told a_t_runs a_t_whose a_t_where a_t_what a_t_before a_t_behind a_t_isOn a_t_tryEntries a_t_tryMarks a_t_text x_t_thrown x_t_places x_t_persons x_t_many x_t_size x_t_at x_t_sought x_t_found x_t_tryEntries_72 x_t_tryMarks_72 x_t_text) := hD
                      refine lv_bipush (v := (41 : Int32)) hx hb d_Md_parse_118 (by decide) ?_
                      refine lv_icmp_eq (tgt := 125) hx hb d_Md_parse_120 (by decide) (fun c26 => ?_) (fun c26 => ?_)
                      · replace h := (if_pos c26).symm.trans h
                        refine lv_iinc (v := (l72_1 + (1 : Int32))) (lv' := [(1, .int (l72_1 + (1 : Int32))), (0, .ref a_t), (2, .int l72_2), (3, .int l72_3)]) hx hb d_Md_parse_125 hl (k := 1) rfl rfl (by decide) rfl (fun ls hl => ?_)
                        refine lv_iinc (v := (l72_2 + (1 : Int32))) (lv' := [(2, .int (l72_2 + (1 : Int32))), (1, .int (l72_1 + (1 : Int32))), (0, .ref a_t), (3, .int l72_3)]) hx hb d_Md_parse_128 hl (k := 2) rfl rfl (by decide) rfl (fun ls hl => ?_)
                        refine lv_goto (tgt := 4) hx hb d_Md_parse_131 (by decide) ?_
                        exact ih4 (l72_1 + (1 : Int32)) (l72_2 + (1 : Int32)) x_t_tryEntries_72 x_t_tryMarks_72 _ _ _ h hP hD hS (lv_sub hl [2, 1, 0] rfl)
                      · replace h := (if_neg c26).symm.trans h
                        refine lv_iload_n hx hb d_Md_parse_123 rfl (lv_at hl 1 rfl) ?_
                        cases h
                        exact q_iretW hx hb hr hlocks hP hD hS d_Md_parse_124
                  · replace h := (if_neg c23).symm.trans h
                    refine lv_aload_n hx hb d_Md_parse_81 rfl (lv_at hl 0 rfl) ?_
                    refine lv_iload_n hx hb d_Md_parse_82 rfl (lv_at hl 1 rfl) ?_
                    obtain ⟨y27, hy27, h⟩ := o_bind h
                    have hPc := hP.sub (ws' := (ws_Md_digitAt G a_t a_t_truth a_t_entries a_t_marked a_t_present a_t_helped a_t_counted a_t_told a_t_runs a_t_whose a_t_where a_t_what a_t_before a_t_behind a_t_isOn a_t_tryEntries a_t_tryMarks a_t_text x_t_thrown x_t_places x_t_persons x_t_many x_t_size x_t_at x_t_sought x_t_found x_t_text)) [0, 3] rfl
                    have hDc := hD.sub (ws' := (ws_Md_digitAt G a_t a_t_truth a_t_entries a_t_marked a_t_present a_t_helped a_t_counted a_t_told a_t_runs a_t_whose a_t_where a_t_what a_t_before a_t_behind a_t_isOn a_t_tryEntries a_t_tryMarks a_t_text x_t_thrown x_t_places x_t_persons x_t_many x_t_size x_t_at x_t_sought x_t_found x_t_text)) [0, 3] (by decide) rfl
                    have hFc := va_free (wc := (ws_Md_digitAt G a_t a_t_truth a_t_entries a_t_marked a_t_present a_t_helped a_t_counted a_t_told a_t_runs a_t_whose a_t_where a_t_what a_t_before a_t_behind a_t_isOn a_t_tryEntries a_t_tryMarks a_t_text x_t_thrown x_t_places x_t_persons x_t_many x_t_size x_t_at x_t_sought x_t_found x_t_text)) hD hS hA [0, 3] rfl
                    refine q_call1 (va_runV (As := [.int l72_1]) (rest := []) ⟨hx, hb, hml, hown, hts⟩ (c_Md_digitAt l G H.size a_t a_t_truth a_t_entries a_t_marked a_t_present a_t_helped a_t_counted a_t_told a_t_runs a_t_whose a_t_where a_t_what a_t_before a_t_behind a_t_isOn a_t_tryEntries a_t_tryMarks a_t_text l72_1 x_t_thrown x_t_places x_t_persons x_t_many x_t_size x_t_at x_t_sought x_t_found x_t_text _ hy27) (cwV 1 hts (gV gw_538 gw_539 gw_28 gw_36 gw_540) rfl rfl rfl (by decide +kernel) ⟨Nat.le_of_ble_eq_true rfl, Nat.le_of_ble_eq_true rfl⟩) (pV hK hN hPc hDc (ci := 6) (q0 := 0) rfl rfl) rfl rfl hl.1 rfl (lv_room (Nat.le_of_ble_eq_true rfl)) d_Md_parse_83 ⟨Nat.le_of_ble_eq_true rfl, Nat.le_of_ble_eq_true rfl⟩) hS (fun q _ h => hFc q h) hFc (fun H1 locs hB hz hk hS => ?_)
                    obtain ⟨hP, hD⟩ := q_join (wr := [(a_t_tryEntries, .inl (G.2 0, 81, .inl x_t_tryEntries_72)), (a_t_tryMarks, .inl (G.2 0, 81, .inl x_t_tryMarks_72))]) (wn := (ws_Md_parse G a_t a_t_truth a_t_entries a_t_marked a_t_present a_t_helped a_t_counted a_t_told a_t_runs a_t_whose a_t_where a_t_what a_t_before a_t_behind a_t_isOn a_t_tryEntries a_t_tryMarks a_t_text x_t_thrown x_t_places x_t_persons x_t_many x_t_size x_t_at x_t_sought x_t_found x_t_tryEntries_72 x_t_tryMarks_72 x_t_text)) hP hD [0, 3] [1, 2] [2, 0, 1, 3] rfl rfl (by decide) (by decide) rfl (by decide) hk hFc hB.1 hB.2
                    generalize H1 = H at hP hS ⊢
                    replace hP : va_P G.1 vwCl (ws_Md_parse G a_t a_t_truth a_t_entries a_t_marked a_t_present a_t_helped a_t_counted a_t_told a_t_runs a_t_whose a_t_where a_t_what a_t_before a_t_behind a_t_isOn a_t_tryEntries a_t_tryMarks a_t_text x_t_thrown x_t_places x_t_persons x_t_many x_t_size x_t_at x_t_sought x_t_found x_t_tryEntries_72 x_t_tryMarks_72 x_t_text) H := hP
                    replace hD : va_D A (ws_Md_parse G a_t a_t_truth a_t_entries a_t_marked a_t_present a_t_helped a_t_counted a_t_told a_t_runs a_t_whose a_t_where a_t_what a_t_before a_t_behind a_t_isOn a_t_tryEntries a_t_tryMarks a_t_text x_t_thrown x_t_places x_t_persons x_t_many x_t_size x_t_at x_t_sought x_t_found x_t_tryEntries_72 x_t_tryMarks_72 x_t_text) := hD
                    refine lv_istore_n (lv' := [(3, .int y27), (0, .ref a_t), (1, .int l72_1), (2, .int l72_2)]) hx hb d_Md_parse_86 rfl hl (by decide) rfl (fun ls hl => ?_)
                    refine lv_aload_n hx hb d_Md_parse_87 rfl (lv_at hl 1 rfl) ?_
                    refine va_get (D := G.1) (ci := 6) (v := .ref a_t_tryMarks) (C := "PlayStatesModel") (T := TMd) (N := 25) hx hb hts iw_6 hown hK hP 0 rfl rfl 19 (by decide) (hts _ gw_398) (fun _ h9 => h9) rfl d_Md_parse_88 ?_
                    refine lv_iload_n hx hb d_Md_parse_91 rfl (lv_at hl 3 rfl) ?_
                    refine lv_aload_n hx hb d_Md_parse_92 rfl (lv_at hl 1 rfl) ?_
                    refine va_get (D := G.1) (ci := 6) (v := .ref a_t_tryMarks) (C := "PlayStatesModel") (T := TMd) (N := 25) hx hb hts iw_6 hown hK hP 0 rfl rfl 19 (by decide) (hts _ gw_398) (fun _ h9 => h9) rfl d_Md_parse_93 ?_
                    refine lv_iload_n hx hb d_Md_parse_96 rfl (lv_at hl 3 rfl) ?_
                    obtain ⟨i28, h⟩ := o_if h
                    refine va_iald (n := 81) (f := x_t_tryMarks_72) hx hb hK hP 2 0 rfl rfl i28 d_Md_parse_97 ?_
                    refine lv_iconst (v := (1 : Int32)) hx hb d_Md_parse_98 (by decide) ?_
                    refine lv_iload_n hx hb d_Md_parse_99 rfl (lv_at hl 0 rfl) ?_
                    refine lv_ishl hx hb d_Md_parse_100 ?_
                    refine lv_ior hx hb d_Md_parse_101 ?_
                    obtain ⟨i29, h⟩ := o_if h
                    refine va_iast (n := 81) (f := x_t_tryMarks_72) hx hb hK hP hD hS 2 0 rfl rfl i29 d_Md_parse_102 (fun H locs hP hD hS => ?_)
                    replace hP : va_P G.1 vwCl (ws_Md_parse G a_t a_t_truth a_t_entries a_t_marked a_t_present a_t_helped a_t_counted a_t_told a_t_runs a_t_whose a_t_where a_t_what a_t_before a_t_behind a_t_isOn a_t_tryEntries a_t_tryMarks a_t_text x_t_thrown x_t_places x_t_persons x_t_many x_t_size x_t_at x_t_sought x_t_found x_t_tryEntries_72 (upd x_t_tryMarks_72 l72_2.toNatClampNeg ((x_t_tryMarks_72 l72_2.toNatClampNeg) ||| ((1 : Int32) <<< (y27 &&& 31)))) x_t_text) H := hP
                    replace hD : va_D A (ws_Md_parse G a_t a_t_truth a_t_entries a_t_marked a_t_present a_t_helped a_t_counted a_t_told a_t_runs a_t_whose a_t_where a_t_what a_t_before a_t_behind a_t_isOn a_t_tryEntries a_t_tryMarks a_t_text x_t_thrown x_t_places x_t_persons x_t_many x_t_size x_t_at x_t_sought x_t_found x_t_tryEntries_72 (upd x_t_tryMarks_72 l72_2.toNatClampNeg ((x_t_tryMarks_72 l72_2.toNatClampNeg) ||| ((1 : Int32) <<< (y27 &&& 31)))) x_t_text) := hD
                    refine lv_iinc (v := (l72_1 + (1 : Int32))) (lv' := [(1, .int (l72_1 + (1 : Int32))), (3, .int y27), (0, .ref a_t), (2, .int l72_2)]) hx hb d_Md_parse_103 hl (k := 2) rfl rfl (by decide) rfl (fun ls hl => ?_)
                    refine lv_goto (tgt := 72) hx hb d_Md_parse_106 (by decide) ?_
                    exact ih72 (l72_1 + (1 : Int32)) l72_2 y27 x_t_tryEntries_72 (upd x_t_tryMarks_72 l72_2.toNatClampNeg ((x_t_tryMarks_72 l72_2.toNatClampNeg) ||| ((1 : Int32) <<< (y27 &&& 31)))) _ _ _ h hP hD hS (lv_sub hl [2, 0, 3, 1] rfl)
              exact L72 fu ((l4_1 + (1 : Int32)) + (1 : Int32)) l4_2 (0 : Int32) (upd x_t_tryEntries_4 l4_2.toNatClampNeg y3) (upd x_t_tryMarks_4 l4_2.toNatClampNeg (0 : Int32)) _ _ _ h hP hD hS (lv_sub hl [2, 1, 3, 0] rfl)
            · replace h := (if_neg c21).symm.trans h
              refine lv_goto (tgt := 128) hx hb d_Md_parse_64 (by decide) ?_
              refine lv_iinc (v := (l4_2 + (1 : Int32))) (lv' := [(2, .int (l4_2 + (1 : Int32))), (1, .int (l4_1 + (1 : Int32))), (0, .ref a_t)]) hx hb d_Md_parse_128 hl (k := 2) rfl rfl (by decide) rfl (fun ls hl => ?_)
              refine lv_goto (tgt := 4) hx hb d_Md_parse_131 (by decide) ?_
              exact ih4 (l4_1 + (1 : Int32)) (l4_2 + (1 : Int32)) (upd x_t_tryEntries_4 l4_2.toNatClampNeg y3) (upd x_t_tryMarks_4 l4_2.toNatClampNeg (0 : Int32)) _ _ _ h hP hD hS (lv_sub hl [2, 1, 0] rfl)
          · replace h := (if_neg c19).symm.trans h
            refine lv_iload_n hx hb d_Md_parse_49 rfl (lv_at hl 1 rfl) ?_
            cases h
            exact q_iretW hx hb hr hlocks hP hD hS d_Md_parse_50
  exact L4 fu (0 : Int32) (0 : Int32) x_t_tryEntries x_t_tryMarks _ _ _ h hP hD hS (lv_sub hl [2, 1, 0] rfl)
