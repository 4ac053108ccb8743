theorem gw_42 : (.instantiable "PlayStates" 10 : Cond) ∈ GW := gT 12 (by decide +kernel) (by decide +kernel)
theorem gw_373 : (.instantiable "PlayStatesModel" 25 : Cond) ∈ GW := gT 411 (by decide +kernel) (by decide +kernel)
theorem gw_369 : (.methodLink "PlayStatesLaw" 9 ⟨"PlayStatesLaw", "cell", "([II)I"⟩ : Cond) ∈ GW := gT 407 (by decide +kernel) (by decide +kernel)
theorem gw_370 : (.static ⟨"PlayStatesLaw", "cell", "([II)I"⟩ : Cond) ∈ GW := gT 408 (by decide +kernel) (by decide +kernel)
theorem gw_30 : (.initialized "PlayStatesLaw" : Cond) ∈ GW := gT 0 (by decide +kernel) (by decide +kernel)
theorem gw_371 : (.code ⟨"PlayStatesLaw", "cell", "([II)I"⟩ method_2_code 2 (some .int) : Cond) ∈ GW := gT 409 (by decide +kernel) (by decide +kernel)
theorem gw_41 : (.classLink "PlayStatesLaw" 7 "PlayStates" : Cond) ∈ GW := gT 11 (by decide +kernel) (by decide +kernel)
theorem gw_45 : (.code ⟨"PlayStates", "<init>", "(I)V"⟩ prog_1_method_1_code 2 none : Cond) ∈ GW := gT 15 (by decide +kernel) (by decide +kernel)
theorem gw_43 : (.methodLink "PlayStatesLaw" 15 ⟨"PlayStates", "<init>", "(I)V"⟩ : Cond) ∈ GW := gT 13 (by decide +kernel) (by decide +kernel)
theorem gw_44 : (.instanceMethod ⟨"PlayStates", "<init>", "(I)V"⟩ : Cond) ∈ GW := gT 14 (by decide +kernel) (by decide +kernel)
theorem gw_372 : (.classLink "PlayStatesLaw" 18 "PlayStatesModel" : Cond) ∈ GW := gT 410 (by decide +kernel) (by decide +kernel)
theorem gw_376 : (.code ⟨"PlayStatesModel", "<init>", "(I)V"⟩ prog_8_method_1_code 3 none : Cond) ∈ GW := gT 414 (by decide +kernel) (by decide +kernel)
theorem gw_374 : (.methodLink "PlayStatesLaw" 20 ⟨"PlayStatesModel", "<init>", "(I)V"⟩ : Cond) ∈ GW := gT 412 (by decide +kernel) (by decide +kernel)
theorem gw_375 : (.instanceMethod ⟨"PlayStatesModel", "<init>", "(I)V"⟩ : Cond) ∈ GW := gT 413 (by decide +kernel) (by decide +kernel)
theorem d_law_0 : decode code 0 = .ok (.new 7, 3) := by decide +kernel
theorem d_law_3 : decode code 3 = .ok (.dup, 1) := by decide +kernel
theorem d_law_4 : decode code 4 = .ok (.aload_n 0, 1) := by decide +kernel
theorem d_law_5 : decode code 5 = .ok (.iconst 0, 1) := by decide +kernel
theorem d_law_6 : decode code 6 = .ok (.invokestatic 9, 3) := by decide +kernel
theorem d_law_9 : decode code 9 = .ok (.invokespecial 15, 3) := by decide +kernel
theorem d_law_12 : decode code 12 = .ok (.astore_n 1, 1) := by decide +kernel
theorem d_law_13 : decode code 13 = .ok (.new 18, 3) := by decide +kernel
theorem d_law_16 : decode code 16 = .ok (.dup, 1) := by decide +kernel
theorem d_law_17 : decode code 17 = .ok (.aload_n 0, 1) := by decide +kernel
theorem d_law_18 : decode code 18 = .ok (.iconst 0, 1) := by decide +kernel
theorem d_law_19 : decode code 19 = .ok (.invokestatic 9, 3) := by decide +kernel
theorem d_law_22 : decode code 22 = .ok (.invokespecial 20, 3) := by decide +kernel
theorem d_law_25 : decode code 25 = .ok (.astore_n 2, 1) := by decide +kernel
theorem d_law_26 : decode code 26 = .ok (.iconst 1, 1) := by decide +kernel
theorem d_law_27 : decode code 27 = .ok (.istore_n 3, 1) := by decide +kernel
theorem d_Lw_cell_0 : decode method_2_code 0 = .ok (.iload_n 1, 1) := by decide +kernel
theorem d_Lw_cell_1 : decode method_2_code 1 = .ok (.aload_n 0, 1) := by decide +kernel
theorem d_Lw_cell_2 : decode method_2_code 2 = .ok (.arraylength, 1) := by decide +kernel
theorem d_Lw_cell_3 : decode method_2_code 3 = .ok (.if_icmp .ge 9, 3) := by decide +kernel
theorem d_Lw_cell_6 : decode method_2_code 6 = .ok (.aload_n 0, 1) := by decide +kernel
theorem d_Lw_cell_7 : decode method_2_code 7 = .ok (.iload_n 1, 1) := by decide +kernel
theorem d_Lw_cell_8 : decode method_2_code 8 = .ok (.iaload, 1) := by decide +kernel
theorem d_Lw_cell_9 : decode method_2_code 9 = .ok (.goto 4, 3) := by decide +kernel
theorem d_Lw_cell_12 : decode method_2_code 12 = .ok (.iconst 0, 1) := by decide +kernel
theorem d_Lw_cell_13 : decode method_2_code 13 = .ok (.ireturn, 1) := by decide +kernel
theorem nwf_0 : (.fieldLinkNest "PlayStates" 102 "PlayStates$RowTable" "place" "[I" "PlayStates" : Cond) ∈ lw_tbl := List.mem_append_right _ (List.mem_of_getElem? (i := 34) (by decide +kernel))
theorem nwf_1 : (.fieldLinkNest "PlayStates" 118 "PlayStates$RowTable" "told" "[I" "PlayStates" : Cond) ∈ lw_tbl := List.mem_append_right _ (List.mem_of_getElem? (i := 36) (by decide +kernel))
theorem nwf_2 : (.fieldLinkNest "PlayStates" 105 "PlayStates$RowTable" "before" "[I" "PlayStates" : Cond) ∈ lw_tbl := List.mem_append_right _ (List.mem_of_getElem? (i := 38) (by decide +kernel))
theorem nwf_3 : (.fieldLinkNest "PlayStates" 112 "PlayStates$RowTable" "behind" "[I" "PlayStates" : Cond) ∈ lw_tbl := List.mem_append_right _ (List.mem_of_getElem? (i := 40) (by decide +kernel))
theorem nwf_4 : (.fieldLinkNest "PlayStates" 197 "PlayStates$RowTable" "count" "I" "PlayStates" : Cond) ∈ lw_tbl := List.mem_append_right _ (List.mem_of_getElem? (i := 42) (by decide +kernel))
theorem nwf_5 : (.fieldLinkNest "PlayStates" 125 "PlayStates$Board" "entries" "[I" "PlayStates" : Cond) ∈ lw_tbl := List.mem_append_right _ (List.mem_of_getElem? (i := 62) (by decide +kernel))
theorem nwf_6 : (.fieldLinkNest "PlayStates" 128 "PlayStates$Board" "markBits" "[I" "PlayStates" : Cond) ∈ lw_tbl := List.mem_append_right _ (List.mem_of_getElem? (i := 64) (by decide +kernel))
theorem nwf_7 : (.fieldLinkNest "PlayStates" 72 "PlayStates$Person" "number" "I" "PlayStates" : Cond) ∈ lw_tbl := List.mem_append_right _ (List.mem_of_getElem? (i := 163) (by decide +kernel))
theorem nwf_8 : (.fieldLinkNest "PlayStates" 99 "PlayStates$Person" "board" "LPlayStates$Board;" "PlayStates" : Cond) ∈ lw_tbl := List.mem_append_right _ (List.mem_of_getElem? (i := 165) (by decide +kernel))
theorem nwf_9 : (.fieldLinkNest "PlayStates" 142 "PlayStates$Person" "clock" "LPlayStates$Clock;" "PlayStates" : Cond) ∈ lw_tbl := List.mem_append_right _ (List.mem_of_getElem? (i := 167) (by decide +kernel))
theorem nwf_10 : (.fieldLinkNest "PlayStates" 93 "PlayStates$Person" "present" "I" "PlayStates" : Cond) ∈ lw_tbl := List.mem_append_right _ (List.mem_of_getElem? (i := 169) (by decide +kernel))
theorem nwf_11 : (.fieldLinkNest "PlayStates" 139 "PlayStates$Person" "helpCount" "I" "PlayStates" : Cond) ∈ lw_tbl := List.mem_append_right _ (List.mem_of_getElem? (i := 170) (by decide +kernel))
theorem nwm_0 : (.methodLinkNest "PlayStates$Person" 24 ⟨"PlayStates$Clock", "<init>", "()V"⟩ "PlayStates" : Cond) ∈ lw_tbl := List.mem_append_right _ (List.mem_of_getElem? (i := 148) (by decide +kernel))
theorem nwm_1 : (.methodLinkNest "PlayStates$StateReader" 51 ⟨"PlayStates", "isOneToNine", "(I)Z"⟩ "PlayStates" : Cond) ∈ lw_tbl := List.mem_append_right _ (List.mem_of_getElem? (i := 380) (by decide +kernel))
theorem nwa_0 : (.arrayOver (.object "PlayStates$Person") : Cond) ∈ lw_tbl := List.mem_append_right _ (List.mem_of_getElem? (i := 26) (by decide +kernel))
theorem known {s : State} {b : Nat} (hts : ∀ w ∈ lw_tbl, w.before #[Value.ref b] s = true) : ∃ G : gG, va_K G.1 vwCl (tyL G) s ∧ nW s := by
  have htg : ∀ w ∈ GW, w.before #[Value.ref b] s = true := fun w h => hts w (GW_in w h)
  obtain ⟨c0, i0, k0⟩ := u_known (C := "PlayStates$Board") (T := TBd) (N := 2) (n := 2) htg iw_0 (htg _ gw_74)
  obtain ⟨c1, i1, k1⟩ := u_known (C := "PlayStates$Clock") (T := TCk) (N := 3) (n := 3) htg iw_1 (htg _ gw_140)
  obtain ⟨c2, i2, k2⟩ := u_known (C := "PlayStates$Person") (T := TPn) (N := 5) (n := 5) htg iw_2 (htg _ gw_132)
  obtain ⟨c3, i3, k3⟩ := u_known (C := "PlayStates$RowTable") (T := TRt) (N := 5) (n := 5) htg iw_3 (htg _ gw_57)
  obtain ⟨c4, i4, k4⟩ := u_known (C := "PlayStates$StateReader") (T := TSr) (N := 6) (n := 6) htg iw_4 (htg _ gw_85)
  obtain ⟨c5, i5, k5⟩ := u_known (C := "PlayStates") (T := TPS) (N := 10) (n := 10) htg iw_5 (htg _ gw_42)
  obtain ⟨c6, i6, k6⟩ := u_known (C := "PlayStatesModel") (T := TMd) (N := 25) (n := 25) htg iw_6 (htg _ gw_373)
  obtain ⟨aI, bI, pI, xI, yI, zI⟩ := Cond.arrayClass_spec (htg _ gw_72)
  obtain ⟨aZ, bZ, pZ, xZ, yZ, zZ⟩ := Cond.arrayClass_spec (htg _ gw_83)
  obtain ⟨aJ, bJ, pJ, xJ, yJ, zJ⟩ := Cond.arrayClass_spec (htg _ gw_429)
  obtain ⟨pP, aP, bP, w1, w2, w3, w4, w5⟩ := Cond.arrayOver_spec (hts _ nwa_0)
  refine ⟨(((fun k => match k with | 0 => c0 | 1 => c1 | 2 => c2 | 3 => c3 | 4 => c4 | 5 => c5 | _ => c6), (fun k => match k with | 0 => i0 | 1 => i1 | 2 => i2 | 3 => i3 | 4 => i4 | 5 => i5 | _ => i6)), (fun k => match k with | 0 => aI | 1 => aZ | 2 => aJ | _ => aP)), ⟨?_, ?_⟩, ?_⟩
  · intro k q hq
    match k, hq with
    | 0, hq => cases hq; exact k0
    | 1, hq => cases hq; exact k1
    | 2, hq => cases hq; exact k2
    | 3, hq => cases hq; exact k3
    | 4, hq => cases hq; exact k4
    | 5, hq => cases hq; exact k5
    | 6, hq => cases hq; exact k6
    | k + 7, hq => simp [vwCl] at hq
  · intro k q hq
    match k, hq with
    | 0, hq => cases hq; exact ⟨fun n z => ⟨fun k h => (by cases h), bI, yI, pI, zI⟩, xI⟩
    | 1, hq => cases hq; exact ⟨fun n z => ⟨fun k h => (by cases h), bZ, yZ, pZ, zZ⟩, xZ⟩
    | 2, hq => cases hq; exact ⟨fun n z => ⟨fun k h => (by cases h), bJ, yJ, pJ, zJ⟩, xJ⟩
    | 3, hq => cases hq; exact ⟨fun n z => ⟨fun k h => (by cases h), bP, w3, pP, w4⟩, bP, pP, w3, w4, w1, w5⟩
    | k + 4, hq => simp [tyL] at hq
  · exact ⟨List.forall_mem_cons.mpr ⟨va_tabs rfl rfl (hts _ nwf_0), List.forall_mem_cons.mpr ⟨va_tabs rfl rfl (hts _ nwf_1), List.forall_mem_cons.mpr ⟨va_tabs rfl rfl (hts _ nwf_2), List.forall_mem_cons.mpr ⟨va_tabs rfl rfl (hts _ nwf_3), List.forall_mem_cons.mpr ⟨va_tabs rfl rfl (hts _ nwf_4), List.forall_mem_cons.mpr ⟨va_tabs rfl rfl (hts _ nwf_5), List.forall_mem_cons.mpr ⟨va_tabs rfl rfl (hts _ nwf_6), List.forall_mem_cons.mpr ⟨va_tabs rfl rfl (hts _ nwf_7), List.forall_mem_cons.mpr ⟨va_tabs rfl rfl (hts _ nwf_8), List.forall_mem_cons.mpr ⟨va_tabs rfl rfl (hts _ nwf_9), List.forall_mem_cons.mpr ⟨va_tabs rfl rfl (hts _ nwf_10), List.forall_mem_cons.mpr ⟨va_tabs rfl rfl (hts _ nwf_11), fun _ h => absurd h List.not_mem_nil⟩⟩⟩⟩⟩⟩⟩⟩⟩⟩⟩⟩, List.forall_mem_cons.mpr ⟨va_tabs rfl rfl (hts _ nwm_0), List.forall_mem_cons.mpr ⟨va_tabs rfl rfl (hts _ nwm_1), fun _ h => absurd h List.not_mem_nil⟩⟩, va_AO.of (hts _ nwa_0)⟩


def p0v (L : Nat) (xs : Nat → Int32) : Int32 := if 0 < L then xs 0 else 0
def cellP (b L : Nat) (xs : Nat → Int32) (sz : Nat) : Array Value → State → Prop := va_Pc [.ref b, .int 0] (fun U => U.heap.size = sz ∧ va_X b L xs U U.heap ∧ b < U.heap.size)
set_option maxHeartbeats 4000000 in
set_option maxRecDepth 100000 in
theorem c_cell (l : Launch) (sz b L : Nat) (xs : Nat → Int32) (hL : L ≤ 2561) : Met l y_Lw_cell w_Lw_cell { frames := 0, cells := 0, slots := 0, locals := 0 } (cellP b L xs sz) (qQ (some (.int (p0v L xs))) (fun _ => True) (fun q => sz ≤ q)) 0 0 (fun q => sz ≤ q) := by
  refine Met.ofW (cc := method_2_code) (maxL := 2) (ret := some .int) (by decide) rfl ?_
  intro p e s m args below meth c s₁ Bd hml hv
  obtain ⟨rfl, hsz, hX, hbl⟩ := hv
  subst hsz
  have hx := Bd.exec
  have hb := Bd.bytes
  have hr := Bd.returns
  have hlocks := Bd.notSynchronized
  have hS : va_S (fun q => s.heap.size ≤ q) s.heap s.heap [] := va_S.rf
  have hbA : ¬ (fun q => s.heap.size ≤ q) b := Nat.not_le.mpr hbl
  have hl := lv_entry [.ref b, .int 0] (n := 2) (Nat.le_of_ble_eq_true rfl)
  rw [lg_entry_eq]
  generalize (lg_sl ([.ref b, .int 0]) ++ List.replicate (2 - (lg_sl ([.ref b, .int 0])).length) Slot.unset).toArray = ls at hl ⊢
  have hl : lv_has ls 2 [(0, .ref b), (1, .int 0)] := hl
  refine lv_iload_n hx hb d_Lw_cell_0 rfl (lv_at hl 1 rfl) ?_
  refine lv_aload_n hx hb d_Lw_cell_1 rfl (lv_at hl 0 rfl) ?_
  refine va_slen hx hb hX hbl hbA hS d_Lw_cell_2 ?_
  refine lv_icmp_ge (tgt := 12) hx hb d_Lw_cell_3 (by decide) (fun h => ?_) (fun h => ?_)
  · have h0 : ¬ 0 < L := fun h0 => (nI_ge (a := 0) (b := L) h0 (by omega)) h
    refine lv_iconst (v := 0) hx hb d_Lw_cell_12 (by decide) ?_
    rw [show p0v L xs = 0 from if_neg h0]
    exact q_iret (B := fun _ _ => True) hx hb hr hlocks trivial hS d_Lw_cell_13
  · have h0 : 0 < L := by
      rcases Nat.eq_zero_or_pos L with q | q
      · subst q; exact absurd (show Int32.ofNat 0 ≤ (0 : Int32) by decide) h
      · exact q
    refine lv_aload_n hx hb d_Lw_cell_6 rfl (lv_at hl 0 rfl) ?_
    refine lv_iload_n hx hb d_Lw_cell_7 rfl (lv_at hl 1 rfl) ?_
    refine va_sld hx hb hX hbl hbA hS (show vp_in (0 : Int32) L from vp_in_nI (n := 0) h0 (by omega)) d_Lw_cell_8 ?_
    refine lv_goto (tgt := 13) hx hb d_Lw_cell_9 (by decide) ?_
    rw [show p0v L xs = xs 0 from if_pos h0]
    exact q_iret (B := fun _ _ => True) hx hb hr hlocks trivial hS d_Lw_cell_13
theorem vP_keep {D : va_G} {cl : List vw_C} {ws : va_W} {H H1 : Heap} (hP : va_P D cl ws H) (hk : ∀ q : Nat, q < H.size → H1[q]? = H[q]?) : va_P D cl ws H1 := vP_mem.mpr fun q hq => (vP_mem.mp hP q hq).kept (hk q.1 (vP_mem.mp hP q hq).lt)
set_option maxHeartbeats 4000000 in
theorem L_cell {p : Program} {l : Launch} {e : Env} {s : State} {m : MethodId} {below : List Frame} {meth : Method} {c : Code} {G : gG} {b L : Nat} {xs : Nat → Int32} {Q : State → Prop} {H : Heap} {locs : List Loc} {cells slots pc : Nat} {ls : Array Slot} {rest : List Value} {w : va_W} (C0 : lw_At p s m meth c b L xs) (hL : L ≤ 2561) (hW : Wd s G w H locs) (hls : ls.size = 4) (hst : (rest.map fun v => v.category).sum ≤ 8) (h1 : cells ≤ 600000) (h2 : slots ≤ 7302250) (hdg : decode code pc = .ok (.invokestatic 9, 3))
    (kk : ∀ (H1 : Heap) (locs1 : List Loc), Wd s G w H1 locs1 → W p l e room_1 s m #[Value.ref b] below meth c H1 locs1 cells slots Q (F0 m (pc + 3) ls (.int (p0v L xs) :: rest))) : W p l e room_1 s m #[Value.ref b] below meth c H locs cells slots Q (F0 m pc ls (.int 0 :: .ref b :: rest)) := by
  obtain ⟨hx, hb, -, hml, hown, hts, hX, hbl, -⟩ := C0
  obtain ⟨hP, hD, hS⟩ := hW
  have htg : ∀ w ∈ GW, w.before #[Value.ref b] s = true := fun w h => hts w (GW_in w h)
  have hpre : PreS s H (cellP b L xs H.size) [.ref b, .int 0] := by
    refine ⟨fun a U g mk q => ?_, fun U hU hW => ⟨rfl, by rw [hU], ?_, ?_⟩⟩
    · obtain ⟨q0, q1, q2, q3⟩ := q
      exact ⟨q0, q1, va_X.moved (u := U) (U := U.calling g mk a) (Vm.Alike.refl U.vm) q2, q3⟩
    · rw [hU]; exact va_X.moved hW.alike (va_X.kept hX (hS.2.1 b hbl (Nat.not_le.mpr hbl)))
    · rw [hU]; exact Nat.lt_of_lt_of_le hbl hS.1
  refine q_call1 (A1 := fun q => H.size ≤ q) (va_runS (As := [.ref b, .int 0]) (rest := rest) ⟨hx, hb, hml, hown, htg⟩ (c_cell l H.size b L xs hL) (cwS 2 htg (gS gw_369 gw_370 gw_30 gw_371) rfl rfl rfl (by decide +kernel) ⟨Nat.le_of_ble_eq_true rfl, Nat.le_of_ble_eq_true rfl⟩) hpre rfl rfl hls rfl (lv_room hst) hdg ⟨h1, h2⟩) hS (fun q _ h => Nat.le_trans hS.1 h) (fun q h => Nat.le_trans hS.1 h) (fun H1 locs1 _ hz hk hS1 => ?_)
  exact kk H1 locs1 ⟨vP_keep hP (fun q h => hk q h (Nat.not_le.mpr h)), hD, hS1⟩
def cC (G : gG) (ax q1 q2 q3 q4 q5 q6 q7 q8 q9 q10 q11 q12 q13 : Nat) (n : Nat) : va_W := [(ax, .inr (5, [.int (nI n), .ref q1, .ref q2, .int (0 : Int32), .ref q3, .ref q8, .ref q9, .int (0 : Int32), .ref q10, .ref q13])), (q1, .inl (G.2 0, n, .inl (fun _ => 0))), (q2, .inl (G.2 3, 8, .inr (.inr (.inr (.inr (fun _ => none)))))), (q3, .inr (3, [.ref q4, .ref q5, .ref q6, .ref q7, .int (0 : Int32)])), (q4, .inl (G.2 0, 600, .inl (fun _ => 0))), (q5, .inl (G.2 0, 600, .inl (fun _ => 0))), (q6, .inl (G.2 0, 600, .inl (fun _ => 0))), (q7, .inl (G.2 0, 600, .inl (fun _ => 0))), (q8, .inl (G.2 1, 600, .inl (fun _ => 0))), (q9, .inl (G.2 0, 1000, .inl (fun _ => 0))), (q10, .inr (0, [.ref q11, .ref q12])), (q11, .inl (G.2 0, n, .inl (fun _ => 0))), (q12, .inl (G.2 0, n, .inl (fun _ => 0))), (q13, .inr (4, [.ref q10, .int (nI n), .int (0 : Int32), .int (0 : Int32), .int (0 : Int32), .int (0 : Int32)]))]
def mC (G : gG) (bx q1 q2 q3 q4 q5 q6 q7 q8 q9 q10 q11 q12 q13 q14 q15 q16 q17 : Nat) (pl : Int32) : va_W := [(bx, .inr (6, [.int (0 : Int32), .int pl, .int (0 : Int32), .ref q1, .ref q2, .ref q3, .ref q4, .ref q5, .ref q6, .ref q7, .ref q8, .int (0 : Int32), .ref q9, .ref q10, .ref q11, .ref q12, .ref q13, .ref q14, .ref q15, .ref q16, .int (0 : Int32), .ref q17, .int (0 : Int32), .int (0 : Int32), .int (0 : Int32)])), (q1, .inl (G.2 0, 81, .inl (fun _ => 0))), (q2, .inl (G.2 0, 648, .inl (fun _ => 0))), (q3, .inl (G.2 0, 648, .inl (fun _ => 0))), (q4, .inl (G.2 0, 8, .inl (fun _ => 0))), (q5, .inl (G.2 0, 8, .inl (fun _ => 0))), (q6, .inl (G.2 2, 8, .inr (.inl (fun _ => 0)))), (q7, .inl (G.2 2, 8, .inr (.inl (vp_updL (vp_updL (vp_updL (vp_updL (vp_updL (vp_updL (vp_updL (vp_updL (fun _ => 0) (0 : Int32).toNatClampNeg (-1 : Int64)) ((0 : Int32) + (1 : Int32)).toNatClampNeg (-1 : Int64)) (((0 : Int32) + (1 : Int32)) + (1 : Int32)).toNatClampNeg (-1 : Int64)) ((((0 : Int32) + (1 : Int32)) + (1 : Int32)) + (1 : Int32)).toNatClampNeg (-1 : Int64)) (((((0 : Int32) + (1 : Int32)) + (1 : Int32)) + (1 : Int32)) + (1 : Int32)).toNatClampNeg (-1 : Int64)) ((((((0 : Int32) + (1 : Int32)) + (1 : Int32)) + (1 : Int32)) + (1 : Int32)) + (1 : Int32)).toNatClampNeg (-1 : Int64)) (((((((0 : Int32) + (1 : Int32)) + (1 : Int32)) + (1 : Int32)) + (1 : Int32)) + (1 : Int32)) + (1 : Int32)).toNatClampNeg (-1 : Int64)) ((((((((0 : Int32) + (1 : Int32)) + (1 : Int32)) + (1 : Int32)) + (1 : Int32)) + (1 : Int32)) + (1 : Int32)) + (1 : Int32)).toNatClampNeg (-1 : Int64))))), (q8, .inl (G.2 1, 8, .inl (fun _ => 0))), (q9, .inl (G.2 0, 600, .inl (fun _ => 0))), (q10, .inl (G.2 0, 600, .inl (fun _ => 0))), (q11, .inl (G.2 0, 600, .inl (fun _ => 0))), (q12, .inl (G.2 0, 600, .inl (fun _ => 0))), (q13, .inl (G.2 0, 600, .inl (fun _ => 0))), (q14, .inl (G.2 1, 600, .inl (fun _ => 0))), (q15, .inl (G.2 0, 81, .inl (fun _ => 0))), (q16, .inl (G.2 0, 81, .inl (fun _ => 0))), (q17, .inl (G.2 0, 1000, .inl (fun _ => 0)))]
def BM (G : gG) (bx : Nat) (pl : Int32) (A : Nat → Prop) (H : Heap) : Prop := ∃ q1 q2 q3 q4 q5 q6 q7 q8 q9 q10 q11 q12 q13 q14 q15 q16 q17 : Nat, va_P G.1 vwCl (mC G bx q1 q2 q3 q4 q5 q6 q7 q8 q9 q10 q11 q12 q13 q14 q15 q16 q17 pl) H ∧ va_D A (mC G bx q1 q2 q3 q4 q5 q6 q7 q8 q9 q10 q11 q12 q13 q14 q15 q16 q17 pl)
def BC (G : gG) (ax : Nat) (n : Nat) (A : Nat → Prop) (H : Heap) : Prop := ∃ q1 q2 q3 q4 q5 q6 q7 q8 q9 q10 q11 q12 q13 : Nat, va_P G.1 vwCl (cC G ax q1 q2 q3 q4 q5 q6 q7 q8 q9 q10 q11 q12 q13 n) H ∧ va_D A (cC G ax q1 q2 q3 q4 q5 q6 q7 q8 q9 q10 q11 q12 q13 n)
def fM (bx : Nat) : va_W := [(bx, .inr (6, [.int (0 : Int32), .int (0 : Int32), .int (0 : Int32), .null, .null, .null, .null, .null, .null, .null, .null, .int (0 : Int32), .null, .null, .null, .null, .null, .null, .null, .null, .int (0 : Int32), .null, .int (0 : Int32), .int (0 : Int32), .int (0 : Int32)]))]
def fC (ax : Nat) : va_W := [(ax, .inr (5, [.int (0 : Int32), .null, .null, .int (0 : Int32), .null, .null, .null, .int (0 : Int32), .null, .null]))]
set_option maxRecDepth 100000 in
theorem k_Md_init (l : Launch) (G : gG) (sz bx : Nat) (p0 pl : Int32) (h : (¬ (1 : Int32) ≤ p0 ∧ pl = 1) ∨ ((1 : Int32) ≤ p0 ∧ ¬ p0 ≤ (81 : Int32) ∧ pl = 81) ∨ ((1 : Int32) ≤ p0 ∧ p0 ≤ (81 : Int32) ∧ pl = p0)) : cN l y_Md_init w_Md_init { frames := 1, cells := 17, slots := 6179, locals := 20 } G sz [.ref bx, .int p0] (fM bx) none (BM G bx pl) 17 6179 := by
  rcases h with ⟨h, rfl⟩ | ⟨h, h', rfl⟩ | ⟨h, h', rfl⟩
  · exact c_Md_init_lo l G sz bx p0 h
  · exact c_Md_init_hi l G sz bx p0 h h'
  · exact c_Md_init_mid l G sz bx _ h h'
theorem k_PS_init (l : Launch) (G : gG) (sz ax n : Nat) (h81 : n ≤ 81) (p0 : Int32) (hpl : (if (1 : Int32) < (if (81 : Int32) < p0 then (81 : Int32) else p0) then (if (81 : Int32) < p0 then (81 : Int32) else p0) else (1 : Int32)) = (nI n)) : cN l y_PS_init w_PS_init { frames := 2, cells := 13, slots := 4264, locals := 42 } G sz [.ref ax, .int p0] (fC ax) none (BC G ax n) 13 4264 := c_PS_init l G sz ax n h81 p0 hpl
theorem clampn (p0 : Int32) : ∃ n : Nat, 1 ≤ n ∧ n ≤ 81 ∧ (if (1 : Int32) < (if (81 : Int32) < p0 then (81 : Int32) else p0) then (if (81 : Int32) < p0 then (81 : Int32) else p0) else (1 : Int32)) = nI n ∧ ((¬ (1 : Int32) ≤ p0 ∧ nI n = 1) ∨ ((1 : Int32) ≤ p0 ∧ ¬ p0 ≤ (81 : Int32) ∧ nI n = 81) ∨ ((1 : Int32) ≤ p0 ∧ p0 ≤ (81 : Int32) ∧ nI n = p0)) := by
  by_cases h1 : (1 : Int32) ≤ p0
  · by_cases h2 : p0 ≤ (81 : Int32)
    · rcases ix_or p0 (n := 82) (by decide) with h | ⟨k, hk, rfl⟩
      · exfalso
        rcases h with h | h
        · exact Int32.not_le.mpr h (Int32.le_trans (show (0 : Int32) ≤ 1 by decide) h1)
        · exact absurd (Int32.le_trans h h2) (by decide)
      · have k0 : 1 ≤ k := by
          rcases Nat.eq_zero_or_pos k with q | q
          · subst q; exact absurd h1 (by decide)
          · exact q
        refine ⟨k, k0, by omega, ?_, Or.inr (Or.inr ⟨h1, h2, rfl⟩)⟩
        rw [if_neg (show ¬ (81 : Int32) < nI k from Int32.not_lt.mpr h2)]
        rcases Nat.lt_or_ge 1 k with q | q
        · rw [if_pos (show (1 : Int32) < nI k from nI_lt (a := 1) q (by omega))]
        · obtain rfl : k = 1 := by omega
          rfl
    · refine ⟨81, by decide, by decide, ?_, Or.inr (Or.inl ⟨h1, h2, rfl⟩)⟩
      rw [if_pos (Int32.not_le.mp h2), if_pos (show (1 : Int32) < 81 by decide)]
      rfl
  · refine ⟨1, by decide, by decide, ?_, Or.inl ⟨h1, rfl⟩⟩
    have h2 : p0 < 1 := Int32.not_le.mp h1
    rw [if_neg (show ¬ (81 : Int32) < p0 from fun h => absurd (Int32.lt_trans h h2) (by decide)), if_neg (show ¬ (1 : Int32) < p0 from fun h => absurd (Int32.lt_trans h h2) (by decide))]
    rfl
set_option maxHeartbeats 4000000 in
set_option maxRecDepth 100000 in
theorem Good_start (G : gG) (ax q1 q2 q3 q4 q5 q6 q7 q8 q9 q10 q11 q12 q13 bx r1 r2 r3 r4 r5 r6 r7 r8 r9 r10 r11 r12 r13 r14 r15 r16 r17 n : Nat) (n1 : 1 ≤ n) (n81 : n ≤ 81) : Good G ax bx (cC G ax q1 q2 q3 q4 q5 q6 q7 q8 q9 q10 q11 q12 q13 n ++ mC G bx r1 r2 r3 r4 r5 r6 r7 r8 r9 r10 r11 r12 r13 r14 r15 r16 r17 (nI n)) :=
  ⟨fun i => [ax, q1, q2, q3, q4, q5, q6, q7, q8, q9, q10, q11, q12, q13].getD i 0, fun i => [bx, r1, r2, r3, r4, r5, r6, r7, r8, r9, r10, r11, r12, r13, r14, r15, r16, r17].getD i 0, fun _ _ => 0, n, 0, 0, 0, (fun _ => 0), (fun _ => none), (fun _ => 0), (fun _ => 0), (fun _ => 0), (fun _ => 0), (fun _ => 0), (fun _ => 0), (fun _ => 0), (fun _ => 0), 0, 0, 0, 0, (fun _ => 0), (fun _ => 0), (fun _ _ => 0), (fun _ _ => 0), (fun _ => 0), (fun _ => 0), (fun _ => 0), 0, 0, 0, 0, (fun _ => 0), (fun _ => 0), (fun _ => 0), (fun _ => 0), (fun _ => 0), (fun _ => 0), (vp_updL (vp_updL (vp_updL (vp_updL (vp_updL (vp_updL (vp_updL (vp_updL (fun _ => 0) (0 : Int32).toNatClampNeg (-1 : Int64)) ((0 : Int32) + (1 : Int32)).toNatClampNeg (-1 : Int64)) (((0 : Int32) + (1 : Int32)) + (1 : Int32)).toNatClampNeg (-1 : Int64)) ((((0 : Int32) + (1 : Int32)) + (1 : Int32)) + (1 : Int32)).toNatClampNeg (-1 : Int64)) (((((0 : Int32) + (1 : Int32)) + (1 : Int32)) + (1 : Int32)) + (1 : Int32)).toNatClampNeg (-1 : Int64)) ((((((0 : Int32) + (1 : Int32)) + (1 : Int32)) + (1 : Int32)) + (1 : Int32)) + (1 : Int32)).toNatClampNeg (-1 : Int64)) (((((((0 : Int32) + (1 : Int32)) + (1 : Int32)) + (1 : Int32)) + (1 : Int32)) + (1 : Int32)) + (1 : Int32)).toNatClampNeg (-1 : Int64)) ((((((((0 : Int32) + (1 : Int32)) + (1 : Int32)) + (1 : Int32)) + (1 : Int32)) + (1 : Int32)) + (1 : Int32)) + (1 : Int32)).toNatClampNeg (-1 : Int64)), (fun _ => 0), (fun _ => 0), (fun _ => 0), (fun _ => 0), (fun _ => 0), (fun _ => 0), (fun _ => 0), (fun _ => 0), (fun _ => 0), (fun _ => 0), rfl, rfl, ⟨⟨n1, n81, by decide, by decide, by decide⟩, fun c _ => ⟨rfl, 0, by decide, rfl⟩, fun j h => absurd h (Nat.not_lt_zero _), fun j h => absurd h (Nat.not_lt_zero _), fun r h => absurd h (Nat.not_lt_zero _), fun j _ hj => ⟨fun c _ => ⟨rfl, rfl⟩, rfl, rfl, rfl, by rcases (show j = 0 ∨ j = 1 ∨ j = 2 ∨ j = 3 ∨ j = 4 ∨ j = 5 ∨ j = 6 ∨ j = 7 by omega) with rfl | rfl | rfl | rfl | rfl | rfl | rfl | rfl <;> decide⟩, fun i h => absurd h (Nat.not_lt_zero _)⟩, rfl⟩
