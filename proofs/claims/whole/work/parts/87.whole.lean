set_option maxHeartbeats 4000000 in
set_option maxRecDepth 100000 in
/-- THE LAW, from its entry -/
theorem whole_start {p : Program} {e : Env} {s : State} {m : MethodId} {below : List Frame} {meth : Method} {c : Code} (l : Launch) {b L : Nat} {xs : Nat → Int32} (hL : L ≤ 2561) (C0 : lw_At p s m meth c b L xs) : W p l e room_1 s m #[Value.ref b] below meth c s.heap [] 0 0 (lw_Z below #[Value.ref b] s) (entryFrame m ([Value.ref b] : List Value).toArray 4) := by
  obtain ⟨hx, hb, hr, hml, hown, hts, hX, hbl, hlocks, hgv⟩ := id C0
  have htg : ∀ w ∈ GW, w.before #[Value.ref b] s = true := fun w h => hts w (GW_in w h)
  have hA : ∀ q : Nat, s.heap.size ≤ q → lA s q := fun _ h => h
  obtain ⟨G, hK, hN⟩ := known hts
  obtain ⟨n, n1, n81, hpl, hcs⟩ := clampn (p0v L xs)
  have hS : va_S (lA s) s.heap s.heap [] := va_S.rf
  have hP : va_P G.1 vwCl [] s.heap := fun k q h => by simp at h
  have hD : va_D (lA s) [] := ⟨fun i j p q h => by simp at h, fun k q h => by simp at h⟩
  have hl := lv_entry ([.ref b]) (n := 4) (Nat.le_of_ble_eq_true rfl)
  rw [lg_entry_eq]
  generalize (lg_sl ([.ref b]) ++ List.replicate (4 - (lg_sl ([.ref b])).length) Slot.unset).toArray = ls at hl ⊢
  have hl : lv_has ls 4 [(0, .ref b)] := hl
  refine va_new (ci := 5) (fs := [.int (0 : Int32), .null, .null, .int (0 : Int32), .null, .null, .null, .int (0 : Int32), .null, .null]) (C := "PlayStates") (T := TPS) (N := 10) hx hb htg iw_5 tyPS tyPS_ok hown (htg _ gw_41) (htg _ gw_42) (htg _ gw_31) hK hP hD hS hA rfl (by decide +kernel) (Nat.le_of_ble_eq_true rfl) (Nat.le_of_ble_eq_true rfl) d_law_0 (fun ax H hP hD hS => ?_)
  replace hP : va_P G.1 vwCl (fC ax) H := hP
  replace hD : va_D (lA s) (fC ax) := hD
  refine lv_dup hx hb d_law_3 rfl ?_
  refine lv_aload_n hx hb d_law_4 rfl (lv_at hl 0 rfl) ?_
  refine lv_iconst (v := 0) hx hb d_law_5 (by decide) ?_
  refine L_cell C0 hL ⟨hP, hD, hS⟩ hl.1 (Nat.le_of_ble_eq_true rfl) (Nat.le_of_ble_eq_true rfl) (Nat.le_of_ble_eq_true rfl) d_law_6 (fun H locs hW => ?_)
  obtain ⟨hP, hD, hS⟩ := hW
  have hF : ∀ q, va_A (fC ax) H.size q → lA s q := fun q h => by
    rcases vA_mem.mp h with ⟨e, h⟩ | h
    · exact (vD_pw.mp hD).2 (q, e) h
    · exact Nat.le_trans hS.1 h
  refine q_call0 (va_runI (As := [.int (p0v L xs)]) (rest := [.ref ax]) ⟨hx, hb, hml, hown, htg⟩ (k_PS_init l G H.size ax n n81 (p0v L xs) hpl) (cwI 1 htg (gC gw_45) rfl rfl rfl (htg _ gw_31) (htg _ gw_43) (htg _ gw_44) rfl (by decide +kernel) ⟨Nat.le_of_ble_eq_true rfl, Nat.le_of_ble_eq_true rfl⟩) (pS hK hN hP hD) rfl rfl hl.1 rfl (lv_room (Nat.le_of_ble_eq_true rfl)) d_law_9 ⟨Nat.le_of_ble_eq_true rfl, Nat.le_of_ble_eq_true rfl⟩) hS (fun q _ h => hF q h) hF (fun H1 locs hB hz hk hS => ?_)
  obtain ⟨q1, q2, q3, q4, q5, q6, q7, q8, q9, q10, q11, q12, q13, hP1, hD1⟩ := hB
  obtain ⟨hP, hD⟩ := q_joinA hF hP1 hD1
  clear hP1 hD1
  generalize H1 = H at hP hS ⊢
  refine lv_astore_n (lv' := [(1, .ref ax), (0, .ref b)]) hx hb d_law_12 rfl hl (by decide) rfl (fun ls hl => ?_)
  refine va_new (ci := 6) (fs := [.int (0 : Int32), .int (0 : Int32), .int (0 : Int32), .null, .null, .null, .null, .null, .null, .null, .null, .int (0 : Int32), .null, .null, .null, .null, .null, .null, .null, .null, .int (0 : Int32), .null, .int (0 : Int32), .int (0 : Int32), .int (0 : Int32)]) (C := "PlayStatesModel") (T := TMd) (N := 25) hx hb htg iw_6 tyMd tyMd_ok hown (htg _ gw_372) (htg _ gw_373) (htg _ gw_36) hK hP hD hS hA rfl (by decide +kernel) (Nat.le_of_ble_eq_true rfl) (Nat.le_of_ble_eq_true rfl) d_law_13 (fun bx H hP hD hS => ?_)
  replace hP : va_P G.1 vwCl (cC G ax q1 q2 q3 q4 q5 q6 q7 q8 q9 q10 q11 q12 q13 n ++ fM bx) H := hP
  replace hD : va_D (lA s) (cC G ax q1 q2 q3 q4 q5 q6 q7 q8 q9 q10 q11 q12 q13 n ++ fM bx) := hD
  refine lv_dup hx hb d_law_16 rfl ?_
  refine lv_aload_n hx hb d_law_17 rfl (lv_at hl 1 rfl) ?_
  refine lv_iconst (v := 0) hx hb d_law_18 (by decide) ?_
  refine L_cell C0 hL ⟨hP, hD, hS⟩ hl.1 (Nat.le_of_ble_eq_true rfl) (Nat.le_of_ble_eq_true rfl) (Nat.le_of_ble_eq_true rfl) d_law_19 (fun H locs hW => ?_)
  obtain ⟨hP, hD, hS⟩ := hW
  have hF : ∀ q, va_A (cC G ax q1 q2 q3 q4 q5 q6 q7 q8 q9 q10 q11 q12 q13 n ++ fM bx) H.size q → lA s q := fun q h => by
    rcases vA_mem.mp h with ⟨e, h⟩ | h
    · exact (vD_pw.mp hD).2 (q, e) h
    · exact Nat.le_trans hS.1 h
  have hF2 : ∀ q, va_A (fM bx) H.size q → lA s q := fun q h => hF q (vA_sub (wc := fM bx) (wr := cC G ax q1 q2 q3 q4 q5 q6 q7 q8 q9 q10 q11 q12 q13 n) List.perm_append_comm h)
  refine q_call0 (va_runI (As := [.int (p0v L xs)]) (rest := [.ref bx]) ⟨hx, hb, hml, hown, htg⟩ (k_Md_init l G H.size bx (p0v L xs) (nI n) hcs) (cwI 1 htg (gC gw_376) rfl rfl rfl (htg _ gw_36) (htg _ gw_374) (htg _ gw_375) rfl (by decide +kernel) ⟨Nat.le_of_ble_eq_true rfl, Nat.le_of_ble_eq_true rfl⟩) (pS hK hN (vP_right hP) (vD_left (vD_perm List.perm_append_comm hD))) rfl rfl hl.1 rfl (lv_room (Nat.le_of_ble_eq_true rfl)) d_law_22 ⟨Nat.le_of_ble_eq_true rfl, Nat.le_of_ble_eq_true rfl⟩) hS (fun q _ h => hF2 q h) hF2 (fun H1 locs hB hz hk hS => ?_)
  obtain ⟨r1, r2, r3, r4, r5, r6, r7, r8, r9, r10, r11, r12, r13, r14, r15, r16, r17, hP1, hD1⟩ := hB
  obtain ⟨hP2, hD2⟩ := vJ (L := cC G ax q1 q2 q3 q4 q5 q6 q7 q8 q9 q10 q11 q12 q13 n ++ fM bx) (wc := fM bx) (wr := cC G ax q1 q2 q3 q4 q5 q6 q7 q8 q9 q10 q11 q12 q13 n) rfl List.perm_append_comm hP hD hk hP1 hD1
  have hW : Wd s G (cC G ax q1 q2 q3 q4 q5 q6 q7 q8 q9 q10 q11 q12 q13 n ++ mC G bx r1 r2 r3 r4 r5 r6 r7 r8 r9 r10 r11 r12 r13 r14 r15 r16 r17 (nI n)) H1 locs := ⟨vP_perm List.perm_append_comm hP2, (vD_perm List.perm_append_comm hD2).weaken (fun _ q _ h => hF q.1 h), hS⟩
  refine lv_astore_n (lv' := [(2, .ref bx), (1, .ref ax), (0, .ref b)]) hx hb d_law_25 rfl hl (by decide) rfl (fun ls hl => ?_)
  refine lv_iconst (v := 1) hx hb d_law_26 (by decide) ?_
  refine lv_istore_n (lv' := [(3, .int 1), (2, .ref bx), (1, .ref ax), (0, .ref b)]) hx hb d_law_27 rfl hl (by decide) rfl (fun ls hl => ?_)
  refine W.widen (k := 100 + 1) (n := 20000 + 172 * 1) (Nat.le_of_ble_eq_true rfl) (Nat.le_of_ble_eq_true rfl) ?_
  exact law_loop C0 hK hN hL (L + 6) 1 (by omega) (by omega) _ H1 locs ls (Good_start G ax q1 q2 q3 q4 q5 q6 q7 q8 q9 q10 q11 q12 q13 bx r1 r2 r3 r4 r5 r6 r7 r8 r9 r10 r11 r12 r13 r14 r15 r16 r17 n n1 n81) hW (lv_sub hl [3, 2, 1, 0] rfl)
