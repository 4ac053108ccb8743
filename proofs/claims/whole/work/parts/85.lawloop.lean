
theorem le_len {i L : Nat} (hL : L ≤ 2561) (hi : i < 2 ^ 30) (h : ¬ Int32.ofNat L - 5 < nI i) : i + 5 ≤ L := by
  rcases Nat.lt_or_ge L 5 with q | q
  · exfalso
    apply h
    have h0 : (0 : Int32) ≤ nI i := nI_pos' (by omega)
    have hz : Int32.ofNat L - 5 < 0 := by
      rcases (show L = 0 ∨ L = 1 ∨ L = 2 ∨ L = 3 ∨ L = 4 by omega) with rfl | rfl | rfl | rfl | rfl <;> decide
    exact Int32.lt_of_lt_of_le hz h0
  · rcases Nat.lt_or_ge L (i + 5) with q2 | q2
    · exact absurd (show Int32.ofNat L - 5 < nI i by rw [show Int32.ofNat L - 5 = nI (L - 5) from pk_sub (a := L) (b := 5) q]; exact nI_lt (by omega) (by omega)) h
    · exact q2
set_option maxHeartbeats 4000000 in
set_option maxRecDepth 100000 in
theorem law_loop {p : Program} {l : Launch} {e : Env} {s : State} {m : MethodId} {below : List Frame} {meth : Method} {c : Code} {G : gG} {b L : Nat} {xs : Nat → Int32} {ax bx : Nat} (C0 : lw_At p s m meth c b L xs) (hK : va_K G.1 vwCl (tyL G) s) (hN : nW s) (hL : L ≤ 2561) :
    ∀ (N i : Nat), L + 6 ≤ i + N → i ≤ L + 5 → ∀ (w : va_W) (H : Heap) (locs : List Loc) (ls : Array Slot), Good G ax bx w → Wd s G w H locs → lv_has ls 4 (lvL b ax bx (nI i)) → W p l e room_1 s m #[Value.ref b] below meth c H locs (100 + i) (20000 + 172 * i) (lw_Z below #[Value.ref b] s) (F0 m 28 ls []) := by
  obtain ⟨hx, hb, hr, hml, hown, hts, hX, hbl, hlocks, hgv⟩ := id C0
  have hbA : ¬ lA s b := Nat.not_le.mpr hbl
  intro N
  induction N with
  | zero => intro i h1 h2; exact absurd h1 (by omega)
  | succ N ih =>
    intro i h1 h2 w H locs ls hG hW hl
    refine lv_iload_n hx hb d_law_28 rfl (lv_at hl 3 rfl) ?_
    refine lv_aload_n hx hb d_law_29 rfl (lv_at hl 0 rfl) ?_
    refine va_slen hx hb hX hbl hbA hW.2.2 d_law_30 ?_
    refine lv_iconst (v := 5) hx hb d_law_31 (by decide) ?_
    refine lv_isub hx hb d_law_32 ?_
    refine lv_icmp_gt (tgt := 778) hx hb d_law_33 (by decide) (fun h => ?_) (fun h => ?_)
    · refine lv_iconst (v := 1) hx hb d_law_778 (by decide) ?_
      refine va_forget (fun q hq => hW.2.2.2.2 q hq) ?_
      refine W.widen (k := 600000) (n := 7302250) (by omega) (by omega) ?_
      exact lw_ret hx hb hr hlocks d_law_779
    · have hi := le_len hL (by omega) h
      have go : ∀ (w1 : va_W) (H1 : Heap) (locs1 : List Loc), Good G ax bx w1 → Wd s G w1 H1 locs1 → W p l e room_1 s m #[Value.ref b] below meth c H1 locs1 (100 + i + 5) (20000 + 172 * i + 172) (lw_Z below #[Value.ref b] s) (F0 m 772 ls []) := by
        intro w1 H1 locs1 hG1 hW1
        refine lv_iinc (v := nI (i + 5)) (lv' := [(3, .int (nI (i + 5))), (0, .ref b), (1, .ref ax), (2, .ref bx)]) hx hb d_law_772 hl (k := 3) rfl (by rw [show Int32.ofInt 5 = nI 5 from rfl, nI_add]) (by decide) rfl (fun ls hl => ?_)
        refine lv_goto (tgt := 28) hx hb d_law_775 (by decide) ?_
        refine W.widen (k := 100 + (i + 5)) (n := 20000 + 172 * (i + 5)) (by omega) (by omega) ?_
        exact ih (i + 5) (by omega) (by omega) w1 H1 locs1 ls hG1 hW1 (lv_sub hl [1, 2, 3, 0] rfl)
      refine lv_aload_n hx hb d_law_36 rfl (lv_at hl 0 rfl) ?_
      refine lv_iload_n hx hb d_law_37 rfl (lv_at hl 3 rfl) ?_
      refine va_sld hx hb hX hbl hbA hW.2.2 (vp_in_nI (show i < L by omega) (by omega)) d_law_38 ?_
      refine lv_bipush (v := 31) hx hb d_law_39 (by decide) ?_
      refine lv_iand hx hb d_law_41 ?_
      refine lv_topi (fun x ex => ?_)
      by_cases ho : x.toInt < 0 ∨ 18 < x.toInt
      · refine lv_tableOut (tgt := 772) hx hb d_law_42 ho (by decide) ?_
        exact W.widen (k := 100 + i + 5) (n := 20000 + 172 * i + 172) (by omega) (by omega) (go w H locs hG hW)
      · obtain ⟨t, ht, ht18⟩ : ∃ t : Nat, x.toInt = (t : Int) ∧ t ≤ 18 := ⟨x.toInt.toNat, by omega, by omega⟩
        rcases (show t = 0 ∨ t = 1 ∨ t = 2 ∨ t = 3 ∨ t = 4 ∨ t = 5 ∨ t = 6 ∨ t = 7 ∨ t = 8 ∨ t = 9 ∨ t = 10 ∨ t = 11 ∨ t = 12 ∨ t = 13 ∨ t = 14 ∨ t = 15 ∨ t = 16 ∨ t = 17 ∨ t = 18 by omega) with rfl | rfl | rfl | rfl | rfl | rfl | rfl | rfl | rfl | rfl | rfl | rfl | rfl | rfl | rfl | rfl | rfl | rfl | rfl
        · exact lv_tableIn (off := 90) (tgt := 132) hx hb d_law_42 (by rw [ht]; decide) (by rw [ht]; decide) (by rw [ht]; rfl) (by decide) (L_person C0 hK hN hL hi hl hG hW (by omega) (by omega) go)
        · exact lv_tableIn (off := 103) (tgt := 145) hx hb d_law_42 (by rw [ht]; decide) (by rw [ht]; decide) (by rw [ht]; rfl) (by decide) (L_enter C0 hK hN hL hi hl hG hW (by omega) (by omega) go)
        · exact lv_tableIn (off := 146) (tgt := 188) hx hb d_law_42 (by rw [ht]; decide) (by rw [ht]; decide) (by rw [ht]; rfl) (by decide) (L_mark C0 hK hN hL hi hl hG hW (by omega) (by omega) go)
        · exact lv_tableIn (off := 215) (tgt := 257) hx hb d_law_42 (by rw [ht]; decide) (by rw [ht]; decide) (by rw [ht]; rfl) (by decide) (L_undo C0 hK hN hL hi hl hG hW (by omega) (by omega) go)
        · exact lv_tableIn (off := 238) (tgt := 280) hx hb d_law_42 (by rw [ht]; decide) (by rw [ht]; decide) (by rw [ht]; rfl) (by decide) (L_redo C0 hK hN hL hi hl hG hW (by omega) (by omega) go)
        · exact lv_tableIn (off := 271) (tgt := 313) hx hb d_law_42 (by rw [ht]; decide) (by rw [ht]; decide) (by rw [ht]; rfl) (by decide) (L_branches C0 hK hN hL hi hl hG hW (by omega) (by omega) go)
        · exact lv_tableIn (off := 294) (tgt := 336) hx hb d_law_42 (by rw [ht]; decide) (by rw [ht]; decide) (by rw [ht]; rfl) (by decide) (L_at C0 hK hN hL hi hl hG hW (by omega) (by omega) go)
        · exact lv_tableIn (off := 327) (tgt := 369) hx hb d_law_42 (by rw [ht]; decide) (by rw [ht]; decide) (by rw [ht]; rfl) (by decide) (L_marks C0 hK hN hL hi hl hG hW (by omega) (by omega) go)
        · exact lv_tableIn (off := 360) (tgt := 402) hx hb d_law_42 (by rw [ht]; decide) (by rw [ht]; decide) (by rw [ht]; rfl) (by decide) (L_truth C0 hK hN hL hi hl hG hW (by omega) (by omega) go)
        · exact lv_tableIn (off := 393) (tgt := 435) hx hb d_law_42 (by rw [ht]; decide) (by rw [ht]; decide) (by rw [ht]; rfl) (by decide) (L_wrong C0 hK hN hL hi hl hG hW (by omega) (by omega) go)
        · exact lv_tableIn (off := 416) (tgt := 458) hx hb d_law_42 (by rw [ht]; decide) (by rw [ht]; decide) (by rw [ht]; rfl) (by decide) (L_help C0 hK hN hL hi hl hG hW (by omega) (by omega) go)
        · exact lv_tableIn (off := 439) (tgt := 481) hx hb d_law_42 (by rw [ht]; decide) (by rw [ht]; decide) (by rw [ht]; rfl) (by decide) (L_helps C0 hK hN hL hi hl hG hW (by omega) (by omega) go)
        · exact lv_tableIn (off := 462) (tgt := 504) hx hb d_law_42 (by rw [ht]; decide) (by rw [ht]; decide) (by rw [ht]; rfl) (by decide) (L_timer C0 hK hN hL hi hl hG hW (by omega) (by omega) go)
        · exact lv_tableIn (off := 551) (tgt := 593) hx hb d_law_42 (by rw [ht]; decide) (by rw [ht]; decide) (by rw [ht]; rfl) (by decide) (L_time C0 hK hN hL hi hl hG hW (by omega) (by omega) go)
        · exact lv_tableIn (off := 615) (tgt := 657) hx hb d_law_42 (by rw [ht]; decide) (by rw [ht]; decide) (by rw [ht]; rfl) (by decide) (L_join C0 hK hN hL hi hl hG hW (by omega) (by omega) go)
        · exact lv_tableIn (off := 648) (tgt := 690) hx hb d_law_42 (by rw [ht]; decide) (by rw [ht]; decide) (by rw [ht]; rfl) (by decide) (L_save C0 hK hN hL hi hl hG hW (by omega) (by omega) go)
        · exact lv_tableIn (off := 681) (tgt := 723) hx hb d_law_42 (by rw [ht]; decide) (by rw [ht]; decide) (by rw [ht]; rfl) (by decide) (L_unit C0 hK hN hL hi hl hG hW (by omega) (by omega) go)
        · exact lv_tableIn (off := 704) (tgt := 746) hx hb d_law_42 (by rw [ht]; decide) (by rw [ht]; decide) (by rw [ht]; rfl) (by decide) (L_load C0 hK hN hL hi hl hG hW (by omega) (by omega) go)
        · exact lv_tableIn (off := 717) (tgt := 759) hx hb d_law_42 (by rw [ht]; decide) (by rw [ht]; decide) (by rw [ht]; rfl) (by decide) (L_rows C0 hK hN hL hi hl hG hW (by omega) (by omega) go)
